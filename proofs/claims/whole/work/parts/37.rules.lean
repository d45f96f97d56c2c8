def RulesRep (N : Nat) (f s g h : Nat → Int32) (F S : Nat → Nat) : Prop := N ≤ 10 ∧ ∀ i, i < N → f i = iZ (F i) ∧ s i = iZ (S i) ∧ g i = iZ (F i) ∧ h i = iZ (S i) ∧ F i < 10 ∧ S i < 10 ∧ F i ≠ S i
def SightsRep (N : Nat) (f s q : Nat → Int32) (F S : Nat → Nat) : Prop := N ≤ 8 ∧ ∀ i, i < N → f i = iZ (F i) ∧ s i = iZ (S i) ∧ q (2 * i) = iZ (F i) ∧ q (2 * i + 1) = iZ (S i) ∧ F i ≤ 16 ∧ S i ≤ 60
theorem append_s {m n : Nat} (hm : m ≤ 1000) (hn : n < m) (f s : Nat → Int32) (x y : Int32) : f_X5_append m (iZ n) f s x y = some (iZ ((n + 1 : Nat) : Int), upd f n x, upd s n y) := by
  unfold f_X5_append
  rw [z_nI, if_neg (by rw [z_le] <;> omega), put_n hn hm, bd1_s, put_n hn hm, bd1_s, show (1 : Int32) = iZ 1 from rfl, z_add]
  rfl
theorem RulesRep.push {N : Nat} {f s g h : Nat → Int32} {F S : Nat → Nat} (hR : RulesRep N f s g h F S) (hN : N < 10) {a b : Nat} (ha : a < 10) (hb : b < 10) (hab : a ≠ b) : RulesRep (N + 1) (upd f N (iZ a)) (upd s N (iZ b)) (upd g N (iZ a)) (upd h N (iZ b)) (fun i => if i = N then a else F i) (fun i => if i = N then b else S i) := by
  refine ⟨by omega, fun i hi => ?_⟩
  by_cases hk : i = N
  · subst hk
    simp only [upd_at, if_pos]
    exact ⟨trivial, trivial, trivial, trivial, ha, hb, hab⟩
  · rw [upd_ne _ _ hk, upd_ne _ _ hk, upd_ne _ _ hk, upd_ne _ _ hk]
    simp only [if_neg hk]
    exact hR.2 i (by omega)
theorem rule_both {N : Nat} {f s g h : Nat → Int32} {F S : Nat → Nat} (hR : RulesRep N f s g h F S) (x y : Int32) :
    ∃ v n2 f2 s2 g2 h2, f_X10_rule (iZ N) f s x y = some (v, n2, f2, s2) ∧ f_X11_rule (iZ N) g h x y = some (v, n2, g2, h2) ∧ ∃ N2 F2 S2, n2 = iZ ((N2 : Nat) : Int) ∧ RulesRep N2 f2 s2 g2 h2 F2 S2 := by
  obtain ⟨z, z1, z2, rfl⟩ := z_of x
  obtain ⟨u, u1, u2, rfl⟩ := z_of y
  have hN := hR.1
  unfold f_X10_rule f_X11_rule
  rw [isMem_z z1 z2, isMem_z u1 u2, show (0 : Int32) = iZ 0 from rfl, show (9 : Int32) = iZ 9 from rfl, within_z z1 z2 (by omega) (by omega) (by omega) (by omega), within_z u1 u2 (by omega) (by omega) (by omega) (by omega), bd1_s, bd1_s, bd1_s, bd1_s]
  by_cases ha : 0 ≤ z ∧ z ≤ 9
  · rw [if_neg (bzN ha), if_neg (bzN ha)]
    by_cases hc : 0 ≤ u ∧ u ≤ 9
    · rw [if_neg (bzN hc), if_neg (bzN hc)]
      by_cases he : z = u
      · subst he
        rw [if_pos rfl, if_pos rfl]
        exact ⟨_, _, _, _, _, _, rfl, rfl, N, F, S, rfl, hR⟩
      · have hne : ¬ iZ z = iZ u := by rw [z_eq z1 z2 u1 u2]; exact he
        rw [if_neg hne, if_neg hne, show (10 : Int32) = iZ 10 from rfl]
        by_cases hf : N < 10
        · obtain ⟨a, rfl⟩ : ∃ i : Nat, z = i := ⟨z.toNat, by omega⟩
          obtain ⟨b, rfl⟩ : ∃ i : Nat, u = i := ⟨u.toNat, by omega⟩
          have c1 : iZ (N : Int) < iZ 10 := by rw [z_lt] <;> omega
          have c2 : ¬ iZ (N : Int) = iZ 10 := by rw [z_eq] <;> omega
          rw [if_pos c1, if_neg c2, append_s (by omega) hf, bd3_s, gd_z (by omega) (by omega) (by omega), gd_z (by omega) (by omega) (by omega), z_cl (by omega) (by omega), Int.toNat_natCast, show (1 : Int32) = iZ 1 from rfl, z_add]
          exact ⟨_, _, _, _, _, _, rfl, rfl, N + 1, _, _, rfl, hR.push hf (by omega) (by omega) (by omega)⟩
        · have c1 : ¬ iZ (N : Int) < iZ 10 := by rw [z_lt] <;> omega
          have c2 : iZ (N : Int) = iZ 10 := by rw [z_eq] <;> omega
          rw [if_neg c1, if_pos c2]
          exact ⟨_, _, _, _, _, _, rfl, rfl, N, F, S, rfl, hR⟩
    · rw [if_pos (bzP hc), if_pos (bzP hc)]
      exact ⟨_, _, _, _, _, _, rfl, rfl, N, F, S, rfl, hR⟩
  · rw [if_pos (bzP ha), if_pos (bzP ha)]
    exact ⟨_, _, _, _, _, _, rfl, rfl, N, F, S, rfl, hR⟩
theorem unrule_both (N : Nat) : f_X10_unrule (iZ N) = some (iZ N, iZ ((0 : Nat) : Int)) ∧ f_X11_unrule (iZ N) = some (iZ N, iZ ((0 : Nat) : Int)) := ⟨rfl, rfl⟩
theorem forget_both (N : Nat) : f_X10_forget (iZ N) = some (iZ N, iZ ((0 : Nat) : Int)) ∧ f_X11_forget (iZ N) = some (iZ N, iZ ((0 : Nat) : Int)) := ⟨rfl, rfl⟩
theorem SightsRep.push {N : Nat} {f s q : Nat → Int32} {F S : Nat → Nat} (hR : SightsRep N f s q F S) (hN : N < 8) {a b : Nat} (ha : a ≤ 16) (hb : b ≤ 60) : SightsRep (N + 1) (upd f N (iZ a)) (upd s N (iZ b)) (upd (upd q (2 * N) (iZ a)) (2 * N + 1) (iZ b)) (fun i => if i = N then a else F i) (fun i => if i = N then b else S i) := by
  refine ⟨by omega, fun i hi => ?_⟩
  by_cases hk : i = N
  · subst hk
    rw [upd_ne _ _ (show 2 * i ≠ 2 * i + 1 by omega)]
    simp only [upd_at, if_pos]
    exact ⟨trivial, trivial, trivial, trivial, ha, hb⟩
  · rw [upd_ne _ _ hk, upd_ne _ _ hk, upd_ne _ _ (show 2 * i ≠ 2 * N + 1 by omega), upd_ne _ _ (show 2 * i ≠ 2 * N by omega), upd_ne _ _ (show 2 * i + 1 ≠ 2 * N + 1 by omega), upd_ne _ _ (show 2 * i + 1 ≠ 2 * N by omega)]
    simp only [if_neg hk]
    exact hR.2 i (by omega)
theorem seen_both {N : Nat} {f s q : Nat → Int32} {F S : Nat → Nat} (hR : SightsRep N f s q F S) (x y : Int32) :
    ∃ v n2 f2 s2 q2, f_X10_seen (iZ N) f s x y = some (v, n2, f2, s2) ∧ f_X11_seen (iZ N) q x y = some (v, n2, q2) ∧ ∃ N2 F2 S2, n2 = iZ ((N2 : Nat) : Int) ∧ SightsRep N2 f2 s2 q2 F2 S2 := by
  obtain ⟨z, z1, z2, rfl⟩ := z_of x
  obtain ⟨u, u1, u2, rfl⟩ := z_of y
  have hN := hR.1
  unfold f_X10_seen f_X11_seen
  rw [show (0 : Int32) = iZ 0 from rfl, show (16 : Int32) = iZ 16 from rfl, show (60 : Int32) = iZ 60 from rfl, within_z z1 z2 (by omega) (by omega) (by omega) (by omega), in_z z1 z2 (by omega) (by omega) (by omega) (by omega), within_z u1 u2 (by omega) (by omega) (by omega) (by omega), in_z u1 u2 (by omega) (by omega) (by omega) (by omega), bd1_s, bd1_s, bd1_s, bd1_s]
  by_cases ha : 0 ≤ z ∧ z ≤ 16
  · rw [if_neg (bzN ha), if_neg (bzN ha)]
    by_cases hc : 0 ≤ u ∧ u ≤ 60
    · rw [if_neg (bzN hc), if_neg (bzN hc), show (8 : Int32) = iZ 8 from rfl]
      by_cases hf : N < 8
      · obtain ⟨a, rfl⟩ : ∃ i : Nat, z = i := ⟨z.toNat, by omega⟩
        obtain ⟨b, rfl⟩ : ∃ i : Nat, u = i := ⟨u.toNat, by omega⟩
        have c1 : iZ (N : Int) < iZ 8 := by rw [z_lt] <;> omega
        have c2 : ¬ iZ (N : Int) = iZ 8 := by rw [z_eq] <;> omega
        rw [if_pos c1, if_neg c2, append_s (by omega) hf, bd3_s, show (2 : Int32) = iZ 2 from rfl, show (1 : Int32) = iZ 1 from rfl, z_mul, z_add, gd_z (by omega) (by omega) (by omega), gd_z (by omega) (by omega) (by omega), z_cl (by omega) (by omega), z_cl (by omega) (by omega), show ((2 : Int) * (N : Int)).toNat = 2 * N by omega, show ((2 : Int) * (N : Int) + 1).toNat = 2 * N + 1 by omega, z_add]
        exact ⟨_, _, _, _, _, rfl, rfl, N + 1, _, _, rfl, hR.push hf (by omega) (by omega)⟩
      · have c1 : ¬ iZ (N : Int) < iZ 8 := by rw [z_lt] <;> omega
        have c2 : iZ (N : Int) = iZ 8 := by rw [z_eq] <;> omega
        rw [if_neg c1, if_pos c2]
        exact ⟨_, _, _, _, _, rfl, rfl, N, F, S, rfl, hR⟩
    · rw [if_pos (bzP hc), if_pos (bzP hc)]
      exact ⟨_, _, _, _, _, rfl, rfl, N, F, S, rfl, hR⟩
  · rw [if_pos (bzP ha), if_pos (bzP ha)]
    exact ⟨_, _, _, _, _, rfl, rfl, N, F, S, rfl, hR⟩
theorem told_both {w k c d wd ky wi dl ro pl bk : Nat → Int32} {W K C D : Nat → Nat} {A B : List Nat} {b n r s : Nat} (h1 : Same 10 1 15 w wd W) (h2 : Same 10 0 12 k ky K) (h3 : Same 17 1 30 c wi C) (h4 : Same 2 0 20 d dl D) (hR : RowsRep ro pl A B) (hB : BookRep bk A B b) (hW : Wf A B) (x : Int32) :
    ∃ v, f_X10_told w k c d (iZ b) ro pl (iZ r) (iZ s) (iZ n) x = some v ∧ f_X11_told (iZ r) (iZ s) (iZ n) bk wd ky wi dl x = some v := by
  obtain ⟨z, z1, z2, rfl⟩ := z_of x
  have E : f_X10_told w k c d (iZ b) ro pl (iZ r) (iZ s) (iZ n) (iZ z) = some (
      if 0 ≤ z ∧ z ≤ 5 then (if z = 0 then iZ n else if z = 1 then iZ A.length else if z = 2 then iZ B.length else if z = 3 then iZ b else if z = 4 then iZ r else iZ s)
      else if 6 ≤ z ∧ z ≤ 7 then iZ (D (z - 6).toNat) else if 20 ≤ z ∧ z ≤ 36 then iZ (C (z - 20).toNat) else if 40 ≤ z ∧ z ≤ 49 then iZ (W (z - 40).toNat) else if 60 ≤ z ∧ z ≤ 69 then iZ (K (z - 60).toNat)
      else if 80 ≤ z ∧ z ≤ 85 then iZ (whoZ A B 0 (z - 80).toNat) else if 90 ≤ z ∧ z ≤ 95 then iZ (whoZ A B 1 (z - 90).toNat) else iZ (-2)) := by
    unfold f_X10_told f_X10_toldCount
    have l0 : f_X7_lengthOf ro (iZ 0) = some (iZ A.length) := lengthOf_s hR hW (r := 0) (by omega)
    have l1 : f_X7_lengthOf ro (iZ 1) = some (iZ B.length) := lengthOf_s hR hW (r := 1) (by omega)
    have w0 : ∀ m : Nat, m < 1000 → f_X7_whoIsAt ro pl (iZ 0) (iZ m) = some (iZ (whoZ A B 0 m)) := fun m hm => whoIsAt_s hR hW (r := 0) (by omega) m hm
    have w1 : ∀ m : Nat, m < 1000 → f_X7_whoIsAt ro pl (iZ 1) (iZ m) = some (iZ (whoZ A B 1 m)) := fun m hm => whoIsAt_s hR hW (r := 1) (by omega) m hm
    rw [show (0 : Int32) = iZ 0 from rfl, show (1 : Int32) = iZ 1 from rfl, l0, l1, show (2 : Int32) = iZ 2 from rfl, show (3 : Int32) = iZ 3 from rfl, show (4 : Int32) = iZ 4 from rfl, show (5 : Int32) = iZ 5 from rfl, show (6 : Int32) = iZ 6 from rfl, show (7 : Int32) = iZ 7 from rfl, show (20 : Int32) = iZ 20 from rfl, show (36 : Int32) = iZ 36 from rfl, show (40 : Int32) = iZ 40 from rfl, show (49 : Int32) = iZ 49 from rfl, show (60 : Int32) = iZ 60 from rfl, show (69 : Int32) = iZ 69 from rfl, show (80 : Int32) = iZ 80 from rfl, show (85 : Int32) = iZ 85 from rfl, show (90 : Int32) = iZ 90 from rfl, show (95 : Int32) = iZ 95 from rfl]
    rw [within_z z1 z2 (by omega) (by omega) (by omega) (by omega), bd1_s]
    by_cases a0 : 0 ≤ z ∧ z ≤ 5
    · rw [if_neg (bzN a0), if_pos a0]
      simp (disch := omega) only [z_eq]
      by_cases e0 : z = 0
      · rw [if_pos (by omega), if_pos e0]; rfl
      · rw [if_neg (by omega), if_neg e0]
        by_cases e1 : z = 1
        · rw [if_pos (by omega), if_pos e1]; rfl
        · rw [if_neg (by omega), if_neg e1]
          by_cases e2 : z = 2
          · rw [if_pos e2, if_pos e2]; rfl
          · rw [if_neg e2, if_neg e2]
            by_cases e3 : z = 3
            · rw [if_pos e3, if_pos e3]; rfl
            · rw [if_neg e3, if_neg e3]
              by_cases e4 : z = 4
              · rw [if_pos e4, if_pos e4]; rfl
              · rw [if_neg e4, if_neg e4]; rfl
    · rw [if_pos (bzP a0), if_neg a0, within_z z1 z2 (by omega) (by omega) (by omega) (by omega), bd1_s]
      by_cases a1 : 6 ≤ z ∧ z ≤ 7
      · obtain ⟨m, rfl⟩ : ∃ m : Nat, z = ((6 + m : Nat) : Int) := ⟨(z - 6).toNat, by omega⟩
        rw [if_neg (bzN a1), if_pos a1, z_sub, show (((6 + m : Nat) : Int) - 6) = (m : Int) by omega, at_n (by omega) (by omega), bd1_s, (h4 m (by omega)).1, Int.toNat_natCast]
      · rw [if_pos (bzP a1), if_neg a1, within_z z1 z2 (by omega) (by omega) (by omega) (by omega), bd1_s]
        by_cases a2 : 20 ≤ z ∧ z ≤ 36
        · obtain ⟨m, rfl⟩ : ∃ m : Nat, z = ((20 + m : Nat) : Int) := ⟨(z - 20).toNat, by omega⟩
          rw [if_neg (bzN a2), if_pos a2, z_sub, show (((20 + m : Nat) : Int) - 20) = (m : Int) by omega, at_n (by omega) (by omega), bd1_s, (h3 m (by omega)).1, Int.toNat_natCast]
        · rw [if_pos (bzP a2), if_neg a2, within_z z1 z2 (by omega) (by omega) (by omega) (by omega), bd1_s]
          by_cases a3 : 40 ≤ z ∧ z ≤ 49
          · obtain ⟨m, rfl⟩ : ∃ m : Nat, z = ((40 + m : Nat) : Int) := ⟨(z - 40).toNat, by omega⟩
            rw [if_neg (bzN a3), if_pos a3, z_sub, show (((40 + m : Nat) : Int) - 40) = (m : Int) by omega, at_n (by omega) (by omega), bd1_s, (h1 m (by omega)).1, Int.toNat_natCast]
          · rw [if_pos (bzP a3), if_neg a3, within_z z1 z2 (by omega) (by omega) (by omega) (by omega), bd1_s]
            by_cases a4 : 60 ≤ z ∧ z ≤ 69
            · obtain ⟨m, rfl⟩ : ∃ m : Nat, z = ((60 + m : Nat) : Int) := ⟨(z - 60).toNat, by omega⟩
              rw [if_neg (bzN a4), if_pos a4, z_sub, show (((60 + m : Nat) : Int) - 60) = (m : Int) by omega, at_n (by omega) (by omega), bd1_s, (h2 m (by omega)).1, Int.toNat_natCast]
            · rw [if_pos (bzP a4), if_neg a4, within_z z1 z2 (by omega) (by omega) (by omega) (by omega), bd1_s]
              by_cases a5 : 80 ≤ z ∧ z ≤ 85
              · obtain ⟨m, rfl⟩ : ∃ m : Nat, z = ((80 + m : Nat) : Int) := ⟨(z - 80).toNat, by omega⟩
                rw [if_neg (bzN a5), if_pos a5, z_sub, show (((80 + m : Nat) : Int) - 80) = (m : Int) by omega, w0 m (by omega), bd1_s, Int.toNat_natCast]
              · rw [if_pos (bzP a5), if_neg a5, within_z z1 z2 (by omega) (by omega) (by omega) (by omega), bd1_s]
                by_cases a6 : 90 ≤ z ∧ z ≤ 95
                · obtain ⟨m, rfl⟩ : ∃ m : Nat, z = ((90 + m : Nat) : Int) := ⟨(z - 90).toNat, by omega⟩
                  rw [if_neg (bzN a6), if_pos a6, z_sub, show (((90 + m : Nat) : Int) - 90) = (m : Int) by omega, w1 m (by omega), bd1_s, Int.toNat_natCast]
                · rw [if_pos (bzP a6), if_neg a6, z_neg]
  refine ⟨_, E, ?_⟩
  clear E
  have hlA := hW.1
  have hlB := hW.2.1
  unfold f_X11_told f_X11_told_j31
  rw [show (0 : Int32) = iZ 0 from rfl, show (1 : Int32) = iZ 1 from rfl, show (2 : Int32) = iZ 2 from rfl, show (3 : Int32) = iZ 3 from rfl, show (4 : Int32) = iZ 4 from rfl, show (5 : Int32) = iZ 5 from rfl, show (6 : Int32) = iZ 6 from rfl, show (7 : Int32) = iZ 7 from rfl, show (8 : Int32) = iZ 8 from rfl, show (10 : Int32) = iZ 10 from rfl, show (12 : Int32) = iZ 12 from rfl, show (13 : Int32) = iZ 13 from rfl, show (14 : Int32) = iZ 14 from rfl, show (20 : Int32) = iZ 20 from rfl, show (36 : Int32) = iZ 36 from rfl, show (40 : Int32) = iZ 40 from rfl, show (60 : Int32) = iZ 60 from rfl, show (80 : Int32) = iZ 80 from rfl]
  by_cases c80 : z < 80
  · rw [if_pos (show iZ z < iZ 80 by rw [z_lt] <;> omega)]
    by_cases c60 : z < 60
    · rw [if_pos (show iZ z < iZ 60 by rw [z_lt] <;> omega)]
      by_cases c40 : z < 40
      · rw [if_pos (show iZ z < iZ 40 by rw [z_lt] <;> omega)]
        by_cases c20 : z < 20
        · rw [if_pos (show iZ z < iZ 20 by rw [z_lt] <;> omega)]
          simp (disch := omega) only [in_z, z_eq, bd1_s, z_sub, z_neg]
          by_cases a0 : 0 ≤ z ∧ z ≤ 5
          · rw [if_pos a0]
            by_cases e0 : z = 0
            · rw [if_pos e0, if_pos e0]
            · rw [if_neg e0, if_neg e0]
              by_cases e1 : z = 1
              · rw [if_pos e1, if_pos e1, gd_z (by omega) (by omega) (by omega)]
                exact congrArg some hB.2.2.1
              · rw [if_neg e1, if_neg e1]
                by_cases e2 : z = 2
                · rw [if_pos e2, if_pos e2, gd_z (by omega) (by omega) (by omega)]
                  exact congrArg some hB.2.2.2.1
                · rw [if_neg e2, if_neg e2]
                  by_cases e3 : z = 3
                  · rw [if_pos e3, if_pos e3, gd_z (by omega) (by omega) (by omega)]
                    exact congrArg some hB.2.2.2.2
                  · rw [if_neg e3, if_neg e3]
                    by_cases e4 : z = 4
                    · rw [if_pos e4, if_pos e4]
                    · rw [if_neg e4, if_neg e4, if_pos (by omega)]
          · rw [if_neg a0, if_neg (by omega), if_neg (by omega), if_neg (by omega), if_neg (by omega), if_neg (by omega), if_neg (by omega)]
            by_cases a1 : 6 ≤ z ∧ z ≤ 7
            · obtain ⟨m, rfl⟩ : ∃ m : Nat, z = ((6 + m : Nat) : Int) := ⟨(z - 6).toNat, by omega⟩
              rw [if_neg (bzN a1), if_pos a1, show (((6 + m : Nat) : Int) - 6) = (m : Int) by omega, gd_z (by omega) (by omega) (by omega), z_cl (by omega) (by omega), Int.toNat_natCast, (h4 m (by omega)).2.1]
            · rw [if_pos (bzP a1), if_neg a1, if_neg (by omega), if_neg (by omega), if_neg (by omega), if_neg (by omega), if_neg (by omega)]
        · rw [if_neg (show ¬ iZ z < iZ 20 by rw [z_lt] <;> omega), if_neg (by omega), if_neg (by omega)]
          simp (disch := omega) only [in_z, bd1_s, z_sub, z_neg]
          by_cases a2 : 20 ≤ z ∧ z ≤ 36
          · obtain ⟨m, rfl⟩ : ∃ m : Nat, z = ((20 + m : Nat) : Int) := ⟨(z - 20).toNat, by omega⟩
            rw [if_neg (bzN a2), if_pos a2, show (((20 + m : Nat) : Int) - 20) = (m : Int) by omega, gd_z (by omega) (by omega) (by omega), z_cl (by omega) (by omega), Int.toNat_natCast, (h3 m (by omega)).2.1]
          · rw [if_pos (bzP a2), if_neg a2, if_neg (by omega), if_neg (by omega), if_neg (by omega), if_neg (by omega)]
      · rw [if_neg (show ¬ iZ z < iZ 40 by rw [z_lt] <;> omega), if_neg (by omega), if_neg (by omega), if_neg (by omega), z_sub, isMem_z (by omega) (by omega), bd1_s]
        by_cases a3 : 0 ≤ z - 40 ∧ z - 40 ≤ 9
        · obtain ⟨m, rfl⟩ : ∃ m : Nat, z = ((40 + m : Nat) : Int) := ⟨(z - 40).toNat, by omega⟩
          rw [if_neg (bzN a3), if_pos (by omega), show (((40 + m : Nat) : Int) - 40) = (m : Int) by omega, gd_z (by omega) (by omega) (by omega), z_cl (by omega) (by omega), Int.toNat_natCast, (h1 m (by omega)).2.1]
        · rw [if_pos (bzP a3), if_neg (by omega), if_neg (by omega), if_neg (by omega), if_neg (by omega), z_neg]
    · rw [if_neg (show ¬ iZ z < iZ 60 by rw [z_lt] <;> omega), if_neg (by omega), if_neg (by omega), if_neg (by omega), if_neg (by omega), z_sub, isMem_z (by omega) (by omega), bd1_s]
      by_cases a3 : 0 ≤ z - 60 ∧ z - 60 ≤ 9
      · obtain ⟨m, rfl⟩ : ∃ m : Nat, z = ((60 + m : Nat) : Int) := ⟨(z - 60).toNat, by omega⟩
        rw [if_neg (bzN a3), if_pos (by omega), show (((60 + m : Nat) : Int) - 60) = (m : Int) by omega, gd_z (by omega) (by omega) (by omega), z_cl (by omega) (by omega), Int.toNat_natCast, (h2 m (by omega)).2.1]
      · rw [if_pos (bzP a3), if_neg (by omega), if_neg (by omega), if_neg (by omega), z_neg]
  · rw [if_neg (show ¬ iZ z < iZ 80 by rw [z_lt] <;> omega), if_neg (show ¬ (0 ≤ z ∧ z ≤ 5) by omega), if_neg (show ¬ (6 ≤ z ∧ z ≤ 7) by omega), if_neg (show ¬ (20 ≤ z ∧ z ≤ 36) by omega), if_neg (show ¬ (40 ≤ z ∧ z ≤ 49) by omega), if_neg (show ¬ (60 ≤ z ∧ z ≤ 69) by omega), z_div (by omega) z2 (by omega) (by omega), z_rem (by omega) z2 (by omega) (by omega), z_sub, isRow_m (by omega) (by omega), bd1_s]
    by_cases a5 : 0 ≤ z / 10 - 8 ∧ z / 10 - 8 ≤ 1
    · rw [if_neg (bzN a5)]
      obtain ⟨i, hi⟩ : ∃ i : Nat, z / 10 - 8 = i := ⟨(z / 10 - 8).toNat, by omega⟩
      obtain ⟨j, hj⟩ : ∃ j : Nat, z % 10 = j := ⟨(z % 10).toNat, by omega⟩
      have hi2 : i < 2 := by omega
      have hlr := hW.len i
      rw [hi, hj]
      by_cases hj5 : j ≤ 5
      · rw [if_pos (by rw [z_le] <;> omega), z_add, z_mul, z_add, gd_z (by omega) (by omega) (by omega), z_cl (by omega) (by omega), z_cl (by omega) (by omega), show ((12 : Int) + (i : Int)).toNat = 12 + i by omega, show ((6 : Int) * (i : Int) + (j : Int)).toNat = 6 * i + j by omega, br_len hB hi2]
        have eR : (if 80 ≤ z ∧ z ≤ 85 then iZ (whoZ A B 0 (z - 80).toNat) else if 90 ≤ z ∧ z ≤ 95 then iZ (whoZ A B 1 (z - 90).toNat) else iZ (-2)) = iZ (whoZ A B i j) := by
          rcases (show i = 0 ∨ i = 1 by omega) with rfl | rfl
          · rw [if_pos (by omega), show (z - 80).toNat = j by omega]
          · rw [if_neg (by omega), if_pos (by omega), show (z - 90).toNat = j by omega]
        rw [eR]
        unfold whoZ
        by_cases hjl : j < (rowL A B i).length
        · have hs : (rowL A B i)[j]? = some ((rowL A B i)[j]'hjl) := List.getElem?_eq_getElem hjl
          rw [if_neg (by rw [z_le] <;> omega), gd_z (by omega) (by omega) (by omega), br_at hB hi2 hs, hs]
        · have hs : (rowL A B i)[j]? = none := List.getElem?_eq_none (by omega)
          rw [if_pos (by rw [z_le] <;> omega), hs]
          rfl
      · rw [if_neg (by rw [z_le] <;> omega), if_neg (by omega), if_neg (by omega), z_neg]
    · rw [if_pos (bzP a5), if_neg (by omega), if_neg (by omega), z_neg]
