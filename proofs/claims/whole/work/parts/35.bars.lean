theorem bzN {p : Prop} [Decidable p] (h : p) : ¬ bz p = iZ 0 := by rw [bz_0]; exact fun g => g h
theorem bzP {p : Prop} [Decidable p] (h : ¬ p) : bz p = iZ 0 := by rw [bz_0]; exact h
theorem bar_ex {sg : Nat → Int32} {P : Nat → Nat} {n : Nat} (hn : n ≤ 60) (hP : ∀ i, i < n → sg i = iZ (P i) ∧ P i ≤ 200) {sm : Nat → Int32} (hPm : ∀ i, i < n → sm i = iZ (P i) ∧ P i ≤ 200) {ro pl bk : Nat → Int32} {A B : List Nat} {b : Nat} (hR : RowsRep ro pl A B) (hB : BookRep bk A B b) (hW : Wf A B) (hb : b ≤ 99)
    (w k c d rf rs sf ss : Nat → Int32) (rc sc : Int32) (w' k' c' d' ro' pl' rf' rs' sf' ss' : Nat → Int32) (b' rc' sc' : Int32) (ac wy : Int32) (rsM acM : Int32) (now : Nat → Int32) :
    ∃ w1 k1 c1 d1 b1 ro1 pl1 rc1 rf1 rs1 sc1 sf1 ss1 ac1 wy1 rz1 am1 nw1 r q, f_X10_daysCanBe w k c d (iZ b) ro pl rc rf rs sc sf ss w' k' c' d' b' ro' pl' rc' rf' rs' sc' sf' ss' (iZ n) sg ac wy = some (r, w1, k1, c1, d1, b1, ro1, pl1, rc1, rf1, rs1, sc1, sf1, ss1, ac1, wy1) ∧ f_X11_barOfDays (iZ n) rsM acM bk now sm = some (q, rz1, am1, nw1) ∧
      ((r = 0 ∧ q = -5) ∨ (r = 1 ∧ q = 0 ∧ am1 = ac1 ∧ ∃ A1 B1 : List Nat, ∃ bb : Nat, b1 = iZ bb ∧ bb ≤ 99 ∧ RowsRep ro1 pl1 A1 B1 ∧ Wf A1 B1 ∧ BookRep nw1 A1 B1 bb)) := by
  rcases bar_both hn hP hPm hR hB hW hb w k c d rf rs sf ss rc sc w' k' c' d' ro' pl' rf' rs' sf' ss' b' rc' sc' ac wy rsM acM now with ⟨h1, h2⟩ | ⟨-, ro2, pl2, rz2, bk2, p1, p2, p3, p4, h1, h2⟩
  · exact ⟨_, _, _, _, _, _, _, _, _, _, _, _, _, _, _, _, _, _, _, _, h1, h2, Or.inl ⟨rfl, rfl⟩⟩
  · by_cases hy : (dS P n (n + 1) 0 A B b 0).2.1 = 0
    · rw [if_pos hy] at h1 h2
      exact ⟨_, _, _, _, _, _, _, _, _, _, _, _, _, _, _, _, _, _, _, _, h1, h2, Or.inr ⟨rfl, rfl, rfl, _, _, _, rfl, p3, p1, p2, p4⟩⟩
    · rw [if_neg hy] at h1 h2
      exact ⟨_, _, _, _, _, _, _, _, _, _, _, _, _, _, _, _, _, _, _, _, h1, h2, Or.inl ⟨rfl, rfl⟩⟩
theorem bells_both {sg : Nat → Int32} {P : Nat → Nat} {n : Nat} (hn : n ≤ 60) (hP : ∀ i, i < n → sg i = iZ (P i) ∧ P i ≤ 200) {sm : Nat → Int32} (hPm : ∀ i, i < n → sm i = iZ (P i) ∧ P i ≤ 200) {ro pl bk : Nat → Int32} {A B : List Nat} {b : Nat} (hR : RowsRep ro pl A B) (hB : BookRep bk A B b) (hW : Wf A B) (hb : b ≤ 99)
    (w k c d rf rs sf ss : Nat → Int32) (rc sc : Int32) (w' k' c' d' ro' pl' rf' rs' sf' ss' : Nat → Int32) (b' rc' sc' : Int32) (ac wy : Int32) (rsM acM : Int32) (now : Nat → Int32) :
    ∃ v t m, f_X10_bells w k c d (iZ b) ro pl rc rf rs sc sf ss w' k' c' d' b' ro' pl' rc' rf' rs' sc' sf' ss' (iZ n) sg ac wy = some (v, t) ∧ f_X11_bells (iZ n) rsM acM bk now sm = some (v, m) := by
  obtain ⟨w1, k1, c1, d1, b1, ro1, pl1, rc1, rf1, rs1, sc1, sf1, ss1, ac1, wy1, rz1, am1, nw1, r, q, h1, h2, h3⟩ := bar_ex hn hP hPm hR hB hW hb w k c d rf rs sf ss rc sc w' k' c' d' ro' pl' rf' rs' sf' ss' b' rc' sc' ac wy rsM acM now
  unfold f_X10_bells f_X11_bells
  rw [h1, h2, bd16_s, bd4_s]
  rcases h3 with ⟨rfl, rfl⟩ | ⟨rfl, rfl, rfl, A1, B1, bb, rfl, hbb, p1, p2, p3⟩
  · rw [if_pos rfl, if_neg (by decide)]
    exact ⟨_, _, _, rfl, rfl⟩
  · rw [if_neg (by decide), if_pos (by decide)]
    have e : nw1 (Int32.toNatClampNeg 14) = iZ bb := p3.2.2.2.2
    have g : ∀ k : Option (Int32 × Int32 × Int32 × (Nat → Int32)), gd 14 15 k = k := fun k => gd_z (a := 14) (n := 15) (by omega) (by omega) (by omega)
    rw [g, e]
    exact ⟨_, _, _, rfl, rfl⟩
theorem place_both {sg : Nat → Int32} {P : Nat → Nat} {n : Nat} (hn : n ≤ 60) (hP : ∀ i, i < n → sg i = iZ (P i) ∧ P i ≤ 200) {sm : Nat → Int32} (hPm : ∀ i, i < n → sm i = iZ (P i) ∧ P i ≤ 200) {ro pl bk : Nat → Int32} {A B : List Nat} {b : Nat} (hR : RowsRep ro pl A B) (hB : BookRep bk A B b) (hW : Wf A B) (hb : b ≤ 99)
    (w k c d rf rs sf ss : Nat → Int32) (rc sc : Int32) (w' k' c' d' ro' pl' rf' rs' sf' ss' : Nat → Int32) (b' rc' sc' : Int32) (ac wy : Int32) (rsM acM : Int32) (now : Nat → Int32) (x y : Int32) :
    ∃ v t m, f_X10_place w k c d (iZ b) ro pl rc rf rs sc sf ss w' k' c' d' b' ro' pl' rc' rf' rs' sc' sf' ss' (iZ n) sg ac wy x y = some (v, t) ∧ f_X11_place (iZ n) rsM acM bk now sm x y = some (v, m) := by
  obtain ⟨z, z1, z2, rfl⟩ := z_of x
  obtain ⟨u, u1, u2, rfl⟩ := z_of y
  obtain ⟨w1, k1, c1, d1, b1, ro1, pl1, rc1, rf1, rs1, sc1, sf1, ss1, ac1, wy1, rz1, am1, nw1, r, q, h1, h2, h3⟩ := bar_ex hn hP hPm hR hB hW hb w k c d rf rs sf ss rc sc w' k' c' d' ro' pl' rf' rs' sf' ss' b' rc' sc' ac wy rsM acM now
  unfold f_X10_place f_X11_place
  rw [isRow_z z1 z2, isRow_m z1 z2, bd1_s, bd1_s, h1, h2, bd16_s, bd4_s, show (0 : Int32) = iZ 0 from rfl, show (5 : Int32) = iZ 5 from rfl, within_z u1 u2 (by omega) (by omega) (by omega) (by omega), in_z u1 u2 (by omega) (by omega) (by omega) (by omega), bd1_s, bd1_s]
  by_cases ha : 0 ≤ z ∧ z ≤ 1
  · rw [if_neg (bzN ha), if_neg (bzN ha)]
    by_cases hc : 0 ≤ u ∧ u ≤ 5
    · rw [if_neg (bzN hc), if_neg (bzN hc)]
      rcases h3 with ⟨rfl, rfl⟩ | ⟨rfl, rfl, rfl, A1, B1, bb, rfl, hbb, p1, p2, p3⟩
      · rw [if_pos (show (0 : Int32) = iZ 0 from rfl), if_neg (show ¬ iZ 0 ≤ (-5 : Int32) by decide)]
        exact ⟨_, _, _, rfl, rfl⟩
      · rw [if_neg (show ¬ (1 : Int32) = iZ 0 by decide), if_pos (show iZ 0 ≤ (0 : Int32) by decide)]
        obtain ⟨i, rfl⟩ : ∃ i : Nat, z = i := ⟨z.toNat, by omega⟩
        obtain ⟨j, rfl⟩ : ∃ j : Nat, u = j := ⟨u.toNat, by omega⟩
        have hi : i < 2 := by omega
        have hl := p2.len i
        rw [whoIsAt_s p1 p2 hi j (by omega), bd1_s, show (12 : Int32) = iZ 12 from rfl, show (6 : Int32) = iZ 6 from rfl, z_add, z_mul, z_add, gd_z (by omega) (by omega) (by omega), z_cl (by omega) (by omega), z_cl (by omega) (by omega), show ((12 : Int) + (i : Int)).toNat = 12 + i by omega, show ((6 : Int) * (i : Int) + (j : Int)).toNat = 6 * i + j by omega, br_len p3 hi]
        unfold whoZ
        by_cases hj : j < (rowL A1 B1 i).length
        · have hs : (rowL A1 B1 i)[j]? = some ((rowL A1 B1 i)[j]'hj) := List.getElem?_eq_getElem hj
          rw [if_neg (by rw [z_le] <;> omega), gd_z (by omega) (by omega) (by omega), br_at p3 hi hs, hs]
          exact ⟨_, _, _, rfl, rfl⟩
        · have hs : (rowL A1 B1 i)[j]? = none := List.getElem?_eq_none (by omega)
          rw [if_pos (by rw [z_le] <;> omega), hs]
          exact ⟨_, _, _, rfl, rfl⟩
    · rw [if_pos (bzP hc), if_pos (bzP hc)]
      exact ⟨_, _, _, rfl, rfl⟩
  · rw [if_pos (bzP ha), if_pos (bzP ha)]
    exact ⟨_, _, _, rfl, rfl⟩
theorem isMem_z {a : Int} (a1 : -2147483648 ≤ a) (a2 : a ≤ 2147483647) : f_X11_isMember (iZ a) = some (bz (0 ≤ a ∧ a ≤ 9)) := by
  unfold f_X11_isMember
  rw [show (0 : Int32) = iZ 0 from rfl, show (9 : Int32) = iZ 9 from rfl, in_z a1 a2 (by omega) (by omega) (by omega) (by omega), bd1_s]
  by_cases ha : 0 ≤ a ∧ a ≤ 9
  · rw [bz_t ha]; rfl
  · rw [bz_f ha]; rfl
theorem of_both {sg : Nat → Int32} {P : Nat → Nat} {n : Nat} (hn : n ≤ 60) (hP : ∀ i, i < n → sg i = iZ (P i) ∧ P i ≤ 200) {sm : Nat → Int32} (hPm : ∀ i, i < n → sm i = iZ (P i) ∧ P i ≤ 200) {ro pl bk : Nat → Int32} {A B : List Nat} {b : Nat} (hR : RowsRep ro pl A B) (hB : BookRep bk A B b) (hW : Wf A B) (hb : b ≤ 99)
    (w k c d rf rs sf ss : Nat → Int32) (rc sc : Int32) (w' k' c' d' ro' pl' rf' rs' sf' ss' : Nat → Int32) (b' rc' sc' : Int32) (ac wy : Int32) (rsM acM : Int32) (now : Nat → Int32) (x y : Int32) :
    ∃ v t m, f_X10_of w k c d (iZ b) ro pl rc rf rs sc sf ss w' k' c' d' b' ro' pl' rc' rf' rs' sc' sf' ss' (iZ n) sg ac wy x y = some (v, t) ∧ f_X11_of (iZ n) rsM acM bk now sm x y = some (v, m) := by
  obtain ⟨z, z1, z2, rfl⟩ := z_of x
  obtain ⟨u, u1, u2, rfl⟩ := z_of y
  obtain ⟨w1, k1, c1, d1, b1, ro1, pl1, rc1, rf1, rs1, sc1, sf1, ss1, ac1, wy1, rz1, am1, nw1, r, q, h1, h2, h3⟩ := bar_ex hn hP hPm hR hB hW hb w k c d rf rs sf ss rc sc w' k' c' d' ro' pl' rf' rs' sf' ss' b' rc' sc' ac wy rsM acM now
  unfold f_X10_of f_X11_of
  rw [isMem_z z1 z2, h1, h2, bd16_s, bd4_s, show (0 : Int32) = iZ 0 from rfl, show (9 : Int32) = iZ 9 from rfl, show (1 : Int32) = iZ 1 from rfl, within_z z1 z2 (by omega) (by omega) (by omega) (by omega), within_z u1 u2 (by omega) (by omega) (by omega) (by omega), in_z u1 u2 (by omega) (by omega) (by omega) (by omega), bd1_s, bd1_s, bd1_s, bd1_s]
  by_cases ha : 0 ≤ z ∧ z ≤ 9
  · rw [if_neg (bzN ha), if_neg (bzN ha)]
    by_cases hc : 0 ≤ u ∧ u ≤ 1
    · rw [if_neg (bzN hc), if_neg (bzN hc)]
      rcases h3 with ⟨rfl, rfl⟩ | ⟨rfl, rfl, rfl, A1, B1, bb, rfl, hbb, p1, p2, p3⟩
      · rw [if_pos (show (0 : Int32) = iZ 0 from rfl), if_neg (show ¬ iZ 0 ≤ (-5 : Int32) by decide)]
        exact ⟨_, _, _, rfl, rfl⟩
      · rw [if_neg (show ¬ (1 : Int32) = iZ 0 by decide), if_pos (show iZ 0 ≤ (0 : Int32) by decide)]
        obtain ⟨m, rfl⟩ : ∃ i : Nat, z = i := ⟨z.toNat, by omega⟩
        have hm : m < 10 := by omega
        have hs := spotM_le p2 m
        have hl := p2.1
        have hl2 := p2.2.1
        rw [at_n hm (by omega), at_n hm (by omega), bd1_s, bd1_s, spotM_s p3 p2 (by omega), bd1_s, (p1 m hm).1, (p1 m hm).2, show (6 : Int32) = iZ 6 from rfl]
        by_cases hA : m ∈ A1
        · have e1 : spotM A1 B1 m = (A1.idxOf m : Int) := by unfold spotM; rw [if_pos hA]
          have e2 : rowNo A1 B1 m = 0 := by unfold rowNo; rw [if_pos hA]
          have e3 : plc A1 B1 m = (A1.idxOf m : Int) := by unfold plc; rw [if_pos hA]
          have hi := List.idxOf_lt_length_iff.mpr hA
          have hg : iZ 0 ≤ iZ (A1.idxOf m : Int) := by rw [z_le] <;> omega
          rw [e1, e2, e3, if_pos hg, if_pos hg, z_div (by omega) (by omega) (by omega) (by omega), z_rem (by omega) (by omega) (by omega) (by omega), show ((A1.idxOf m : Int) / 6) = ((0 : Nat) : Int) by omega, show ((A1.idxOf m : Int) % 6) = (A1.idxOf m : Int) by omega]
          by_cases h0 : iZ u = iZ 0
          · rw [if_pos h0, if_pos h0]; exact ⟨_, _, _, rfl, rfl⟩
          · rw [if_neg h0, if_neg h0]; exact ⟨_, _, _, rfl, rfl⟩
        · by_cases hB1 : m ∈ B1
          · have e1 : spotM A1 B1 m = 6 + (B1.idxOf m : Int) := by unfold spotM; rw [if_neg hA, if_pos hB1]
            have e2 : rowNo A1 B1 m = 1 := by unfold rowNo; rw [if_neg hA, if_pos hB1]
            have e3 : plc A1 B1 m = (B1.idxOf m : Int) := by unfold plc; rw [if_neg hA, if_pos hB1]
            have hi := List.idxOf_lt_length_iff.mpr hB1
            have hg : iZ 0 ≤ iZ (6 + (B1.idxOf m : Int)) := by rw [z_le] <;> omega
            rw [e1, e2, e3, if_pos hg, if_pos hg, z_div (by omega) (by omega) (by omega) (by omega), z_rem (by omega) (by omega) (by omega) (by omega), show ((6 + (B1.idxOf m : Int)) / 6) = ((1 : Nat) : Int) by omega, show ((6 + (B1.idxOf m : Int)) % 6) = (B1.idxOf m : Int) by omega]
            by_cases h0 : iZ u = iZ 0
            · rw [if_pos h0, if_pos h0]; exact ⟨_, _, _, rfl, rfl⟩
            · rw [if_neg h0, if_neg h0]; exact ⟨_, _, _, rfl, rfl⟩
          · have e1 : spotM A1 B1 m = -6 := by unfold spotM; rw [if_neg hA, if_neg hB1]
            have e2 : rowNo A1 B1 m = 2 := by unfold rowNo; rw [if_neg hA, if_neg hB1]
            have e3 : plc A1 B1 m = -6 := by unfold plc; rw [if_neg hA, if_neg hB1]
            have hg : ¬ iZ 0 ≤ iZ (-6) := by decide
            rw [e1, e2, e3, if_neg hg, if_neg hg]
            by_cases h0 : iZ u = iZ 0
            · rw [if_pos h0, if_pos h0]; exact ⟨_, _, _, rfl, rfl⟩
            · rw [if_neg h0, if_neg h0]; exact ⟨_, _, _, rfl, rfl⟩
    · rw [if_pos (bzP hc), if_pos (bzP hc)]
      exact ⟨_, _, _, rfl, rfl⟩
  · rw [if_pos (bzP ha), if_pos (bzP ha)]
    exact ⟨_, _, _, rfl, rfl⟩
theorem copyM_s {now : Nat → Int32} (a : Nat → Int32) : loopN (fun (q : Int32 × (Nat → Int32)) => f_X11_done_b12 now q.1 q.2) FU (0, a) = some (iZ 15, cp 15 now a) := by
  rw [loop_FU (fun i : Nat => ((iZ i : Int32), ((fun k => if k < i then now k else a k) : Nat → Int32))) 15 (r := (iZ 15, fun k => if k < 15 then now k else a k)) ?_ ?_ ?_ (by omega)]
  · rfl
  · exact Prod.ext (z_lit 0) (funext fun k => (if_neg (Nat.not_lt_zero k) : (if k < 0 then now k else a k) = a k).symm)
  · intro i hi
    dsimp only
    unfold f_X11_done_b12
    rw [show (15 : Int32) = iZ 15 from rfl, show (1 : Int32) = iZ 1 from rfl, if_neg (by rw [z_le] <;> omega), gd_z (by omega) (by omega) (by omega), gd_z (by omega) (by omega) (by omega), z_cl (by omega) (by omega), z_add, Int.toNat_natCast, upd_copy]
    rfl
  · dsimp only
    unfold f_X11_done_b12
    rw [show (15 : Int32) = iZ 15 from rfl, if_pos (by rw [z_le] <;> omega)]
    rfl
theorem done_both {sg : Nat → Int32} {P : Nat → Nat} {n : Nat} (hn : n ≤ 60) (hP : ∀ i, i < n → sg i = iZ (P i) ∧ P i ≤ 200) {sm : Nat → Int32} (hPm : ∀ i, i < n → sm i = iZ (P i) ∧ P i ≤ 200) {ro pl bk : Nat → Int32} {A B : List Nat} {b : Nat} (hR : RowsRep ro pl A B) (hB : BookRep bk A B b) (hW : Wf A B) (hb : b ≤ 99)
    (w k c d rf rs sf ss : Nat → Int32) (rc sc : Int32) (w' k' c' d' ro' pl' rf' rs' sf' ss' : Nat → Int32) (b' rc' sc' : Int32) (ac wy : Int32) (rsM acM : Int32) (now : Nat → Int32) :
    ∃ v b2 ro2 pl2 w1 k1 c1 d1 b1 ro1 pl1 rc1 rf1 rs1 sc1 sf1 ss1 n2 ac1 wy1 rz1 am1 bk2 nw1, f_X10_done w k c d (iZ b) ro pl rc rf rs sc sf ss w' k' c' d' b' ro' pl' rc' rf' rs' sc' sf' ss' (iZ n) sg ac wy = some (v, b2, ro2, pl2, w1, k1, c1, d1, b1, ro1, pl1, rc1, rf1, rs1, sc1, sf1, ss1, n2, ac1, wy1) ∧ f_X11_done (iZ n) rsM acM bk now sm = some (v, n2, rz1, am1, bk2, nw1) ∧
      ∃ A2 B2 : List Nat, ∃ bN n' : Nat, b2 = iZ bN ∧ bN ≤ 99 ∧ RowsRep ro2 pl2 A2 B2 ∧ Wf A2 B2 ∧ BookRep bk2 A2 B2 bN ∧ n2 = iZ n' ∧ n' ≤ n := by
  obtain ⟨w1, k1, c1, d1, b1, ro1, pl1, rc1, rf1, rs1, sc1, sf1, ss1, ac1, wy1, rz1, am1, nw1, r, q, h1, h2, h3⟩ := bar_ex hn hP hPm hR hB hW hb w k c d rf rs sf ss rc sc w' k' c' d' ro' pl' rf' rs' sf' ss' b' rc' sc' ac wy rsM acM now
  unfold f_X10_done f_X11_done
  rw [h1, h2, bd16_s, bd4_s]
  rcases h3 with ⟨rfl, rfl⟩ | ⟨rfl, rfl, rfl, A1, B1, bb, rfl, hbb, p1, p2, p3⟩
  · rw [if_pos rfl, if_neg (by decide)]
    exact ⟨_, _, _, _, _, _, _, _, _, _, _, _, _, _, _, _, _, _, _, _, _, _, _, _, rfl, rfl, A, B, b, n, rfl, hb, hR, hW, hB, rfl, Nat.le_refl _⟩
  · rw [if_neg (by decide), if_pos (by decide), takeRows_s, bd3_s, copyM_s, bd2_s]
    unfold f_X4_empty
    rw [bd2_s]
    exact ⟨_, _, _, _, _, _, _, _, _, _, _, _, _, _, _, _, _, _, _, _, _, _, _, _, rfl, rfl, A1, B1, bb, 0, rfl, hbb, p1.cp, p2, p3.cp p2, rfl, Nat.zero_le _⟩
