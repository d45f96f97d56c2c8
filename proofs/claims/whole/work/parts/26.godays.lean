theorem end_step (i2 : Int32) {w c : Nat} (hw : w ≤ 4) (bk : Nat → Int32) : f_X11_goDays_j132 i2 (iZ w) (iZ c) bk = if w = 0 then some (.inl (i2, iZ 0, iZ ((c + 1 : Nat) : Int), bk)) else some (.inr (.inr (iZ c, iZ w, iZ c, bk))) := by
  unfold f_X11_goDays_j132
  by_cases h0 : w = 0
  · rw [if_pos h0, h0, if_pos (by rw [show (0 : Int32) = iZ 0 from rfl, z_le] <;> omega), show (1 : Int32) = iZ 1 from rfl, z_add]
    rfl
  · rw [if_neg h0, if_neg (by rw [show (0 : Int32) = iZ 0 from rfl, z_le] <;> omega)]
theorem goD_loop {sg : Nat → Int32} {P : Nat → Nat} {n : Nat} (hn : n ≤ 60) (hP : ∀ i, i < n → sg i = iZ (P i) ∧ P i ≤ 200) : ∀ (f i : Nat) (A B : List Nat) (b c : Nat) (rz : Int32) (bk : Nat → Int32) (N : Nat), i ≤ n → n - i < f → n - i < N → fF P (n - i) i 0 = -6 → BookRep bk A B b → Wf A B → b ≤ 99 →
    ∃ rz' bk', BookRep bk' (dS P n f i A B b c).2.2.1 (dS P n f i A B b c).2.2.2.1 (dS P n f i A B b c).2.2.2.2 ∧ loopN (fun (q : Int32 × Int32 × Int32 × (Nat → Int32)) => f_X11_goDays_b11 (iZ n) sg q.1 q.2.1 q.2.2.1 q.2.2.2) N (iZ i, rz, iZ c, bk) =
      some (if (dS P n f i A B b c).2.1 = 0 then .inl (iZ n, rz', iZ (dS P n f i A B b c).1, bk') else .inr (iZ (dS P n f i A B b c).1, iZ (dS P n f i A B b c).2.1, iZ (dS P n f i A B b c).1, bk')) := by
  intro f
  induction f with
  | zero => intro i A B b c rz bk N h1 h2; omega
  | succ f ih =>
    intro i A B b c rz bk N hin hf hN hff hB hW hb
    obtain ⟨N', rfl⟩ : ∃ N', N = N' + 1 := ⟨N - 1, by omega⟩
    by_cases hni : n ≤ i
    · have hi : i = n := by omega
      subst hi
      refine ⟨rz, bk, ?_⟩
      rw [dS, if_pos hni]
      refine ⟨hB, ?_⟩
      rw [if_pos rfl]
      refine loopN_exit ?_ N'
      dsimp only
      unfold f_X11_goDays_b11
      rw [if_pos (by rw [z_le] <;> omega)]
    · have hi : i < n := by omega
      obtain ⟨pi1, pi2⟩ := hP i hi
      have goOn : ∀ (kind m o i2 : Nat) (M O : Int32) (bk1 : Nat → Int32), AOk kind m o M O → i2 ≤ n → i2 > i → fF P (n - i2) i2 0 = -6 → BookRep bk1 (tryA A B b kind m o) (tryB A B b kind m o) (tryb A B b kind m o) →
          f_X11_goDays_b11 (iZ n) sg (iZ i) rz (iZ c) bk = f_X11_goDays_j132 (iZ i2) (iZ (actWhy A B b kind m o)) (iZ c) bk1 →
          dS P n (f + 1) i A B b c = (if actWhy A B b kind m o = 0 then dS P n f i2 (tryA A B b kind m o) (tryB A B b kind m o) (tryb A B b kind m o) (c + 1) else (c, actWhy A B b kind m o, A, B, b)) →
          ∃ rz' bk', BookRep bk' (dS P n (f + 1) i A B b c).2.2.1 (dS P n (f + 1) i A B b c).2.2.2.1 (dS P n (f + 1) i A B b c).2.2.2.2 ∧ loopN (fun (q : Int32 × Int32 × Int32 × (Nat → Int32)) => f_X11_goDays_b11 (iZ n) sg q.1 q.2.1 q.2.2.1 q.2.2.2) (N' + 1) (iZ i, rz, iZ c, bk) =
            some (if (dS P n (f + 1) i A B b c).2.1 = 0 then .inl (iZ n, rz', iZ (dS P n (f + 1) i A B b c).1, bk') else .inr (iZ (dS P n (f + 1) i A B b c).1, iZ (dS P n (f + 1) i A B b c).2.1, iZ (dS P n (f + 1) i A B b c).1, bk')) := by
        intro kind m o i2 M O bk1 hk hi2 hgt hff2 hB1 hbody heq
        rw [end_step _ (why_le A B b kind m o)] at hbody
        rw [heq]
        by_cases h0 : actWhy A B b kind m o = 0
        · rw [if_pos h0] at hbody ⊢
          obtain ⟨rz', bk', q1, q2⟩ := ih i2 _ _ _ (c + 1) (iZ 0) bk1 N' hi2 (by omega) (by omega) hff2 hB1 (hW.try hk) (tryb_le hb)
          refine ⟨rz', bk', q1, ?_⟩
          rw [← q2]
          exact loopN_next hbody N'
        · rw [if_neg h0] at hbody ⊢
          have eA : tryA A B b kind m o = A := if_neg h0
          have eB : tryB A B b kind m o = B := if_neg h0
          have eb : tryb A B b kind m o = b := if_neg h0
          rw [eA, eB, eb] at hB1
          refine ⟨iZ 0, bk1, hB1, ?_⟩
          dsimp only
          rw [if_neg h0]
          exact loopN_exit hbody N'
      have e33 : (33 : Int32) = iZ ((33 : Nat) : Int) := rfl
      have e120 : (120 : Int32) = iZ ((120 : Nat) : Int) := rfl
      have e45 : (45 : Int32) = iZ ((45 : Nat) : Int) := rfl
      have e100 : (100 : Int32) = iZ ((100 : Nat) : Int) := rfl
      have plus : ∀ k : Nat, iZ (i : Int) + iZ (k : Int) = iZ ((i + k : Nat) : Int) := fun k => by rw [z_add]; rfl
      have let' : ∀ j : Nat, 65 ≤ P j → iZ (P j : Int) - 65 = iZ ((P j - 65 : Nat) : Int) := fun j hj => by rw [show (65 : Int32) = iZ 65 from rfl, z_sub, show ((P j - 65 : Nat) : Int) = (P j : Int) - 65 by omega]
      rcases parse hi hff with ⟨p1, p2⟩ | ⟨p1, p2, p3, p4, p5⟩ | ⟨p1, p2, p3, p4, p5, p6, p7⟩
      · obtain ⟨bk1, g1, g2⟩ := bellM hB hW hb 0 0
        refine goOn 33 0 0 (i + 1) 0 0 bk1 ⟨Or.inl rfl, fun h => absurd rfl h, fun h => absurd h (by decide)⟩ (by omega) (by omega) p2 g2 ?_ (by rw [dS, if_neg hni, if_pos p1])
        unfold f_X11_goDays_b11
        rw [if_neg (by rw [z_le] <;> omega), gd_z (by omega) (by omega) (by omega), z_cl (by omega) (by omega), Int.toNat_natCast, pi1, e33, if_pos (by rw [p1]), g1, bd2_s, show (1 : Int32) = iZ ((1 : Nat) : Int) from rfl, plus]
      · obtain ⟨pj1, pj2⟩ := hP (i + 1) p3
        have hm10 : P i - 65 < 10 := by omega
        have pre : f_X11_goDays_b11 (iZ n) sg (iZ i) rz (iZ c) bk = (if P (i + 1) = 45 then bd2 (f_X11_goHome bk (iZ ((P i - 65 : Nat) : Int))) (fun r q => f_X11_goDays_j126 (iZ i) (iZ c) q r) else if P (i + 1) = 100 then f_X11_goDays_j123 (iZ i) (iZ c) bk (iZ ((P i - 65 : Nat) : Int)) 0 else f_X11_goDays_j123 (iZ i) (iZ c) bk (iZ ((P i - 65 : Nat) : Int)) 1) := by
          unfold f_X11_goDays_b11
          rw [if_neg (by rw [z_le] <;> omega), gd_z (by omega) (by omega) (by omega), z_cl (by omega) (by omega), Int.toNat_natCast, pi1, e33, if_neg (by rw [eqz (by omega) (by omega)]; omega), nmv_s, gd_z (by omega) (by omega) (by omega), nmv_s, show (1 : Int32) = iZ ((1 : Nat) : Int) from rfl, plus, gd_z (by omega) (by omega) (by omega), z_cl (by omega) (by omega), Int.toNat_natCast, pj1, let' i p1, e120, if_neg (by rw [eqz (by omega) (by omega)]; omega), e45, e100]
          by_cases h45 : P (i + 1) = 45
          · rw [if_pos (by rw [h45]), if_pos h45]
          · rw [if_neg (by rw [eqz (by omega) (by omega)]; exact h45), if_neg h45]
            by_cases h100 : P (i + 1) = 100
            · rw [if_pos (by rw [h100]), if_pos h100]
            · rw [if_neg (by rw [eqz (by omega) (by omega)]; exact h100), if_neg h100]
        have two : iZ (i : Int) + 2 = iZ ((i + 2 : Nat) : Int) := plus 2
        have hds : ∀ k, P (i + 1) = k → dS P n (f + 1) i A B b c = (if actWhy A B b k (P i - 65) 0 = 0 then dS P n f (i + 2) (tryA A B b k (P i - 65) 0) (tryB A B b k (P i - 65) 0) (tryb A B b k (P i - 65) 0) (c + 1) else (c, actWhy A B b k (P i - 65) 0, A, B, b)) := by
          intro k hk
          rw [dS, if_neg hni, if_neg (by omega), if_neg (by omega), hk]
        rcases p4 with h | h | h
        · obtain ⟨bk1, g1, g2⟩ := join0M hB hW hm10 0
          refine goOn 100 (P i - 65) 0 (i + 2) _ 0 bk1 ⟨by omega, fun _ => ⟨rfl, hm10⟩, fun h => absurd h (by decide)⟩ (by omega) (by omega) p5 g2 ?_ (hds 100 h)
          rw [pre, if_neg (by omega), if_pos h]
          unfold f_X11_goDays_j123 f_X11_goDays_j126
          rw [show (0 : Int32) = iZ 0 from rfl, g1, bd2_s, two]
        · obtain ⟨bk1, g1, g2⟩ := join1M hB hW hm10 0
          refine goOn 117 (P i - 65) 0 (i + 2) _ 0 bk1 ⟨by omega, fun _ => ⟨rfl, hm10⟩, fun h => absurd h (by decide)⟩ (by omega) (by omega) p5 g2 ?_ (hds 117 h)
          rw [pre, if_neg (by omega), if_neg (by omega)]
          unfold f_X11_goDays_j123 f_X11_goDays_j126
          rw [show (1 : Int32) = iZ 1 from rfl, g1, bd2_s, two]
        · obtain ⟨bk1, g1, g2⟩ := homeM hB hW hm10 0
          refine goOn 45 (P i - 65) 0 (i + 2) _ 0 bk1 ⟨by omega, fun _ => ⟨rfl, hm10⟩, fun h => absurd h (by decide)⟩ (by omega) (by omega) p5 g2 ?_ (hds 45 h)
          rw [pre, if_pos h, g1, bd2_s]
          unfold f_X11_goDays_j126
          rw [two]
      · obtain ⟨pj1, pj2⟩ := hP (i + 1) (by omega)
        obtain ⟨pk1, pk2⟩ := hP (i + 2) p3
        obtain ⟨bk1, g1, g2⟩ := swapM hB hW (m := P i - 65) (o := P (i + 2) - 65) (by omega) (by omega)
        refine goOn 120 (P i - 65) (P (i + 2) - 65) (i + 3) _ _ bk1 ⟨by omega, fun _ => ⟨rfl, by omega⟩, fun _ => ⟨rfl, by omega⟩⟩ (by omega) (by omega) p7 g2 ?_ (by rw [dS, if_neg hni, if_neg (by omega), if_pos p4])
        unfold f_X11_goDays_b11
        rw [if_neg (by rw [z_le] <;> omega), gd_z (by omega) (by omega) (by omega), z_cl (by omega) (by omega), Int.toNat_natCast, pi1, e33, if_neg (by rw [eqz (by omega) (by omega)]; omega), nmv_s, gd_z (by omega) (by omega) (by omega), nmv_s, show (1 : Int32) = iZ ((1 : Nat) : Int) from rfl, show (2 : Int32) = iZ ((2 : Nat) : Int) from rfl, show (3 : Int32) = iZ ((3 : Nat) : Int) from rfl, plus, plus, plus, gd_z (by omega) (by omega) (by omega), z_cl (by omega) (by omega), Int.toNat_natCast, pj1, e120, if_pos (by rw [p4]), gd_z (by omega) (by omega) (by omega), z_cl (by omega) (by omega), Int.toNat_natCast, pk1, let' i p1, let' (i + 2) p5, g1, bd2_s]
