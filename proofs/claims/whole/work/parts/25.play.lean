section PLAY
variable {sg : Nat → Int32} {P : Nat → Nat} {n : Nat} {wW wK wC wD : Nat → Int32} {wRC : Int32} {wRF wRS : Nat → Int32} {wSC : Int32} {wSF wSS : Nat → Int32}
theorem act_step {ro pl : Nat → Int32} {A B : List Nat} {b : Nat} (hR : RowsRep ro pl A B) (hW : Wf A B) (hb : b ≤ 99) {kind m o : Nat} {M O : Int32} (hk : AOk kind m o M O) {l4 s0 : Int32} (h1 : f_X4_memberAt sg s0 = some M) (h2 : f_X4_memberAt sg l4 = some O) (c : Nat) :
    ∃ ro' pl', RowsRep ro' pl' (tryA A B b kind m o) (tryB A B b kind m o) ∧ f_X6_play_j71 sg wW wK wC wD wRC wRF wRS wSC wSF wSS l4 (iZ kind) (iZ c) (iZ b) ro pl s0 = if actWhy A B b kind m o = 0 then some (.inl (l4 + 1, iZ ((c + 1 : Nat) : Int), iZ 0, iZ (tryb A B b kind m o), ro', pl')) else some (.inr (.inr (iZ c, iZ (actWhy A B b kind m o), wW, wK, wC, wD, iZ (tryb A B b kind m o), ro', pl', wRC, wRF, wRS, wSC, wSF, wSS))) := by
  obtain ⟨ro', pl', g1, g2⟩ := attempt_s hR hW hb hk
  refine ⟨ro', pl', g2, ?_⟩
  unfold f_X6_play_j71
  rw [h1, bd1_s, h2, bd1_s, g1, bd4_s]
  have hle := why_le A B b kind m o
  by_cases h0 : actWhy A B b kind m o = 0
  · rw [if_pos h0, h0, if_pos (show iZ ((0 : Nat) : Int) = (0 : Int32) from rfl), show (1 : Int32) = iZ 1 from rfl, z_add]
    rfl
  · rw [if_neg h0, if_neg (by rw [show (0 : Int32) = iZ ((0 : Nat) : Int) from rfl, eqz (by omega) (by omega)]; exact h0)]
theorem play_loop (hn : n ≤ 60) (hP : ∀ i, i < n → sg i = iZ (P i) ∧ P i ≤ 200) : ∀ (f i : Nat) (A B : List Nat) (b c : Nat) (ro pl : Nat → Int32) (N : Nat), i ≤ n → n - i < f → n - i < N → fF P (n - i) i 0 = -6 → (i = 0 ∨ P (i - 1) ≠ 120) → RowsRep ro pl A B → Wf A B → b ≤ 99 →
    ∃ ro' pl', RowsRep ro' pl' (dS P n f i A B b c).2.2.1 (dS P n f i A B b c).2.2.2.1 ∧ Wf (dS P n f i A B b c).2.2.1 (dS P n f i A B b c).2.2.2.1 ∧ (dS P n f i A B b c).2.2.2.2 ≤ 99 ∧ loopN (fun (q : Int32 × Int32 × Int32 × Int32 × (Nat → Int32) × (Nat → Int32)) => f_X6_play_b31 (iZ n) sg wW wK wC wD wRC wRF wRS wSC wSF wSS q.1 q.2.1 q.2.2.1 q.2.2.2.1 q.2.2.2.2.1 q.2.2.2.2.2) N (iZ i, iZ c, iZ 0, iZ b, ro, pl) =
      some (if (dS P n f i A B b c).2.1 = 0 then .inl (iZ n, iZ (dS P n f i A B b c).1, iZ 0, iZ (dS P n f i A B b c).2.2.2.2, ro', pl') else .inr (iZ (dS P n f i A B b c).1, iZ (dS P n f i A B b c).2.1, wW, wK, wC, wD, iZ (dS P n f i A B b c).2.2.2.2, ro', pl', wRC, wRF, wRS, wSC, wSF, wSS)) := by
  have quiet : ∀ (i : Nat) (c b : Int32) (ro pl : Nat → Int32), i < n → (if isL (P i) = true then (if 0 < i ∧ P (i - 1) = 120 then 120 else 0) else if P i = 120 then 0 else P i : Nat) = 0 → f_X6_play_b31 (iZ n) sg wW wK wC wD wRC wRF wRS wSC wSF wSS (iZ i) c (iZ 0) b ro pl = some (.inl (iZ ((i + 1 : Nat) : Int), c, iZ 0, b, ro, pl)) := by
    intro i c b ro pl hi h0
    unfold f_X6_play_b31
    rw [if_neg (by rw [z_le] <;> omega), kind_s hn hP hi, bd1_s, h0, if_pos (show iZ ((0 : Nat) : Int) = (0 : Int32) from rfl), show (1 : Int32) = iZ 1 from rfl, z_add]
    rfl
  have loud : ∀ (i k : Nat) (c b : Int32) (ro pl : Nat → Int32), i < n → (if isL (P i) = true then (if 0 < i ∧ P (i - 1) = 120 then 120 else 0) else if P i = 120 then 0 else P i : Nat) = k → k ≠ 0 → k ≤ 1000 → f_X6_play_b31 (iZ n) sg wW wK wC wD wRC wRF wRS wSC wSF wSS (iZ i) c (iZ 0) b ro pl = f_X6_play_j71 sg wW wK wC wD wRC wRF wRS wSC wSF wSS (iZ i) (iZ k) c b ro pl (iZ (if k = 120 then (i : Int) - 2 else (i : Int) - 1)) := by
    intro i k c b ro pl hi h0 hk hk2
    unfold f_X6_play_b31
    rw [if_neg (by rw [z_le] <;> omega), kind_s hn hP hi, bd1_s, h0, if_neg (by rw [show (0 : Int32) = iZ ((0 : Nat) : Int) from rfl, eqz hk2 (by omega)]; exact hk), show (120 : Int32) = iZ ((120 : Nat) : Int) from rfl]
    by_cases h120 : k = 120
    · rw [if_pos (by rw [h120]), if_pos h120, show (2 : Int32) = iZ 2 from rfl, z_sub]
    · rw [if_neg (by rw [eqz hk2 (by omega)]; exact h120), if_neg h120, show (1 : Int32) = iZ 1 from rfl, z_sub]
  intro f
  induction f with
  | zero => intro i A B b c ro pl N h1 h2; omega
  | succ f ih =>
    intro i A B b c ro pl N hin hf hN hff hprev hR hW hb
    by_cases hni : n ≤ i
    · have hi : i = n := by omega
      subst hi
      refine ⟨ro, pl, ?_⟩
      rw [dS, if_pos hni]
      refine ⟨hR, hW, hb, ?_⟩
      obtain ⟨N', rfl⟩ : ∃ N', N = N' + 1 := ⟨N - 1, by omega⟩
      rw [if_pos rfl]
      refine loopN_exit ?_ N'
      dsimp only
      unfold f_X6_play_b31
      rw [if_pos (by rw [z_le] <;> omega)]
    · have hi : i < n := by omega
      have goOn : ∀ (kind m o i2 : Nat) (M O : Int32) (N2 : Nat), AOk kind m o M O → i2 ≤ n → i2 > i → n - i2 < N2 → fF P (n - i2) i2 0 = -6 → P (i2 - 1) ≠ 120 → f_X4_memberAt sg (iZ (if kind = 120 then ((i2 - 1 : Nat) : Int) - 2 else ((i2 - 1 : Nat) : Int) - 1)) = some M → f_X4_memberAt sg (iZ ((i2 - 1 : Nat) : Int)) = some O → (if isL (P (i2 - 1)) = true then (if 0 < i2 - 1 ∧ P (i2 - 1 - 1) = 120 then 120 else 0) else if P (i2 - 1) = 120 then 0 else P (i2 - 1) : Nat) = kind →
          dS P n (f + 1) i A B b c = (if actWhy A B b kind m o = 0 then dS P n f i2 (tryA A B b kind m o) (tryB A B b kind m o) (tryb A B b kind m o) (c + 1) else (c, actWhy A B b kind m o, A, B, b)) →
          ∃ ro' pl', RowsRep ro' pl' (dS P n (f + 1) i A B b c).2.2.1 (dS P n (f + 1) i A B b c).2.2.2.1 ∧ Wf (dS P n (f + 1) i A B b c).2.2.1 (dS P n (f + 1) i A B b c).2.2.2.1 ∧ (dS P n (f + 1) i A B b c).2.2.2.2 ≤ 99 ∧ loopN (fun (q : Int32 × Int32 × Int32 × Int32 × (Nat → Int32) × (Nat → Int32)) => f_X6_play_b31 (iZ n) sg wW wK wC wD wRC wRF wRS wSC wSF wSS q.1 q.2.1 q.2.2.1 q.2.2.2.1 q.2.2.2.2.1 q.2.2.2.2.2) (N2 + 1) (iZ ((i2 - 1 : Nat) : Int), iZ c, iZ 0, iZ b, ro, pl) =
            some (if (dS P n (f + 1) i A B b c).2.1 = 0 then .inl (iZ n, iZ (dS P n (f + 1) i A B b c).1, iZ 0, iZ (dS P n (f + 1) i A B b c).2.2.2.2, ro', pl') else .inr (iZ (dS P n (f + 1) i A B b c).1, iZ (dS P n (f + 1) i A B b c).2.1, wW, wK, wC, wD, iZ (dS P n (f + 1) i A B b c).2.2.2.2, ro', pl', wRC, wRF, wRS, wSC, wSF, wSS)) := by
        intro kind m o i2 M O N2 hk hi2 hgt hN2 hff2 hpr h1 h2 hkind heq
        obtain ⟨ro1, pl1, g1, g2⟩ := act_step (wW := wW) (wK := wK) (wC := wC) (wD := wD) (wRC := wRC) (wRF := wRF) (wRS := wRS) (wSC := wSC) (wSF := wSF) (wSS := wSS) hR hW hb hk h1 h2 c
        have hk0 : kind ≠ 0 ∧ kind ≤ 1000 := by
          have := hk.1
          omega
        have hbody := loud (i2 - 1) kind (iZ c) (iZ b) ro pl (by omega) hkind hk0.1 hk0.2
        rw [heq]
        by_cases h0 : actWhy A B b kind m o = 0
        · rw [if_pos h0] at g2 ⊢
          obtain ⟨ro', pl', q1, q2, q3, q4⟩ := ih i2 _ _ _ (c + 1) ro1 pl1 N2 hi2 (by omega) hN2 hff2 (Or.inr hpr) g1 (hW.try hk) (tryb_le hb)
          refine ⟨ro', pl', q1, q2, q3, ?_⟩
          rw [← q4]
          refine loopN_next ?_ N2
          dsimp only
          rw [hbody, g2, show iZ ((i2 - 1 : Nat) : Int) + 1 = iZ (i2 : Int) from by rw [show (1 : Int32) = iZ 1 from rfl, z_add]; congr 1; omega]
        · rw [if_neg h0] at g2 ⊢
          have eA : tryA A B b kind m o = A := if_neg h0
          have eB : tryB A B b kind m o = B := if_neg h0
          have eb : tryb A B b kind m o = b := if_neg h0
          rw [eA, eB] at g1
          rw [eb] at g2
          refine ⟨ro1, pl1, g1, hW, hb, ?_⟩
          dsimp only
          rw [if_neg h0]
          refine loopN_exit ?_ N2
          dsimp only
          rw [hbody, g2]
      rcases parse hi hff with ⟨p1, p2⟩ | ⟨p1, p2, p3, p4, p5⟩ | ⟨p1, p2, p3, p4, p5, p6, p7⟩
      · obtain ⟨M, hM⟩ := member_any (sg := sg) ((i : Int) - 1) (by omega) (by omega)
        obtain ⟨O, hO⟩ := member_any (sg := sg) (i : Int) (by omega) (by omega)
        obtain ⟨N', rfl⟩ : ∃ N', N = N' + 1 := ⟨N - 1, by omega⟩
        refine goOn 33 0 0 (i + 1) M O N' ⟨Or.inl rfl, fun h => absurd rfl h, fun h => absurd h (by decide)⟩ (by omega) (by omega) (by omega) p2 ?_ hM hO ?_ ?_
        · rw [Nat.add_sub_cancel, p1]; decide
        · rw [Nat.add_sub_cancel, p1]; rfl
        · rw [dS, if_neg hni, if_pos p1]
      · obtain ⟨N', rfl⟩ : ∃ N', N = N' + 1 := ⟨N - 1, by omega⟩
        obtain ⟨N2, rfl⟩ : ∃ N2, N' = N2 + 1 := ⟨N' - 1, by omega⟩
        obtain ⟨O, hO⟩ := member_any (sg := sg) ((i + 1 : Nat) : Int) (by omega) (by omega)
        have hM := member_s hn hP (i := i) hi p1
        have hq := quiet i (iZ c) (iZ b) ro pl hi (by
          rw [if_pos ((isL_iff _).mpr ⟨p1, p2⟩), if_neg]
          rintro ⟨h1, h2⟩
          rcases hprev with h3 | h3
          · omega
          · exact h3 h2)
        have hx := goOn (P (i + 1)) (P i - 65) 0 (i + 2) _ O N2 ⟨by omega, fun _ => ⟨rfl, by omega⟩, fun h => by omega⟩ (by omega) (by omega) (by omega) p5 (by rw [show i + 2 - 1 = i + 1 by omega]; omega) (by rw [if_neg (by omega), show ((i + 2 - 1 : Nat) : Int) - 1 = (i : Int) by omega]; exact hM) hO (by
          rw [show i + 2 - 1 = i + 1 by omega, if_neg (by rw [isL_iff]; omega), if_neg (by omega)]) (by rw [dS, if_neg hni, if_neg (by omega), if_neg (by omega)])
        rw [loopN_next hq (N2 + 1)]
        exact hx
      · obtain ⟨N', rfl⟩ : ∃ N', N = N' + 1 := ⟨N - 1, by omega⟩
        obtain ⟨N2, rfl⟩ : ∃ N2, N' = N2 + 1 := ⟨N' - 1, by omega⟩
        obtain ⟨N3, rfl⟩ : ∃ N3, N2 = N3 + 1 := ⟨N2 - 1, by omega⟩
        have hM := member_s hn hP (i := i) hi p1
        have hO := member_s hn hP (i := i + 2) p3 p5
        have hq := quiet i (iZ c) (iZ b) ro pl hi (by
          rw [if_pos ((isL_iff _).mpr ⟨p1, p2⟩), if_neg]
          rintro ⟨h1, h2⟩
          rcases hprev with h3 | h3
          · omega
          · exact h3 h2)
        have hq2 := quiet (i + 1) (iZ c) (iZ b) ro pl (by omega) (by rw [if_neg (by rw [isL_iff]; omega), if_pos p4])
        have hx := goOn 120 (P i - 65) (P (i + 2) - 65) (i + 3) _ _ N3 ⟨by omega, fun _ => ⟨rfl, by omega⟩, fun _ => ⟨rfl, by omega⟩⟩ (by omega) (by omega) (by omega) p7 (by rw [show i + 3 - 1 = i + 2 by omega]; omega) (by rw [if_pos rfl, show ((i + 3 - 1 : Nat) : Int) - 2 = (i : Int) by omega]; exact hM) hO (by
          rw [show i + 3 - 1 = i + 2 by omega, if_pos ((isL_iff _).mpr ⟨p5, p6⟩), if_pos ⟨by omega, by rw [show i + 2 - 1 = i + 1 by omega]; exact p4⟩]) (by rw [dS, if_neg hni, if_neg (by omega), if_pos p4])
        rw [loopN_next hq (N3 + 1 + 1), loopN_next hq2 (N3 + 1)]
        exact hx
end PLAY
