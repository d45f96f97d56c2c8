theorem bar_both {sg : Nat → Int32} {P : Nat → Nat} {n : Nat} (hn : n ≤ 60) (hP : ∀ i, i < n → sg i = iZ (P i) ∧ P i ≤ 200) {sm : Nat → Int32} (hPm : ∀ i, i < n → sm i = iZ (P i) ∧ P i ≤ 200) {ro pl bk : Nat → Int32} {A B : List Nat} {b : Nat} (hR : RowsRep ro pl A B) (hB : BookRep bk A B b) (hW : Wf A B) (hb : b ≤ 99)
    (w k c d rf rs sf ss : Nat → Int32) (rc sc : Int32) (w' k' c' d' ro' pl' rf' rs' sf' ss' : Nat → Int32) (b' rc' sc' : Int32) (ac wy : Int32) (rsM acM : Int32) (now : Nat → Int32) :
    (f_X10_daysCanBe w k c d (iZ b) ro pl rc rf rs sc sf ss w' k' c' d' b' ro' pl' rc' rf' rs' sc' sf' ss' (iZ n) sg ac wy = some (0, w', k', c', d', b', ro', pl', rc', rf', rs', sc', sf', ss', ac, wy) ∧ f_X11_barOfDays (iZ n) rsM acM bk now sm = some (-5, rsM, acM, now)) ∨
    (fF P n 0 0 = -6 ∧ ∃ ro2 pl2 rz2 bk2, RowsRep ro2 pl2 (dS P n (n + 1) 0 A B b 0).2.2.1 (dS P n (n + 1) 0 A B b 0).2.2.2.1 ∧ Wf (dS P n (n + 1) 0 A B b 0).2.2.1 (dS P n (n + 1) 0 A B b 0).2.2.2.1 ∧ (dS P n (n + 1) 0 A B b 0).2.2.2.2 ≤ 99 ∧ BookRep bk2 (dS P n (n + 1) 0 A B b 0).2.2.1 (dS P n (n + 1) 0 A B b 0).2.2.2.1 (dS P n (n + 1) 0 A B b 0).2.2.2.2 ∧
      f_X10_daysCanBe w k c d (iZ b) ro pl rc rf rs sc sf ss w' k' c' d' b' ro' pl' rc' rf' rs' sc' sf' ss' (iZ n) sg ac wy = some (if (dS P n (n + 1) 0 A B b 0).2.1 = 0 then 1 else 0, cp 10 w w', cp 10 k k', cp 17 c c', cp 2 d d', iZ (dS P n (n + 1) 0 A B b 0).2.2.2.2, ro2, pl2, rc, cp 10 rf rf', cp 10 rs rs', sc, cp 8 sf sf', cp 8 ss ss', iZ (dS P n (n + 1) 0 A B b 0).1, iZ (dS P n (n + 1) 0 A B b 0).2.1) ∧
      f_X11_barOfDays (iZ n) rsM acM bk now sm = some (if (dS P n (n + 1) 0 A B b 0).2.1 = 0 then 0 else -5, rz2, iZ (dS P n (n + 1) 0 A B b 0).1, bk2)) := by
  unfold f_X10_daysCanBe f_X11_barOfDays
  rw [fault_s hn hP, faultM_s hn hPm, bd1_s, bd1_s]
  rcases fF_cases P n 0 0 with hf | ⟨hf1, hf2⟩
  · refine Or.inr ⟨hf, ?_⟩
    obtain ⟨ro2, pl2, q1, q2, q3, q4⟩ := play_s hn hP hf hR hW hb w k c d rf rs sf ss rc sc w' k' c' d' ro' pl' rf' rs' sf' ss'
    obtain ⟨rz2, bk2, p1, p2⟩ := goDays_s hn hPm hf hB hW hb rsM now
    have ha := dS_acts P n (n + 1) 0 A B b 0
    have e6 : ¬ (0 : Int32) ≤ iZ (-6) := by decide
    have e7 : iZ (-6) = (-6 : Int32) := by decide
    have e8 : (-6 : Int32) < 0 := by decide
    have hc : ¬ iZ ((dS P n (n + 1) 0 A B b 0).1 : Int) < 0 := by rw [show (0 : Int32) = iZ 0 from rfl, z_lt] <;> omega
    rw [hf, if_neg e6, if_pos e7, q4, bd15_s, p2]
    by_cases hy : (dS P n (n + 1) 0 A B b 0).2.1 = 0
    · rw [if_pos hy, if_pos hy, if_pos hy, hy, bd4_s, if_pos e8, if_pos (show iZ ((0 : Nat) : Int) = (0 : Int32) from rfl)]
      exact ⟨ro2, pl2, rz2, bk2, q1, q2, q3, p1, rfl, rfl⟩
    · rw [if_neg hy, if_neg hy, if_neg hy, if_neg (by rw [show (0 : Int32) = iZ ((0 : Nat) : Int) from rfl, eqz (by omega) (by omega)]; exact hy), bd4_s, if_neg hc]
      exact ⟨ro2, pl2, _, bk2, q1, q2, q3, p1, rfl, rfl⟩
  · rw [if_neg (by rw [show (-6 : Int32) = iZ (-6) from rfl, z_eq] <;> omega), if_pos (by rw [show (0 : Int32) = iZ 0 from rfl, z_le] <;> omega)]
    exact Or.inl ⟨rfl, rfl⟩
