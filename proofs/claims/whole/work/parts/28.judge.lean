theorem BookRep.cp {bk x : Nat → Int32} {A B : List Nat} {b : Nat} (h : BookRep bk A B b) (hW : Wf A B) : BookRep (cp 15 bk x) A B b := by
  obtain ⟨h1, h2, h3, h4, h5⟩ := h
  refine ⟨fun i m hi => ?_, fun i m hi => ?_, ?_, ?_, ?_⟩
  · have := (List.getElem?_eq_some_iff.mp hi).1
    have := hW.1
    rw [cp_lt (by omega)]
    exact h1 i m hi
  · have := (List.getElem?_eq_some_iff.mp hi).1
    have := hW.2.1
    rw [cp_lt (by omega)]
    exact h2 i m hi
  · rw [cp_lt (by omega)]; exact h3
  · rw [cp_lt (by omega)]; exact h4
  · rw [cp_lt (by omega)]; exact h5
theorem RowsRep.cp {ro pl x y : Nat → Int32} {A B : List Nat} (h : RowsRep ro pl A B) : RowsRep (cp 10 ro x) (cp 10 pl y) A B := by
  intro m hm
  rw [cp_lt hm, cp_lt hm]
  exact h m hm
theorem goDays_s {sg : Nat → Int32} {P : Nat → Nat} {n : Nat} (hn : n ≤ 60) (hP : ∀ i, i < n → sg i = iZ (P i) ∧ P i ≤ 200) (hf : fF P n 0 0 = -6) {A B : List Nat} {b : Nat} {bk : Nat → Int32} (hB : BookRep bk A B b) (hW : Wf A B) (hb : b ≤ 99) (rs : Int32) (now : Nat → Int32) :
    ∃ rz' bk', BookRep bk' (dS P n (n + 1) 0 A B b 0).2.2.1 (dS P n (n + 1) 0 A B b 0).2.2.2.1 (dS P n (n + 1) 0 A B b 0).2.2.2.2 ∧ f_X11_goDays (iZ n) rs bk now sg = some (if (dS P n (n + 1) 0 A B b 0).2.1 = 0 then (-6, rz', iZ (dS P n (n + 1) 0 A B b 0).1, bk') else (iZ (dS P n (n + 1) 0 A B b 0).1, iZ (dS P n (n + 1) 0 A B b 0).2.1, iZ (dS P n (n + 1) 0 A B b 0).1, bk')) := by
  obtain ⟨rz', bk', q1, q2⟩ := goD_loop hn hP (n + 1) 0 A B b 0 rs (cp 15 bk now) FU (Nat.zero_le _) (by omega) (by unfold FU; omega) hf (hB.cp hW) hW hb
  refine ⟨rz', bk', q1, ?_⟩
  unfold f_X11_goDays
  rw [asNow_s, bd1_s]
  have e0 : ((0 : Int32), rs, (0 : Int32), cp 15 bk now) = (iZ ((0 : Nat) : Int), rs, iZ ((0 : Nat) : Int), cp 15 bk now) := rfl
  rw [e0, q2]
  by_cases h0 : (dS P n (n + 1) 0 A B b 0).2.1 = 0
  · rw [if_pos h0, if_pos h0]
    rfl
  · rw [if_neg h0, if_neg h0]
    rfl
theorem play_s {sg : Nat → Int32} {P : Nat → Nat} {n : Nat} (hn : n ≤ 60) (hP : ∀ i, i < n → sg i = iZ (P i) ∧ P i ≤ 200) (hf : fF P n 0 0 = -6) {ro pl : Nat → Int32} {A B : List Nat} {b : Nat} (hR : RowsRep ro pl A B) (hW : Wf A B) (hb : b ≤ 99) (w k c d rf rs sf ss : Nat → Int32) (rc sc : Int32) (w' k' c' d' ro' pl' rf' rs' sf' ss' : Nat → Int32) :
    ∃ ro2 pl2, RowsRep ro2 pl2 (dS P n (n + 1) 0 A B b 0).2.2.1 (dS P n (n + 1) 0 A B b 0).2.2.2.1 ∧ Wf (dS P n (n + 1) 0 A B b 0).2.2.1 (dS P n (n + 1) 0 A B b 0).2.2.2.1 ∧ (dS P n (n + 1) 0 A B b 0).2.2.2.2 ≤ 99 ∧ f_X6_play (iZ n) sg w k c d (iZ b) ro pl rc rf rs sc sf ss w' k' c' d' ro' pl' rf' rs' sf' ss' = some (iZ (dS P n (n + 1) 0 A B b 0).1, iZ (dS P n (n + 1) 0 A B b 0).2.1, cp 10 w w', cp 10 k k', cp 17 c c', cp 2 d d', iZ (dS P n (n + 1) 0 A B b 0).2.2.2.2, ro2, pl2, rc, cp 10 rf rf', cp 10 rs rs', sc, cp 8 sf sf', cp 8 ss ss') := by
  obtain ⟨ro2, pl2, q1, q2, q3, q4⟩ := play_loop (wW := cp 10 w w') (wK := cp 10 k k') (wC := cp 17 c c') (wD := cp 2 d d') (wRC := rc) (wRF := cp 10 rf rf') (wRS := cp 10 rs rs') (wSC := sc) (wSF := cp 8 sf sf') (wSS := cp 8 ss ss') hn hP (n + 1) 0 A B b 0 (cp 10 ro ro') (cp 10 pl pl') FU (Nat.zero_le _) (by omega) (by unfold FU; omega) hf (Or.inl rfl) hR.cp hW hb
  refine ⟨ro2, pl2, q1, q2, q3, ?_⟩
  unfold f_X6_play
  rw [takeTown_s, bd13_s]
  have e0 : ((0 : Int32), (0 : Int32), (0 : Int32), iZ (b : Int), cp 10 ro ro', cp 10 pl pl') = (iZ ((0 : Nat) : Int), iZ ((0 : Nat) : Int), iZ 0, iZ (b : Int), cp 10 ro ro', cp 10 pl pl') := rfl
  rw [e0, q4]
  by_cases h0 : (dS P n (n + 1) 0 A B b 0).2.1 = 0
  · rw [if_pos h0, h0]
    rfl
  · rw [if_neg h0]
    rfl
