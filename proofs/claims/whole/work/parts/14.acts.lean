/-! the acts, on lists, and in the class's rows -/
def sw (m o x : Nat) : Nat := if x = m then o else if x = o then m else x
theorem sw_sw (m o x : Nat) : sw m o (sw m o x) = x := by
  unfold sw
  by_cases h1 : x = m
  · rw [if_pos h1]
    by_cases h2 : o = m
    · rw [if_pos h2]; omega
    · rw [if_neg h2, if_pos rfl]; omega
  · rw [if_neg h1]
    by_cases h2 : x = o
    · rw [if_pos h2, if_pos rfl]; omega
    · rw [if_neg h2, if_neg h1, if_neg h2]
theorem mem_map_sw (m o k : Nat) (l : List Nat) : k ∈ l.map (sw m o) ↔ sw m o k ∈ l := by
  rw [List.mem_map]
  constructor
  · rintro ⟨x, hx, rfl⟩; rw [sw_sw]; exact hx
  · intro h; exact ⟨_, h, sw_sw m o k⟩
theorem idx_map_sw (m o k : Nat) : ∀ l : List Nat, (l.map (sw m o)).idxOf k = l.idxOf (sw m o k) := by
  intro l
  induction l with
  | nil => rfl
  | cons a l ih =>
    rw [List.map_cons, List.idxOf_cons, List.idxOf_cons, ih]
    by_cases h : a = sw m o k
    · have h2 : sw m o a = k := by rw [h, sw_sw]
      simp [h, sw_sw]
    · have h2 : ¬ sw m o a = k := fun e => h (by rw [← e, sw_sw])
      have e1 : (sw m o a == k) = false := by simpa using h2
      have e2 : (a == sw m o k) = false := by simpa using h
      rw [e1, e2]
theorem nodup_map_sw (m o : Nat) : ∀ {l : List Nat}, l.Nodup → (l.map (sw m o)).Nodup := by
  intro l
  induction l with
  | nil => intro _; exact List.nodup_nil
  | cons a l ih =>
    intro h
    have h2 := List.nodup_cons.mp h
    rw [List.map_cons, List.nodup_cons]
    refine ⟨fun h3 => ?_, ih h2.2⟩
    rw [mem_map_sw, sw_sw] at h3
    exact h2.1 h3
theorem idx_erase {m k : Nat} : ∀ {l : List Nat}, l.Nodup → m ∈ l → k ∈ l → k ≠ m → ((l.erase m).idxOf k : Int) = if (l.idxOf m : Int) < (l.idxOf k : Int) then (l.idxOf k : Int) - 1 else (l.idxOf k : Int) := by
  intro l
  induction l with
  | nil => intro _ h; cases h
  | cons a l ih =>
    intro hn hm hk hne
    have h2 := List.nodup_cons.mp hn
    by_cases ha : a = m
    · subst ha
      have hka : (a == k) = false := by simpa using fun e => hne e.symm
      rw [List.erase_cons_head, List.idxOf_cons_self, List.idxOf_cons, hka]
      simp only [cond_false]
      rw [if_pos (by omega)]
      omega
    · have hma : (a == m) = false := by simpa using ha
      have hml : m ∈ l := (List.mem_cons.mp hm).resolve_left (fun e => ha e.symm)
      rw [List.erase_cons_tail (by simpa using ha), List.idxOf_cons, List.idxOf_cons, List.idxOf_cons, hma]
      by_cases hk2 : a = k
      · subst hk2
        simp only [BEq.rfl, cond_true, cond_false]
        rw [if_neg (by omega)]
      · have hka : (a == k) = false := by simpa using hk2
        have hkl : k ∈ l := (List.mem_cons.mp hk).resolve_left (fun e => hk2 e.symm)
        rw [hka]
        simp only [cond_false]
        have h3 := ih h2.2 hml hkl hne
        by_cases h4 : (l.idxOf m : Int) < (l.idxOf k : Int)
        · rw [if_pos h4] at h3
          rw [if_pos (by omega)]
          omega
        · rw [if_neg h4] at h3
          rw [if_neg (by omega)]
          omega
theorem Wf.join0 {A B : List Nat} {m : Nat} (h : Wf A B) (hA : m ∉ A) (hB : m ∉ B) (hm : m < 10) (hl : A.length < 6) : Wf (A ++ [m]) B := by
  refine ⟨by simp; omega, h.2.1, ?_, ?_⟩
  · rw [List.append_assoc, List.nodup_append]
    refine ⟨h.nA, ?_, ?_⟩
    · rw [List.singleton_append, List.nodup_cons]; exact ⟨hB, h.nB⟩
    · intro x hx y hy e
      subst e
      rcases List.mem_append.mp hy with h1 | h1
      · exact hA (by rw [← List.mem_singleton.mp h1]; exact hx)
      · exact h.dj hx h1
  · intro x hx
    rcases List.mem_append.mp hx with h1 | h1
    · rcases List.mem_append.mp h1 with h2 | h2
      · exact h.2.2.2 x (List.mem_append_left _ h2)
      · rw [List.mem_singleton.mp h2]; exact hm
    · exact h.2.2.2 x (List.mem_append_right _ h1)
theorem Wf.join1 {A B : List Nat} {m : Nat} (h : Wf A B) (hA : m ∉ A) (hB : m ∉ B) (hm : m < 10) (hl : B.length < 6) : Wf A (B ++ [m]) := by
  refine ⟨h.1, by simp; omega, ?_, ?_⟩
  · rw [← List.append_assoc, List.nodup_append]
    refine ⟨h.2.2.1, by simp, ?_⟩
    intro x hx y hy e
    subst e
    rw [List.mem_singleton.mp hy] at hx
    rcases List.mem_append.mp hx with h1 | h1
    · exact hA h1
    · exact hB h1
  · intro x hx
    rw [← List.append_assoc] at hx
    rcases List.mem_append.mp hx with h1 | h1
    · exact h.2.2.2 x h1
    · rw [List.mem_singleton.mp h1]; exact hm
theorem Wf.erase {A B : List Nat} (m : Nat) (h : Wf A B) : Wf (A.erase m) (B.erase m) := by
  refine ⟨Nat.le_trans (List.erase_sublist.length_le) h.1, Nat.le_trans (List.erase_sublist.length_le) h.2.1, ?_, ?_⟩
  · rw [List.nodup_append]
    exact ⟨h.nA.erase m, h.nB.erase m, fun x hx y hy e => h.dj (List.mem_of_mem_erase hx) (List.mem_of_mem_erase (e ▸ hy))⟩
  · intro x hx
    rcases List.mem_append.mp hx with h1 | h1
    · exact h.2.2.2 x (List.mem_append_left _ (List.mem_of_mem_erase h1))
    · exact h.2.2.2 x (List.mem_append_right _ (List.mem_of_mem_erase h1))
theorem Wf.swap {A B : List Nat} {m o : Nat} (h : Wf A B) (hm : m < 10) (ho : o < 10) : Wf (A.map (sw m o)) (B.map (sw m o)) := by
  refine ⟨by simp; exact h.1, by simp; exact h.2.1, ?_, ?_⟩
  · rw [← List.map_append]
    exact nodup_map_sw m o h.2.2.1
  · intro x hx
    rw [← List.map_append, mem_map_sw] at hx
    have h1 := h.2.2.2 _ hx
    unfold sw at h1
    split at h1
    · omega
    · split at h1
      · omega
      · exact h1
theorem rep_join0 {ro pl : Nat → Int32} {A B : List Nat} {m : Nat} (hR : RowsRep ro pl A B) (hA : m ∉ A) : RowsRep (upd ro m (iZ 0)) (upd pl m (iZ A.length)) (A ++ [m]) B := by
  intro k hk
  obtain ⟨h1, h2⟩ := hR k hk
  unfold rowNo plc at *
  unfold upd
  by_cases e : k = m
  · subst e
    rw [if_pos rfl, if_pos rfl, if_pos (by simp), if_pos (by simp), List.idxOf_append, if_neg hA]
    simp
  · have hmem : k ∈ A ++ [m] ↔ k ∈ A := by simp [e]
    rw [if_neg e, if_neg e, h1, h2]
    by_cases hkA : k ∈ A
    · rw [if_pos hkA, if_pos (hmem.mpr hkA), if_pos hkA, if_pos (hmem.mpr hkA), List.idxOf_append, if_pos hkA]
      exact ⟨rfl, rfl⟩
    · rw [if_neg hkA, if_neg (fun h => hkA (hmem.mp h)), if_neg hkA, if_neg (fun h => hkA (hmem.mp h))]
      exact ⟨rfl, rfl⟩
theorem rep_join1 {ro pl : Nat → Int32} {A B : List Nat} {m : Nat} (hR : RowsRep ro pl A B) (hA : m ∉ A) (hB : m ∉ B) : RowsRep (upd ro m (iZ 1)) (upd pl m (iZ B.length)) A (B ++ [m]) := by
  intro k hk
  obtain ⟨h1, h2⟩ := hR k hk
  unfold rowNo plc at *
  unfold upd
  by_cases e : k = m
  · subst e
    rw [if_pos rfl, if_pos rfl, if_neg hA, if_neg hA, if_pos (by simp), if_pos (by simp), List.idxOf_append, if_neg hB]
    simp
  · have hmem : k ∈ B ++ [m] ↔ k ∈ B := by simp [e]
    rw [if_neg e, if_neg e, h1, h2]
    by_cases hkA : k ∈ A
    · exact ⟨by simp only [if_pos hkA], by simp only [if_pos hkA]⟩
    · simp only [if_neg hkA]
      by_cases hkB : k ∈ B
      · rw [if_pos hkB, if_pos (hmem.mpr hkB), if_pos hkB, if_pos (hmem.mpr hkB), List.idxOf_append, if_pos hkB]
        exact ⟨rfl, rfl⟩
      · rw [if_neg hkB, if_neg (fun h => hkB (hmem.mp h)), if_neg hkB, if_neg (fun h => hkB (hmem.mp h))]
        exact ⟨rfl, rfl⟩
theorem join_s {ro pl : Nat → Int32} {A B : List Nat} (hR : RowsRep ro pl A B) (hW : Wf A B) {r m : Nat} (hr : r < 2) (hm : m < 10) : f_X7_join ro pl (iZ m) (iZ r) = some (upd ro m (iZ r), upd pl m (iZ (rowL A B r).length)) := by
  unfold f_X7_join
  rw [lengthOf_s hR hW hr, bd1_s, put_n hm (by omega), bd1_s, put_n hm (by omega), bd1_s]
theorem swap_s {n : Nat} (hn : n ≤ 1000) {a : Nat → Int32} {m o : Nat} (hm : m < n) (ho : o < n) : f_X7_swap n a (iZ m) (iZ o) = some (upd (upd a m (a o)) o (a m)) := by
  unfold f_X7_swap
  rw [at_n hm hn, bd1_s, at_n ho hn, bd1_s, put_n hm hn, bd1_s, put_n ho hn, bd1_s]
theorem upd_sw (a : Nat → Int32) (m o k : Nat) : upd (upd a m (a o)) o (a m) k = a (sw m o k) := by
  unfold upd sw
  by_cases h1 : k = o
  · rw [if_pos h1]
    by_cases h2 : k = m
    · rw [if_pos h2]; rw [← h1, h2]
    · rw [if_neg h2, if_pos h1]
  · rw [if_neg h1]
    by_cases h2 : k = m
    · rw [if_pos h2, if_pos h2]
    · rw [if_neg h2, if_neg h2, if_neg h1]
theorem sw_lt {m o k : Nat} (hm : m < 10) (ho : o < 10) (hk : k < 10) : sw m o k < 10 := by
  unfold sw
  split
  · exact ho
  · split
    · exact hm
    · exact hk
theorem rep_swap {ro pl : Nat → Int32} {A B : List Nat} {m o : Nat} (hR : RowsRep ro pl A B) (hm : m < 10) (ho : o < 10) : RowsRep (upd (upd ro m (ro o)) o (ro m)) (upd (upd pl m (pl o)) o (pl m)) (A.map (sw m o)) (B.map (sw m o)) := by
  intro k hk
  rw [upd_sw, upd_sw]
  obtain ⟨h1, h2⟩ := hR _ (sw_lt hm ho hk)
  rw [h1, h2]
  unfold rowNo plc
  simp only [mem_map_sw, idx_map_sw]
  exact ⟨trivial, trivial⟩
theorem leave_s {ro pl : Nat → Int32} {A B : List Nat} (hR : RowsRep ro pl A B) (hW : Wf A B) {m : Nat} (hm : m < 10) (hin : m ∈ A ∨ m ∈ B) : ∃ pl', f_X7_leave ro pl (iZ m) = some (upd ro m (iZ 2), pl') ∧ RowsRep (upd ro m (iZ 2)) pl' (A.erase m) (B.erase m) := by
  obtain ⟨hm1, hm2⟩ := hR m hm
  have hnr : rowNo A B m < 2 := by
    unfold rowNo
    rcases hin with h | h
    · rw [if_pos h]; omega
    · by_cases hA : m ∈ A
      · rw [if_pos hA]; omega
      · rw [if_neg hA, if_pos h]; omega
  have hpm := plc_le hW m
  refine ⟨fun k => if k < 10 then (if k ≠ m ∧ rowNo A B k = rowNo A B m ∧ plc A B m < plc A B k then iZ (plc A B k - 1) else upd pl m (iZ (-6)) k) else upd pl m (iZ (-6)) k, ?_, ?_⟩
  · unfold f_X7_leave
    rw [at_n hm (by omega), bd1_s, at_n hm (by omega), bd1_s, z_lit, put_n hm (by omega), bd1_s, z_nlit, put_n hm (by omega), bd1_s]
    rw [loop_FU (fun i : Nat => ((iZ i : Int32), ((fun k => if k < i then (if k ≠ m ∧ rowNo A B k = rowNo A B m ∧ plc A B m < plc A B k then iZ (plc A B k - 1) else upd pl m (iZ (-6)) k) else upd pl m (iZ (-6)) k) : Nat → Int32))) 10 (r := (iZ 10, fun k => if k < 10 then (if k ≠ m ∧ rowNo A B k = rowNo A B m ∧ plc A B m < plc A B k then iZ (plc A B k - 1) else upd pl m (iZ (-6)) k) else upd pl m (iZ (-6)) k)) ?_ ?_ ?_ (by omega)]
    · rfl
    · exact Prod.ext (z_lit 0) (funext fun k => by simp)
    · intro i hi
      dsimp only
      unfold f_X7_leave_b40
      obtain ⟨h1, h2⟩ := hR i hi
      have h3 := plc_le hW i
      have h4 := rowNo_le A B i
      have hext : ∀ v : Int32, v = (if i ≠ m ∧ rowNo A B i = rowNo A B m ∧ plc A B m < plc A B i then iZ (plc A B i - 1) else upd pl m (iZ (-6)) i) → ∀ f : Nat → Int32, (∀ k, f k = if k = i then v else (if k < i then (if k ≠ m ∧ rowNo A B k = rowNo A B m ∧ plc A B m < plc A B k then iZ (plc A B k - 1) else upd pl m (iZ (-6)) k) else upd pl m (iZ (-6)) k)) → f = fun k => if k < i + 1 then (if k ≠ m ∧ rowNo A B k = rowNo A B m ∧ plc A B m < plc A B k then iZ (plc A B k - 1) else upd pl m (iZ (-6)) k) else upd pl m (iZ (-6)) k := by
        intro v hv f hf
        funext k
        rw [hf k]
        by_cases hk : k = i
        · subst hk
          rw [if_pos rfl, if_pos (show k < k + 1 by omega), hv]
        · rw [if_neg hk]
          by_cases hk2 : k < i
          · rw [if_pos hk2, if_pos (show k < i + 1 by omega)]
          · rw [if_neg hk2, if_neg (show ¬ k < i + 1 by omega)]
      rw [z_lit, if_neg (by rw [z_le] <;> omega), at_n hi (by omega), bd1_s, at_n hi (by omega), bd1_s, if_neg (Nat.lt_irrefl i)]
      by_cases him : i = m
      · subst him
        have e1 : upd ro i (iZ 2) i = iZ 2 := by unfold upd; rw [if_pos rfl]
        rw [e1, hm1, if_neg (by rw [z_eq] <;> omega), z_lit, z_add]
        refine congrArg some (congrArg Sum.inl (Prod.ext rfl (hext (upd pl i (iZ (-6)) i) (by rw [if_neg (by simp)]) _ (fun k => ?_))))
        by_cases hk : k = i
        · subst hk; rw [if_pos rfl]; dsimp only; rw [if_neg (Nat.lt_irrefl k)]
        · rw [if_neg hk]
      · have e1 : upd ro m (iZ 2) i = ro i := by unfold upd; rw [if_neg him]
        have e2 : upd pl m (iZ (-6)) i = pl i := by unfold upd; rw [if_neg him]
        rw [e1, e2, h1, h2, hm1, hm2]
        by_cases hrow : rowNo A B i = rowNo A B m
        · rw [if_pos (by rw [hrow])]
          by_cases hp : plc A B m < plc A B i
          · rw [if_neg (by rw [z_le] <;> omega), z_lit, z_sub, put_n hi (by omega), bd1_s, z_add]
            refine congrArg some (congrArg Sum.inl (Prod.ext rfl (hext (iZ (plc A B i - 1)) (by rw [if_pos ⟨him, hrow, hp⟩]) _ (fun k => rfl))))
          · rw [if_pos (by rw [z_le] <;> omega), z_lit, z_add]
            refine congrArg some (congrArg Sum.inl (Prod.ext rfl (hext (pl i) (by rw [if_neg (fun h => hp h.2.2), e2]) _ (fun k => ?_))))
            by_cases hk : k = i
            · subst hk; rw [if_pos rfl]; dsimp only; rw [if_neg (Nat.lt_irrefl k), e2]
            · rw [if_neg hk]
        · rw [if_neg (by rw [z_eq] <;> omega), z_lit, z_add]
          refine congrArg some (congrArg Sum.inl (Prod.ext rfl (hext (pl i) (by rw [if_neg (fun h => hrow h.2.1), e2]) _ (fun k => ?_))))
          by_cases hk : k = i
          · subst hk; rw [if_pos rfl]; dsimp only; rw [if_neg (Nat.lt_irrefl k), e2]
          · rw [if_neg hk]
    · dsimp only
      unfold f_X7_leave_b40
      rw [z_lit, if_pos (by rw [z_le] <;> omega)]
      rfl
  · intro k hk
    dsimp only
    rw [if_pos hk]
    by_cases hkm : k = m
    · subst hkm
      have hA : k ∉ A.erase k := hW.nA.not_mem_erase
      have hB : k ∉ B.erase k := hW.nB.not_mem_erase
      unfold upd
      rw [if_pos rfl, if_neg (by simp), if_pos rfl]
      unfold rowNo plc
      rw [if_neg hA, if_neg hB, if_neg hA, if_neg hB]
      exact ⟨rfl, rfl⟩
    · obtain ⟨h1, h2⟩ := hR k hk
      have mA : k ∈ A.erase m ↔ k ∈ A := List.mem_erase_of_ne hkm
      have mB : k ∈ B.erase m ↔ k ∈ B := List.mem_erase_of_ne hkm
      have e1 : upd ro m (iZ 2) k = ro k := by unfold upd; rw [if_neg hkm]
      have e2 : upd pl m (iZ (-6)) k = pl k := by unfold upd; rw [if_neg hkm]
      have hrow : rowNo (A.erase m) (B.erase m) k = rowNo A B k := by unfold rowNo; simp only [mA, mB]
      rw [e1, e2, h1, h2, hrow]
      refine ⟨rfl, ?_⟩
      have hplc : plc (A.erase m) (B.erase m) k = if rowNo A B k = rowNo A B m ∧ plc A B m < plc A B k then plc A B k - 1 else plc A B k := by
        unfold plc rowNo
        simp only [mA, mB]
        by_cases kA : k ∈ A
        · rw [if_pos kA, if_pos kA, if_pos kA]
          by_cases mA2 : m ∈ A
          · rw [if_pos mA2, if_pos mA2, idx_erase hW.nA mA2 kA hkm]
            by_cases hc : (A.idxOf m : Int) < (A.idxOf k : Int)
            · rw [if_pos hc, if_pos ⟨rfl, hc⟩]
            · rw [if_neg hc, if_neg (fun h => hc h.2)]
          · have mB2 : m ∈ B := hin.resolve_left mA2
            rw [if_neg mA2, if_pos mB2, List.erase_of_not_mem mA2, if_neg (by omega)]
        · rw [if_neg kA, if_neg kA, if_neg kA]
          by_cases kB : k ∈ B
          · rw [if_pos kB, if_pos kB, if_pos kB]
            by_cases mA2 : m ∈ A
            · have mB2 : m ∉ B := fun h => hW.dj mA2 h
              rw [if_pos mA2, if_pos mA2, List.erase_of_not_mem mB2, if_neg (by omega)]
            · have mB2 : m ∈ B := hin.resolve_left mA2
              rw [if_neg mA2, if_pos mB2, if_neg mA2, if_pos mB2, idx_erase hW.nB mB2 kB hkm]
              by_cases hc : (B.idxOf m : Int) < (B.idxOf k : Int)
              · rw [if_pos hc, if_pos ⟨rfl, hc⟩]
              · rw [if_neg hc, if_neg (fun h => hc h.2)]
          · rw [if_neg kB, if_neg kB, if_neg kB]
            have h5 : ¬ ((2 : Nat) = (if m ∈ A then 0 else if m ∈ B then 1 else 2)) := by
              have h6 := hnr
              unfold rowNo at h6
              omega
            rw [if_neg (fun h => h5 h.1)]
      rw [hplc]
      by_cases hc : rowNo A B k = rowNo A B m ∧ plc A B m < plc A B k
      · rw [if_pos ⟨hkm, hc⟩, if_pos hc]
      · rw [if_neg (fun h => hc h.2), if_neg hc]
