/-! the rows as two lists of members; the class's arrays hold them so -/
def Wf (A B : List Nat) : Prop := A.length ≤ 6 ∧ B.length ≤ 6 ∧ (A ++ B).Nodup ∧ ∀ m ∈ A ++ B, m < 10
def rowNo (A B : List Nat) (m : Nat) : Nat := if m ∈ A then 0 else if m ∈ B then 1 else 2
def plc (A B : List Nat) (m : Nat) : Int := if m ∈ A then (A.idxOf m : Int) else if m ∈ B then (B.idxOf m : Int) else -6
def RowsRep (ro pl : Nat → Int32) (A B : List Nat) : Prop := ∀ m, m < 10 → ro m = iZ (rowNo A B m) ∧ pl m = iZ (plc A B m)
def rowL (A B : List Nat) (r : Nat) : List Nat := if r = 0 then A else B
theorem Wf.nA {A B : List Nat} (h : Wf A B) : A.Nodup := (List.nodup_append.mp h.2.2.1).1
theorem Wf.nB {A B : List Nat} (h : Wf A B) : B.Nodup := (List.nodup_append.mp h.2.2.1).2.1
theorem Wf.dj {A B : List Nat} (h : Wf A B) {m : Nat} (h1 : m ∈ A) (h2 : m ∈ B) : False := (List.nodup_append.mp h.2.2.1).2.2 m h1 m h2 rfl
theorem Wf.nL {A B : List Nat} (h : Wf A B) (r : Nat) : (rowL A B r).Nodup := by unfold rowL; split; exact h.nA; exact h.nB
theorem Wf.lt {A B : List Nat} (h : Wf A B) {r m : Nat} (hm : m ∈ rowL A B r) : m < 10 := by
  unfold rowL at hm
  split at hm
  · exact h.2.2.2 m (List.mem_append_left _ hm)
  · exact h.2.2.2 m (List.mem_append_right _ hm)
theorem Wf.len {A B : List Nat} (h : Wf A B) (r : Nat) : (rowL A B r).length ≤ 6 := by unfold rowL; split; exact h.1; exact h.2.1
theorem rowNo_le (A B : List Nat) (m : Nat) : rowNo A B m ≤ 2 := by unfold rowNo; split; omega; split <;> omega
theorem rowNo_iff {A B : List Nat} (h : Wf A B) {r m : Nat} (hr : r < 2) : rowNo A B m = r ↔ m ∈ rowL A B r := by
  unfold rowNo rowL
  by_cases h1 : m ∈ A
  · rw [if_pos h1]
    by_cases h0 : r = 0
    · rw [if_pos h0]; exact ⟨fun _ => h1, fun _ => h0.symm⟩
    · rw [if_neg h0]; exact ⟨fun e => absurd e.symm h0, fun h2 => (h.dj h1 h2).elim⟩
  · rw [if_neg h1]
    by_cases h2 : m ∈ B
    · rw [if_pos h2]
      by_cases h0 : r = 0
      · rw [if_pos h0]; exact ⟨fun e => by omega, fun h3 => absurd h3 h1⟩
      · rw [if_neg h0]; exact ⟨fun _ => h2, fun _ => by omega⟩
    · rw [if_neg h2]
      by_cases h0 : r = 0
      · rw [if_pos h0]; exact ⟨fun e => by omega, fun h3 => absurd h3 h1⟩
      · rw [if_neg h0]; exact ⟨fun e => by omega, fun h3 => absurd h3 h2⟩
theorem idx_of {l : List Nat} (h : l.Nodup) {i m : Nat} (hi : l[i]? = some m) : l.idxOf m = i := by
  obtain ⟨hl, he⟩ := List.getElem?_eq_some_iff.mp hi
  subst he
  exact h.idxOf_getElem i hl
theorem of_idx {l : List Nat} {m : Nat} (h : m ∈ l) : l[l.idxOf m]? = some m := by
  have hl := List.idxOf_lt_length_iff.mpr h
  rw [List.getElem?_eq_getElem hl, List.getElem_idxOf]
theorem plc_L {A B : List Nat} (h : Wf A B) {r m : Nat} (hr : r < 2) (hm : m ∈ rowL A B r) : plc A B m = ((rowL A B r).idxOf m : Int) := by
  unfold plc
  unfold rowL at hm ⊢
  by_cases h0 : r = 0
  · rw [if_pos h0] at hm ⊢
    rw [if_pos hm]
  · rw [if_neg h0] at hm ⊢
    rw [if_neg (fun h1 => h.dj h1 hm), if_pos hm]
theorem plc_le {A B : List Nat} (h : Wf A B) (m : Nat) : -6 ≤ plc A B m ∧ plc A B m ≤ 5 := by
  unfold plc
  have h1 := h.1
  have h2 := h.2.1
  split
  · rename_i hm
    have := List.idxOf_lt_length_iff.mpr hm
    omega
  · split
    · rename_i hm
      have := List.idxOf_lt_length_iff.mpr hm
      omega
    · omega
/-- in place i of row r -/
theorem at_iff {A B : List Nat} (h : Wf A B) {r m i : Nat} (hr : r < 2) : (rowNo A B m = r ∧ plc A B m = (i : Int)) ↔ (rowL A B r)[i]? = some m := by
  constructor
  · rintro ⟨h1, h2⟩
    have hm := (rowNo_iff h hr).mp h1
    rw [plc_L h hr hm] at h2
    have h3 := of_idx hm
    rwa [show (rowL A B r).idxOf m = i by omega] at h3
  · intro hi
    have hm := List.mem_of_getElem? hi
    refine ⟨(rowNo_iff h hr).mpr hm, ?_⟩
    rw [plc_L h hr hm, idx_of (h.nL r) hi]
def cntB (p : Nat → Bool) : Nat → Nat
  | 0 => 0
  | n + 1 => cntB p n + (if p n then 1 else 0)
theorem cntB_eq (p : Nat → Bool) (n : Nat) : cntB p n = (List.range n).countP p := by
  induction n with
  | zero => rfl
  | succ n ih =>
    rw [cntB, ih, List.range_succ, List.countP_append]
    simp [List.countP_cons]
theorem cntB_le (p : Nat → Bool) (n : Nat) : cntB p n ≤ n := by
  induction n with
  | zero => exact Nat.le_refl _
  | succ n ih => rw [cntB]; split <;> omega
theorem cnt_mem {l : List Nat} (hn : l.Nodup) (hl : ∀ m ∈ l, m < 10) {p : Nat → Bool} (hp : ∀ m, p m = true ↔ m ∈ l) : cntB p 10 = l.length := by
  rw [cntB_eq, List.countP_eq_length_filter]
  refine List.Perm.length_eq ((List.perm_ext_iff_of_nodup (List.nodup_range.filter p) hn).mpr (fun m => ?_))
  rw [List.mem_filter, List.mem_range, hp]
  exact ⟨fun h => h.2, fun h => ⟨hl m h, h⟩⟩
theorem lengthOf_s {ro pl : Nat → Int32} {A B : List Nat} (hR : RowsRep ro pl A B) (hW : Wf A B) {r : Nat} (hr : r < 2) : f_X7_lengthOf ro (iZ r) = some (iZ (rowL A B r).length) := by
  have hc : cntB (fun m => decide (rowNo A B m = r)) 10 = (rowL A B r).length := cnt_mem (hW.nL r) (fun m hm => hW.lt hm) (fun m => by rw [decide_eq_true_iff]; exact rowNo_iff hW hr)
  unfold f_X7_lengthOf
  rw [loop_FU (fun i : Nat => ((iZ (cntB (fun m => decide (rowNo A B m = r)) i) : Int32), (iZ i : Int32))) 10 (r := (iZ (rowL A B r).length, iZ 10)) ?_ ?_ ?_ (by omega)]
  · rfl
  · exact Prod.ext (z_lit 0) (z_lit 0)
  · intro i hi
    dsimp only
    unfold f_X7_lengthOf_b4
    have h2 := rowNo_le A B i
    rw [z_lit, if_neg (by rw [z_le] <;> omega), gd_z (by omega) (by omega) (by omega), z_cl (by omega) (by omega), Int.toNat_natCast, (hR i hi).1]
    by_cases h1 : rowNo A B i = r
    · rw [if_pos (by rw [h1]), cntB, if_pos (by rw [decide_eq_true_iff]; exact h1), z_lit, z_add, z_add]
      rfl
    · rw [if_neg (by rw [z_eq] <;> omega), cntB, if_neg (by rw [decide_eq_true_iff]; exact h1), z_lit, z_add]
      rfl
  · dsimp only
    unfold f_X7_lengthOf_b4
    rw [z_lit, if_pos (by rw [z_le] <;> omega), hc]
    rfl
def whoZ (A B : List Nat) (r i : Nat) : Int := match (rowL A B r)[i]? with
  | some m => m
  | none => -6
theorem whoIsAt_s {ro pl : Nat → Int32} {A B : List Nat} (hR : RowsRep ro pl A B) (hW : Wf A B) {r : Nat} (hr : r < 2) (i : Nat) (hi6 : i < 1000) : f_X7_whoIsAt ro pl (iZ r) (iZ i) = some (iZ (whoZ A B r i)) := by
  have step : ∀ m : Nat, m < 10 → f_X7_whoIsAt_b2 ro pl (iZ r) (iZ i) (iZ m) = if (rowL A B r)[i]? = some m then some (.inr (.inr (iZ m))) else some (.inl (iZ ((m + 1 : Nat) : Int))) := by
    intro m hm
    unfold f_X7_whoIsAt_b2
    have h2 := rowNo_le A B m
    have h3 := plc_le hW m
    rw [z_lit, if_neg (by rw [z_le] <;> omega), at_n hm (by omega), bd1_s, (hR m hm).1]
    by_cases h1 : rowNo A B m = r
    · rw [if_pos (by rw [h1]), at_n hm (by omega), bd1_s, (hR m hm).2]
      by_cases h4 : plc A B m = i
      · rw [if_pos (by rw [h4]), if_pos ((at_iff hW hr).mp ⟨h1, h4⟩)]
      · rw [if_neg (by rw [z_eq] <;> omega), if_neg (fun h5 => h4 ((at_iff hW hr).mpr h5).2), z_lit, z_add]
        rfl
    · rw [if_neg (by rw [z_eq] <;> omega), if_neg (fun h5 => h1 ((at_iff hW hr).mpr h5).1), z_lit, z_add]
      rfl
  unfold f_X7_whoIsAt whoZ
  cases h : (rowL A B r)[i]? with
  | some m =>
    have hm := hW.lt (List.mem_of_getElem? h)
    rw [loop_FU (fun k : Nat => (iZ k : Int32)) m (r := .inr (iZ m)) (z_lit 0) ?_ ?_ (by omega)]
    · rfl
    · intro k hk
      rw [step k (by omega), if_neg]
      rw [h]
      intro e
      have := Option.some.inj e
      omega
    · rw [step m hm, if_pos h]
  | none =>
    rw [loop_FU (fun k : Nat => (iZ k : Int32)) 10 (r := .inl (iZ 10)) (z_lit 0) ?_ ?_ (by omega)]
    · rfl
    · intro k hk
      rw [step k hk, if_neg]
      rw [h]
      intro e
      cases e
    · unfold f_X7_whoIsAt_b2
      rw [z_lit, if_pos (by rw [z_le] <;> omega)]
      rfl
