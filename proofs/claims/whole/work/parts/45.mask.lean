/-! sets of at most six as bits -/
def clr (s k : Nat) : Nat := if s.testBit k then s - 2 ^ k else s
def pc (s : Nat) : Nat := cntB (fun k => s.testBit k) 6
theorem mk_holds : ∀ s : Fin 64, ∀ k : Fin 6, f_X3_holds (iZ (s.val : Int)) (iZ (k.val : Int)) = some (if s.val.testBit k.val then iZ 1 else iZ 0) := by decide +kernel
theorem mk_without : ∀ s : Fin 64, ∀ k : Fin 6, f_X3_without (iZ (s.val : Int)) (iZ (k.val : Int)) = some (iZ ((clr s.val k.val : Nat) : Int)) := by decide +kernel
theorem mk_count : ∀ s : Fin 64, f_J6_bitCount_0f7a4 (iZ (s.val : Int)) = some (iZ ((pc s.val : Nat) : Int)) := by decide +kernel
theorem mk_all : ∀ n : Fin 7, f_X3_all (iZ (n.val : Int)) = some (iZ ((2 ^ n.val - 1 : Nat) : Int)) := by decide +kernel
theorem mk_clr : ∀ s : Fin 64, ∀ k : Fin 6, ∀ j : Fin 6, (clr s.val k.val).testBit j.val = (s.val.testBit j.val && decide (j.val ≠ k.val)) := by decide +kernel
theorem mk_clt : ∀ s : Fin 64, ∀ k : Fin 6, clr s.val k.val ≤ s.val ∧ (s.val.testBit k.val = true → clr s.val k.val < s.val ∧ pc (clr s.val k.val) + 1 = pc s.val) := by decide +kernel
theorem mk_hi : ∀ n : Fin 7, ∀ s : Fin 64, s.val < 2 ^ n.val → ∀ k : Fin 6, n.val ≤ k.val → s.val.testBit k.val = false := by decide +kernel
theorem mk_full : ∀ n : Fin 7, 2 ^ n.val - 1 < 64 ∧ pc (2 ^ n.val - 1) = n.val ∧ ∀ k : Fin 6, k.val < n.val → (2 ^ n.val - 1).testBit k.val = true := by decide +kernel
theorem mk_pos : ∀ s : Fin 64, 0 < s.val → 0 < pc s.val := by decide +kernel
theorem holds_s {s k : Nat} (hs : s < 64) (hk : k < 6) : f_X3_holds (iZ s) (iZ k) = some (if s.testBit k then iZ 1 else iZ 0) := mk_holds ⟨s, hs⟩ ⟨k, hk⟩
theorem without_s {s k : Nat} (hs : s < 64) (hk : k < 6) : f_X3_without (iZ s) (iZ k) = some (iZ (clr s k)) := mk_without ⟨s, hs⟩ ⟨k, hk⟩
theorem bitc_s {s : Nat} (hs : s < 64) : f_J6_bitCount_0f7a4 (iZ s) = some (iZ (pc s)) := mk_count ⟨s, hs⟩
theorem all_s {n : Nat} (hn : n ≤ 6) : f_X3_all (iZ n) = some (iZ ((2 ^ n - 1 : Nat) : Int)) := mk_all ⟨n, by omega⟩
theorem clr_bit {s k j : Nat} (hs : s < 64) (hk : k < 6) (hj : j < 6) : (clr s k).testBit j = true ↔ s.testBit j = true ∧ j ≠ k := by
  rw [mk_clr ⟨s, hs⟩ ⟨k, hk⟩ ⟨j, hj⟩, Bool.and_eq_true, decide_eq_true_iff]
theorem clr_lt {s k : Nat} (hs : s < 64) (hk : k < 6) (h : s.testBit k = true) : clr s k < s ∧ pc (clr s k) + 1 = pc s := (mk_clt ⟨s, hs⟩ ⟨k, hk⟩).2 h
theorem bit_lt {n s k : Nat} (hn : n ≤ 6) (hs : s < 2 ^ n) (h64 : s < 64) (hk : k < 6) (h : s.testBit k = true) : k < n := by
  rcases Nat.lt_or_ge k n with h1 | h1
  · exact h1
  · have := mk_hi ⟨n, by omega⟩ ⟨s, h64⟩ hs ⟨k, hk⟩ h1
    rw [this] at h
    cases h
theorem pow_le {n : Nat} (hn : n ≤ 6) : 2 ^ n ≤ 64 := Nat.pow_le_pow_right (by omega) hn
/-- the members of S that a set of places holds -/
def ml (S : List Nat) (s : Nat) : List Nat := ((List.range S.length).filter (fun k => s.testBit k)).map (fun k => S.getD k 0)
theorem getD_get {S : List Nat} {k : Nat} (h : k < S.length) : S[k]? = some (S.getD k 0) := by
  rw [List.getD_eq_getElem?_getD, List.getElem?_eq_getElem h]
  rfl
theorem getD_inj {S : List Nat} (hN : S.Nodup) {j k : Nat} (hj : j < S.length) (hk : k < S.length) (e : S.getD j 0 = S.getD k 0) : j = k := by
  have h1 := idx_of hN (getD_get hj)
  have h2 := idx_of hN (getD_get hk)
  rw [e] at h1
  omega
theorem mem_ml {S : List Nat} {s x : Nat} : x ∈ ml S s ↔ ∃ k, k < S.length ∧ s.testBit k = true ∧ S.getD k 0 = x := by
  unfold ml
  rw [List.mem_map]
  constructor
  · rintro ⟨k, hk, e⟩
    rw [List.mem_filter, List.mem_range] at hk
    exact ⟨k, hk.1, hk.2, e⟩
  · rintro ⟨k, h1, h2, e⟩
    exact ⟨k, List.mem_filter.mpr ⟨List.mem_range.mpr h1, h2⟩, e⟩
theorem nodup_ml {S : List Nat} (hN : S.Nodup) (s : Nat) : (ml S s).Nodup := by
  unfold ml
  refine nodup_map_on (List.nodup_range.filter _) (fun x hx y hy e => ?_)
  rw [List.mem_filter, List.mem_range] at hx hy
  exact getD_inj hN hx.1 hy.1 e
theorem cntB_ext {p : Nat → Bool} {n : Nat} : ∀ m : Nat, n ≤ m → (∀ k, n ≤ k → k < m → p k = false) → cntB p m = cntB p n := by
  intro m
  induction m with
  | zero => intro h _; rw [show n = 0 by omega]
  | succ m ih =>
    intro h1 h2
    by_cases h : n = m + 1
    · rw [h]
    · rw [cntB, h2 m (by omega) (by omega), if_neg (by decide), Nat.add_zero]
      exact ih (by omega) (fun k h3 h4 => h2 k h3 (by omega))
theorem len_ml {S : List Nat} (h6 : S.length ≤ 6) {s : Nat} (hs : s < 2 ^ S.length) : (ml S s).length = pc s := by
  have h64 : s < 64 := Nat.lt_of_lt_of_le hs (pow_le h6)
  unfold ml pc
  rw [List.length_map, ← List.countP_eq_length_filter, ← cntB_eq]
  exact (cntB_ext 6 h6 (fun k h1 h2 => mk_hi ⟨S.length, by omega⟩ ⟨s, h64⟩ hs ⟨k, h2⟩ h1)).symm
theorem ml_clr {S : List Nat} (hN : S.Nodup) (h6 : S.length ≤ 6) {s k : Nat} (hs : s < 64) (hk : k < S.length) : (ml S (clr s k)).Perm ((ml S s).erase (S.getD k 0)) := by
  refine (List.perm_ext_iff_of_nodup (nodup_ml hN _) ((nodup_ml hN s).erase _)).mpr (fun x => ?_)
  rw [(nodup_ml hN s).mem_erase_iff, mem_ml, mem_ml]
  constructor
  · rintro ⟨j, h1, h2, rfl⟩
    obtain ⟨h3, h4⟩ := (clr_bit hs (show k < 6 by omega) (show j < 6 by omega)).mp h2
    exact ⟨fun e => h4 (getD_inj hN h1 hk e), j, h1, h3, rfl⟩
  · rintro ⟨h0, j, h1, h2, rfl⟩
    exact ⟨j, h1, (clr_bit hs (show k < 6 by omega) (show j < 6 by omega)).mpr ⟨h2, fun e => h0 (by rw [e])⟩, rfl⟩
theorem ml_0 (S : List Nat) : ml S 0 = [] := by
  unfold ml
  rw [show (List.range S.length).filter (fun k => (0 : Nat).testBit k) = [] from List.filter_eq_nil_iff.mpr (fun k _ => by simp)]
  rfl
theorem ml_full {S : List Nat} (h6 : S.length ≤ 6) : ml S (2 ^ S.length - 1) = S := by
  unfold ml
  rw [List.filter_eq_self.mpr (fun k hk => (mk_full ⟨S.length, by omega⟩).2.2 ⟨k, by have := List.mem_range.mp hk; omega⟩ (List.mem_range.mp hk))]
  apply List.ext_getElem?
  intro i
  rw [List.getElem?_map]
  by_cases hi : i < S.length
  · rw [List.getElem?_range hi, getD_get hi]
    rfl
  · rw [List.getElem?_eq_none (by rw [List.length_range]; omega), List.getElem?_eq_none (by omega)]
    rfl
/-- the members of a row, the least first -/
def crL (A B : List Nat) (r n : Nat) : List Nat := (List.range n).filter (fun m => decide (rowNo A B m = r))
theorem crL_succ (A B : List Nat) (r n : Nat) : crL A B r (n + 1) = crL A B r n ++ (if rowNo A B n = r then [n] else []) := by
  unfold crL
  rw [List.range_succ, List.filter_append]
  congr 1
  by_cases h : rowNo A B n = r
  · rw [if_pos h, List.filter_cons_of_pos (by rw [decide_eq_true_iff]; exact h)]
    rfl
  · rw [if_neg h, List.filter_cons_of_neg (by rw [decide_eq_true_iff]; exact h)]
    rfl
theorem crL_perm {A B : List Nat} (hW : Wf A B) {r : Nat} (hr : r < 2) : (crL A B r 10).Perm (rowL A B r) := by
  refine (List.perm_ext_iff_of_nodup (List.nodup_range.filter _) (hW.nL r)).mpr (fun x => ?_)
  rw [List.mem_filter, List.mem_range, decide_eq_true_iff, rowNo_iff hW hr]
  exact ⟨fun h => h.2, fun h => ⟨hW.lt h, h⟩⟩
theorem crL_len {A B : List Nat} (hW : Wf A B) {r : Nat} (hr : r < 2) : (crL A B r 10).length ≤ 6 := by
  rw [(crL_perm hW hr).length_eq]
  exact hW.len r
theorem crL_mono (A B : List Nat) (r : Nat) {n : Nat} (hn : n < 10) (h : rowNo A B n = r) : (crL A B r n).length + 1 ≤ (crL A B r 10).length := by
  have h1 : ∀ k : Nat, (crL A B r (n + 1)).length ≤ (crL A B r (n + 1 + k)).length := by
    intro k
    induction k with
    | zero => exact Nat.le_refl _
    | succ k ih => rw [show n + 1 + (k + 1) = (n + 1 + k) + 1 by omega, crL_succ A B r (n + 1 + k), List.length_append]; omega
  have h2 := h1 (9 - n)
  rw [show n + 1 + (9 - n) = 10 by omega, crL_succ, List.length_append, if_pos h] at h2
  exact h2
theorem crL_sort (A B : List Nat) (r n : Nat) : (crL A B r n).Pairwise (fun x y => x < y) := (List.pairwise_lt_range).sublist List.filter_sublist
theorem gather_s {ro pl : Nat → Int32} {A B : List Nat} (hR : RowsRep ro pl A B) (hW : Wf A B) {r : Nat} (hr : r < 2) (cr : Nat → Int32) : ∃ cr', f_X3_gather cr ro (iZ r) = some (iZ (crL A B r 10).length, cr') ∧ ∀ i, i < (crL A B r 10).length → cr' i = iZ ((crL A B r 10).getD i 0) := by
  have hl := crL_len hW hr
  obtain ⟨⟨q1, q2, q3⟩, h1, h2, h3⟩ := loop_inv (body := fun (q : Int32 × Int32 × (Nat → Int32)) => f_X3_gather_b12 ro (iZ r) q.1 q.2.1 q.2.2) (s := (0, 0, cr)) (P := fun q => q.2.1 = iZ (crL A B r 10).length ∧ ∀ i x : Nat, (crL A B r 10)[i]? = some x → q.2.2 i = iZ x)
    (fun m s => ∃ cc, s = (iZ m, iZ (crL A B r m).length, cc) ∧ ∀ i x : Nat, (crL A B r m)[i]? = some x → cc i = iZ x) 10
    ⟨cr, rfl, fun i x h => by cases i <;> cases h⟩
    (by
      rintro m hm s ⟨cc, rfl, hc⟩
      dsimp only
      have hrn := rowNo_le A B m
      unfold f_X3_gather_b12
      rw [show (10 : Int32) = iZ 10 from rfl, if_neg (by rw [z_le] <;> omega), at_n hm (by omega), bd1_s, (hR m hm).1, show (1 : Int32) = iZ 1 from rfl, z_add]
      by_cases hrow : rowNo A B m = r
      · have hmo := crL_mono A B r hm hrow
        rw [if_pos (by rw [hrow]), if_neg (by rw [show (6 : Int32) = iZ 6 from rfl, z_le] <;> omega), put_n (by omega) (by omega), bd1_s, z_add, crL_succ, if_pos hrow]
        refine ⟨_, rfl, upd cc (crL A B r m).length (iZ m), ?_, ?_⟩
        · rw [List.length_append]
          rfl
        · intro i x hi
          rcases Nat.lt_or_ge i (crL A B r m).length with h | h
          · rw [upd_ne _ _ (by omega)]
            rw [List.getElem?_append_left h] at hi
            exact hc i x hi
          · rw [List.getElem?_append_right h] at hi
            obtain ⟨hi1, hi2⟩ := List.getElem?_eq_some_iff.mp hi
            rw [List.length_singleton] at hi1
            have hi3 : i = (crL A B r m).length := by omega
            subst hi3
            rw [upd_at]
            simp at hi2
            rw [hi2]
      · rw [if_neg (by rw [z_eq] <;> omega), crL_succ, if_neg hrow, List.append_nil]
        exact ⟨_, rfl, cc, rfl, hc⟩)
    (by
      rintro s ⟨cc, rfl, hc⟩
      dsimp only
      unfold f_X3_gather_b12
      rw [if_pos (by decide)]
      exact ⟨_, rfl, rfl, hc⟩)
    (by omega)
  unfold f_X3_gather
  dsimp only at h2
  subst h2
  rw [h1, bd3_s]
  exact ⟨q3, rfl, fun i hi => h3 i _ (getD_get hi)⟩
