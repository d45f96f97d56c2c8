def apB (kd ku more : Nat) : Bool := decide (((kd : Int) - ((ku + more) % 12 : Nat)).natAbs = 1 ∨ ((kd : Int) - ((ku + more) % 12 : Nat)).natAbs = 6 ∨ ((kd : Int) - ((ku + more) % 12 : Nat)).natAbs = 11)
def grB (K : Nat → Nat) (more x y : Nat) : Bool := decide (K x < 12) && (decide (K y < 12) && apB (K x) (K y) more)
def grM (K : Nat → Nat) (more D0 D1 : Nat) (A B : List Nat) (p : Nat × Nat) : Bool := mtM D0 D1 A B p && grB K more p.1 p.2
def grI (K : Nat → Nat) (more D0 D1 : Nat) (A B : List Nat) (p : Nat × Nat) : Bool := mtB D0 D1 p.1 p.2 && grB K more (A.getD p.1 0) (B.getD p.2 0)
theorem gr_iff {K : Nat → Nat} {more D0 D1 : Nat} {A B : List Nat} (p : Nat × Nat) : grM K more D0 D1 A B p = true ↔ p.1 ∈ A ∧ p.2 ∈ B ∧ grI K more D0 D1 A B (toI A B p) = true := by
  unfold grM grI
  rw [Bool.and_eq_true, mt_iff]
  constructor
  · rintro ⟨⟨h1, h2, h3⟩, h4⟩
    refine ⟨h1, h2, ?_⟩
    unfold toI
    dsimp only
    rw [getD_idx h1, getD_idx h2, Bool.and_eq_true]
    exact ⟨h3, h4⟩
  · rintro ⟨h1, h2, h3⟩
    unfold toI at h3
    dsimp only at h3
    rw [getD_idx h1, getD_idx h2, Bool.and_eq_true] at h3
    exact ⟨⟨h1, h2, h3.1⟩, h3.2⟩
def prodL (n m : Nat) : List (Nat × Nat) := (List.range n).flatMap (fun i => (List.range m).map (fun j => (i, j)))
theorem prodL_succ (n m : Nat) : prodL (n + 1) m = prodL n m ++ (List.range m).map (fun j => (n, j)) := by
  unfold prodL
  rw [List.range_succ, List.flatMap_append]
  simp
theorem mem_prodL {n m : Nat} {p : Nat × Nat} : p ∈ prodL n m ↔ p.1 < n ∧ p.2 < m := by
  unfold prodL
  rw [List.mem_flatMap]
  constructor
  · rintro ⟨a, ha, h⟩
    obtain ⟨u, hu, rfl⟩ := List.mem_map.mp h
    exact ⟨List.mem_range.mp ha, List.mem_range.mp hu⟩
  · rintro ⟨h1, h2⟩
    exact ⟨p.1, List.mem_range.mpr h1, List.mem_map.mpr ⟨p.2, List.mem_range.mpr h2, rfl⟩⟩
theorem nodup_prodL (n m : Nat) : (prodL n m).Nodup := by
  unfold prodL
  refine nodup_flat _ _ List.nodup_range (fun a _ => nodup_map_on List.nodup_range (fun x _ y _ e => (Prod.mk.inj e).2)) ?_
  intro x _ y _ hxy p hp hq
  obtain ⟨u, -, rfl⟩ := List.mem_map.mp hp
  obtain ⟨w, -, e⟩ := List.mem_map.mp hq
  exact hxy (Prod.mk.inj e).1.symm
theorem prodL_perm {n m : Nat} (hn : n ≤ 6) (hm : m ≤ 6) : (prodL n m).Perm (tmA n m 11) := by
  refine (List.perm_ext_iff_of_nodup (nodup_prodL n m) (nodup_tmA hn m 11)).mpr (fun p => ?_)
  rw [mem_prodL, mem_tmA]
  constructor
  · rintro ⟨h1, h2⟩; exact ⟨h1, h2, by omega⟩
  · rintro ⟨h1, h2, -⟩; exact ⟨h1, h2⟩
theorem countP_pairs (f : Nat × Nat → Bool) (a n : Nat) : ((List.range n).map (fun u => (a, u))).countP f = cntB (fun u => f (a, u)) n := by
  rw [cntB_eq, List.countP_map]
  rfl
def nGr (K : Nat → Nat) (more D0 D1 : Nat) (A B : List Nat) : Nat := (prsM 10).countP (grM K more D0 D1 A B)
theorem nGr_le (K : Nat → Nat) (more D0 D1 : Nat) (A B : List Nat) : nGr K more D0 D1 A B ≤ 100 := by
  unfold nGr
  have h1 := List.countP_le_length (p := grM K more D0 D1 A B) (l := prsM 10)
  have h2 := prsM_len 10
  omega
theorem nGr_eq {K : Nat → Nat} {more D0 D1 : Nat} {A B : List Nat} (hW : Wf A B) : nGr K more D0 D1 A B = (prodL A.length B.length).countP (grI K more D0 D1 A B) := by
  unfold nGr
  rw [cnt_eq hW (pc := grM K more D0 D1 A B) (pi := grI K more D0 D1 A B) gr_iff]
  exact (prodL_perm hW.1 hW.2.1).symm.countP_eq _
theorem md12 {a : Nat} (ha : a ≤ 1000) : iZ (a : Int) - iZ (a : Int) / 12 * 12 = iZ ((a % 12 : Nat) : Int) := by
  rw [show (12 : Int32) = iZ 12 from rfl, z_div (by omega) (by omega) (by omega) (by omega), z_rem (by omega) (by omega) (by omega) (by omega)]
  rfl
theorem gw_s {k d ro pl : Nat → Int32} {K D : Nat → Nat} {A B : List Nat} (hk : ∀ m, m < 10 → k m = iZ (K m) ∧ K m ≤ 12) (hd : ∀ r, r < 2 → d r = iZ (D r) ∧ D r ≤ 20) (hR : RowsRep ro pl A B) (hW : Wf A B) {dn : Nat} (hdn : dn ∈ A) (hkd : K dn < 12) {more : Nat} (hm : more ≤ 12) : f_X1_gratingWith k d ro pl (iZ dn) (iZ more) = some (iZ (cntB (fun u => grM K more (D 0) (D 1) A B (dn, u)) 10)) := by
  have hd10 : dn < 10 := hW.lt (r := 0) hdn
  have hdD : ∀ r, r < 2 → d r = iZ (D r) := fun r hr => (hd r hr).1
  have hD0 := (hd 0 (by omega)).2
  have hD1 := (hd 1 (by omega)).2
  have hiA := List.idxOf_lt_length_iff.mpr hdn
  have hlA := hW.1
  have hlB := hW.2.1
  have eS : f_X8_startOf d ro pl (iZ dn) = some (iZ ((D 0 + A.idxOf dn : Nat) : Int)) := start_s hR hW hdD (r := 0) (by omega) hdn
  unfold f_X1_gratingWith
  rw [loop_FU (fun i : Nat => ((iZ (cntB (fun u => grM K more (D 0) (D 1) A B (dn, u)) i) : Int32), (iZ i : Int32))) 10 (r := (iZ (cntB (fun u => grM K more (D 0) (D 1) A B (dn, u)) 10), iZ 10)) ?_ ?_ ?_ (by omega)]
  · rfl
  · rfl
  · intro u hu
    dsimp only
    have hcl := cntB_le (fun u => grM K more (D 0) (D 1) A B (dn, u)) u
    have hrn := rowNo_le A B u
    unfold f_X1_gratingWith_b5 f_X1_gratingWith_j115
    rw [show (10 : Int32) = iZ 10 from rfl, show (1 : Int32) = iZ 1 from rfl, if_neg (by rw [z_le] <;> omega), at_n hu (by omega), bd1_s, (hR u hu).1, cntB]
    by_cases huB : u ∈ B
    · have hu1 : rowNo A B u = 1 := (rowNo_iff hW (r := 1) (by omega)).mpr huB
      have hiB := List.idxOf_lt_length_iff.mpr huB
      have eU : f_X8_startOf d ro pl (iZ u) = some (iZ ((D 1 + B.idxOf u : Nat) : Int)) := start_s hR hW hdD (r := 1) (by omega) huB
      have hku := (hk u hu).2
      rw [if_pos (show iZ (rowNo A B u : Int) = iZ 1 by rw [hu1]; rfl), at_n hu (by omega), at_n hd10 (by omega), bd1_s, bd1_s, bd1_s, (hk u hu).1, (hk dn hd10).1, show (12 : Int32) = iZ 12 from rfl]
      by_cases h12 : K u = 12
      · have ef : grM K more (D 0) (D 1) A B (dn, u) = false := by unfold grM grB; simp [h12]
        rw [if_pos (by rw [h12]; rfl), ef, if_neg (by decide), z_add]
        rfl
      · rw [if_neg (by rw [z_eq] <;> omega), eS, eU, bd1_s, bd1_s, spotOf_s (by omega) (by omega), bd1_s]
        have esp : 16 + ((D 1 + B.idxOf u : Nat) : Int) - ((D 0 + A.idxOf dn : Nat) : Int) = spI (D 0) (D 1) (A.idxOf dn) (B.idxOf u) := by unfold spI; omega
        rw [esp]
        by_cases hmt : 0 ≤ spI (D 0) (D 1) (A.idxOf dn) (B.idxOf u) ∧ spI (D 0) (D 1) (A.idxOf dn) (B.idxOf u) ≤ 32
        · have emt : mtM (D 0) (D 1) A B (dn, u) = true := by unfold mtM mtB; simp [hdn, huB, hmt]
          have eg : grM K more (D 0) (D 1) A B (dn, u) = apB (K dn) (K u) more := by
            unfold grM grB
            rw [emt]
            simp [hkd, show K u < 12 by omega]
          rw [eg, if_pos hmt, show ((-6 : Int32)) = iZ (-6) from rfl, if_neg (by rw [z_eq] <;> omega)]
          have e12 : iZ (K u : Int) + iZ (more : Int) - (iZ (K u : Int) + iZ (more : Int)) / iZ 12 * iZ 12 = iZ (((K u + more) % 12 : Nat) : Int) := by
            rw [z_add, show (K u : Int) + (more : Int) = ((K u + more : Nat) : Int) by omega]
            exact md12 (by omega)
          rw [e12, z_sub, show (0 : Int32) = iZ 0 from rfl, z_sub]
          have hab : (if iZ 0 ≤ iZ ((K dn : Int) - ((K u + more) % 12 : Nat)) then iZ ((K dn : Int) - ((K u + more) % 12 : Nat)) else iZ (0 - ((K dn : Int) - ((K u + more) % 12 : Nat)))) = iZ (((K dn : Int) - ((K u + more) % 12 : Nat)).natAbs : Int) := by
            by_cases h0 : (0 : Int) ≤ (K dn : Int) - ((K u + more) % 12 : Nat)
            · rw [if_pos (by rw [z_le] <;> omega)]
              congr 1
              omega
            · rw [if_neg (by rw [z_le] <;> omega)]
              congr 1
              omega
          rw [hab, nmv_s]
          have hb : ((K dn : Int) - ((K u + more) % 12 : Nat)).natAbs ≤ 12 := by omega
          unfold apB
          generalize ((K dn : Int) - ((K u + more) % 12 : Nat)).natAbs = t at hb ⊢
          rw [show (6 : Int32) = iZ 6 from rfl, show (11 : Int32) = iZ 11 from rfl]
          by_cases q1 : t = 1
          · rw [if_pos (show iZ (t : Int) = iZ 1 by rw [q1]; rfl), if_pos (by rw [decide_eq_true_iff]; omega), z_add, z_add]; rfl
          · rw [if_neg (show ¬ iZ (t : Int) = iZ 1 by rw [z_eq] <;> omega)]
            by_cases q2 : t = 6
            · rw [if_pos (show iZ (t : Int) = iZ 6 by rw [q2]; rfl), if_pos (by rw [decide_eq_true_iff]; omega), z_add, z_add]; rfl
            · rw [if_neg (show ¬ iZ (t : Int) = iZ 6 by rw [z_eq] <;> omega)]
              by_cases q3 : t = 11
              · rw [if_pos (show iZ (t : Int) = iZ 11 by rw [q3]; rfl), if_pos (by rw [decide_eq_true_iff]; omega), z_add, z_add]; rfl
              · rw [if_neg (show ¬ iZ (t : Int) = iZ 11 by rw [z_eq] <;> omega), if_neg (by rw [decide_eq_true_iff]; omega), z_add]; rfl
        · have ef : grM K more (D 0) (D 1) A B (dn, u) = false := by
            unfold grM mtM mtB
            rw [decide_eq_false hmt]
            simp
          rw [if_neg hmt, if_pos (show iZ (-6) = (-6 : Int32) from rfl), ef, if_neg (by decide), z_add]
          rfl
    · have hu1 : ¬ rowNo A B u = 1 := fun h => huB ((rowNo_iff hW (r := 1) (by omega)).mp h)
      have ef : grM K more (D 0) (D 1) A B (dn, u) = false := by unfold grM mtM; simp [huB]
      rw [if_neg (by rw [z_eq] <;> omega), ef, if_neg (by decide), z_add]
      rfl
  · dsimp only
    unfold f_X1_gratingWith_b5
    rw [if_pos (by decide)]
    rfl
theorem grC_s {k d ro pl : Nat → Int32} {K D : Nat → Nat} {A B : List Nat} (hk : ∀ m, m < 10 → k m = iZ (K m) ∧ K m ≤ 12) (hd : ∀ r, r < 2 → d r = iZ (D r) ∧ D r ≤ 20) (hR : RowsRep ro pl A B) (hW : Wf A B) {more : Nat} (hm : more ≤ 12) : f_X1_grating k d ro pl (iZ more) = some (iZ (nGr K more (D 0) (D 1) A B)) := by
  unfold f_X1_grating
  rw [loop_FU (fun i : Nat => ((iZ ((prsM i).countP (grM K more (D 0) (D 1) A B)) : Int32), (iZ i : Int32))) 10 (r := (iZ ((prsM 10).countP (grM K more (D 0) (D 1) A B)), iZ 10)) ?_ ?_ ?_ (by omega)]
  · rfl
  · rfl
  · intro a ha
    dsimp only
    have hrn := rowNo_le A B a
    have hkk := (hk a ha).2
    unfold f_X1_grating_b11
    rw [prsM_succ, List.countP_append, countP_pairs, show (10 : Int32) = iZ 10 from rfl, show (1 : Int32) = iZ 1 from rfl, if_neg (by rw [z_le] <;> omega), at_n ha (by omega), bd1_s, (hR a ha).1, at_n ha (by omega), bd1_s, (hk a ha).1, show (0 : Int32) = iZ ((0 : Nat) : Int) from rfl, show (12 : Int32) = iZ 12 from rfl]
    have hz : (a ∉ A ∨ K a = 12) → cntB (fun u => grM K more (D 0) (D 1) A B (a, u)) 10 = 0 := by
      intro h
      rw [cntB_eq, List.countP_eq_zero]
      intro u _
      unfold grM mtM grB
      rcases h with h | h
      · simp [h]
      · simp [h]
    by_cases haA : a ∈ A
    · rw [if_pos (show iZ (rowNo A B a : Int) = iZ ((0 : Nat) : Int) by rw [(rowNo_iff hW (r := 0) (by omega)).mpr haA])]
      by_cases h12 : K a = 12
      · rw [if_pos (by rw [h12]; rfl), hz (Or.inr h12), z_add]
        rfl
      · rw [if_neg (by rw [z_eq] <;> omega), gw_s hk hd hR hW haA (by omega) hm, bd1_s, z_add, z_add]
        rfl
    · rw [if_neg (show ¬ iZ (rowNo A B a : Int) = iZ ((0 : Nat) : Int) by
        have : ¬ rowNo A B a = 0 := fun h => haA ((rowNo_iff hW (r := 0) (by omega)).mp h)
        rw [z_eq] <;> omega), hz (Or.inl haA), z_add]
      rfl
  · dsimp only
    unfold f_X1_grating_b11
    rw [if_pos (by decide)]
    rfl
