/-! the reference's book -/
def BookRep (bk : Nat → Int32) (A B : List Nat) (b : Nat) : Prop := (∀ i m : Nat, A[i]? = some m → bk i = iZ m) ∧ (∀ i m : Nat, B[i]? = some m → bk (6 + i) = iZ m) ∧ bk 12 = iZ A.length ∧ bk 13 = iZ B.length ∧ bk 14 = iZ b
theorem br_at {bk : Nat → Int32} {A B : List Nat} {b : Nat} (h : BookRep bk A B b) {r i m : Nat} (hr : r < 2) (hi : (rowL A B r)[i]? = some m) : bk (6 * r + i) = iZ m := by
  unfold rowL at hi
  by_cases h0 : r = 0
  · subst h0
    rw [if_pos rfl] at hi
    rw [show 6 * 0 + i = i by omega]
    exact h.1 i m hi
  · have h1 : r = 1 := by omega
    subst h1
    rw [if_neg h0] at hi
    exact h.2.1 i m hi
theorem br_len {bk : Nat → Int32} {A B : List Nat} {b : Nat} (h : BookRep bk A B b) {r : Nat} (hr : r < 2) : bk (12 + r) = iZ (rowL A B r).length := by
  unfold rowL
  by_cases h0 : r = 0
  · subst h0
    rw [if_pos rfl]
    exact h.2.2.1
  · have h1 : r = 1 := by omega
    subst h1
    rw [if_neg h0]
    exact h.2.2.2.1
def spotM (A B : List Nat) (k : Nat) : Int := if k ∈ A then (A.idxOf k : Int) else if k ∈ B then 6 + (B.idxOf k : Int) else -6
theorem spot_in {bk : Nat → Int32} {A B : List Nat} {b : Nat} (h : BookRep bk A B b) (hW : Wf A B) {r k : Nat} (hr : r < 2) (hk : k ≤ 1000) : loopN (fun (q : Int32) => f_X11_spotOf_b9 bk (iZ k) (iZ r) q) FU 0 = some (if k ∈ rowL A B r then .inr (iZ ((6 * r + (rowL A B r).idxOf k : Nat) : Int)) else .inl (iZ (rowL A B r).length)) := by
  have hlen := hW.len r
  have step : ∀ i : Nat, ∀ m : Nat, (rowL A B r)[i]? = some m → f_X11_spotOf_b9 bk (iZ k) (iZ r) (iZ i) = if m = k then some (.inr (.inr (iZ ((6 * r + i : Nat) : Int)))) else some (.inl (iZ ((i + 1 : Nat) : Int))) := by
    intro i m hi
    have hl := (List.getElem?_eq_some_iff.mp hi).1
    have hm := hW.lt (List.mem_of_getElem? hi)
    unfold f_X11_spotOf_b9
    rw [show (12 : Int32) = iZ 12 from rfl, z_add, gd_z (by omega) (by omega) (by omega), z_cl (by omega) (by omega), show ((12 : Int) + (r : Int)).toNat = 12 + r by omega, br_len h hr, if_neg (by rw [z_le] <;> omega), show (6 : Int32) = iZ 6 from rfl, z_mul, z_add, gd_z (by omega) (by omega) (by omega), z_cl (by omega) (by omega), show ((6 : Int) * (r : Int) + (i : Int)).toNat = 6 * r + i by omega, br_at h hr hi]
    by_cases e : m = k
    · rw [if_pos (by rw [e]), if_pos e]
      rfl
    · rw [if_neg (by rw [z_eq] <;> omega), if_neg e, show (1 : Int32) = iZ 1 from rfl, z_add]
      rfl
  by_cases hin : k ∈ rowL A B r
  · have hi := of_idx hin
    rw [if_pos hin, loop_FU (fun i : Nat => (iZ i : Int32)) ((rowL A B r).idxOf k) (r := .inr (iZ ((6 * r + (rowL A B r).idxOf k : Nat) : Int))) (z_lit 0) ?_ ?_ (by have := List.idxOf_lt_length_iff.mpr hin; omega)]
    · intro i hi2
      have hl := List.idxOf_lt_length_iff.mpr hin
      have h3 : (rowL A B r)[i]? = some ((rowL A B r)[i]'(by omega)) := List.getElem?_eq_getElem (by omega)
      rw [step i _ h3, if_neg]
      intro e
      rw [e] at h3
      have := idx_of (hW.nL r) h3
      omega
    · rw [step _ _ hi, if_pos rfl]
  · rw [if_neg hin, loop_FU (fun i : Nat => (iZ i : Int32)) ((rowL A B r).length) (r := .inl (iZ (rowL A B r).length)) (z_lit 0) ?_ ?_ (by omega)]
    · intro i hi2
      have h3 : (rowL A B r)[i]? = some ((rowL A B r)[i]'hi2) := List.getElem?_eq_getElem hi2
      rw [step i _ h3, if_neg]
      intro e
      rw [e] at h3
      exact hin (List.mem_of_getElem? h3)
    · unfold f_X11_spotOf_b9
      rw [show (12 : Int32) = iZ 12 from rfl, z_add, gd_z (by omega) (by omega) (by omega), z_cl (by omega) (by omega), show ((12 : Int) + (r : Int)).toNat = 12 + r by omega, br_len h hr, if_pos (by rw [z_le] <;> omega)]
theorem spotM_s {bk : Nat → Int32} {A B : List Nat} {b : Nat} (h : BookRep bk A B b) (hW : Wf A B) {k : Nat} (hk : k ≤ 1000) : f_X11_spotOf bk (iZ k) = some (iZ (spotM A B k)) := by
  have step : ∀ r : Nat, r < 2 → f_X11_spotOf_b2 bk (iZ k) (iZ r) = if k ∈ rowL A B r then some (.inr (.inr (iZ ((6 * r + (rowL A B r).idxOf k : Nat) : Int)))) else some (.inl (iZ ((r + 1 : Nat) : Int))) := by
    intro r hr
    unfold f_X11_spotOf_b2
    rw [show (2 : Int32) = iZ 2 from rfl, if_neg (by rw [z_le] <;> omega), spot_in h hW hr hk]
    by_cases hin : k ∈ rowL A B r
    · rw [if_pos hin, if_pos hin, bdr_r]
    · rw [if_neg hin, if_neg hin, bdr_l, show (1 : Int32) = iZ 1 from rfl, z_add]
      rfl
  unfold f_X11_spotOf spotM
  by_cases hA : k ∈ A
  · rw [if_pos hA, loop_FU (fun r : Nat => (iZ r : Int32)) 0 (r := .inr (iZ (A.idxOf k : Int))) (z_lit 0) (fun i hi => absurd hi (Nat.not_lt_zero i)) ?_ (by omega)]
    · rfl
    · rw [step 0 (by omega), if_pos (show k ∈ rowL A B 0 from hA)]
      rw [show (6 * 0 + (rowL A B 0).idxOf k : Nat) = A.idxOf k from Nat.zero_add _]
  · rw [if_neg hA]
    have s0 : f_X11_spotOf_b2 bk (iZ k) (iZ ((0 : Nat) : Int)) = some (.inl (iZ ((1 : Nat) : Int))) := by rw [step 0 (by omega), if_neg (show ¬ k ∈ rowL A B 0 from hA)]
    by_cases hB : k ∈ B
    · rw [if_pos hB, loop_FU (fun r : Nat => (iZ r : Int32)) 1 (r := .inr (iZ (6 + (B.idxOf k : Int)))) (z_lit 0) ?_ ?_ (by omega)]
      · rfl
      · intro i hi
        have : i = 0 := by omega
        subst this
        exact s0
      · rw [step 1 (by omega), if_pos (show k ∈ rowL A B 1 from hB)]
        rw [show ((6 * 1 + (rowL A B 1).idxOf k : Nat) : Int) = 6 + (B.idxOf k : Int) from by rw [show rowL A B 1 = B from rfl]; omega]
    · rw [if_neg hB, loop_FU (fun r : Nat => (iZ r : Int32)) 2 (r := .inl (iZ 2)) (z_lit 0) ?_ ?_ (by omega)]
      · rfl
      · intro i hi
        have hi2 : i = 0 ∨ i = 1 := by omega
        rcases hi2 with rfl | rfl
        · exact s0
        · rw [step 1 (by omega), if_neg (show ¬ k ∈ rowL A B 1 from hB)]
      · unfold f_X11_spotOf_b2
        rw [show (2 : Int32) = iZ 2 from rfl, if_pos (by rw [z_le] <;> omega)]
        rfl
theorem spotM_lt (A B : List Nat) (k : Nat) : spotM A B k < 0 ↔ ¬ (k ∈ A ∨ k ∈ B) := by
  unfold spotM
  by_cases hA : k ∈ A
  · rw [if_pos hA]; simp [hA]
  · rw [if_neg hA]
    by_cases hB : k ∈ B
    · rw [if_pos hB]; simp [hB]; omega
    · rw [if_neg hB]; simp [hA, hB]
theorem spotM_le {A B : List Nat} (hW : Wf A B) (k : Nat) : -6 ≤ spotM A B k ∧ spotM A B k ≤ 11 := by
  have h1 := hW.1
  have h2 := hW.2.1
  unfold spotM
  by_cases hA : k ∈ A
  · have := List.idxOf_lt_length_iff.mpr hA
    rw [if_pos hA]; omega
  · rw [if_neg hA]
    by_cases hB : k ∈ B
    · have := List.idxOf_lt_length_iff.mpr hB
      rw [if_pos hB]; omega
    · rw [if_neg hB]; omega
theorem upd_at (f : Nat → Int32) (k : Nat) (v : Int32) : upd f k v k = v := by unfold upd; rw [if_pos rfl]
theorem upd_ne (f : Nat → Int32) {k j : Nat} (v : Int32) (h : j ≠ k) : upd f k v j = f j := by unfold upd; rw [if_neg h]
theorem joinM_s {bk : Nat → Int32} {A B : List Nat} {b : Nat} (h : BookRep bk A B b) (hW : Wf A B) {r k : Nat} (hr : r < 2) (hk : k < 10) : ∃ bk', f_X11_join bk (iZ k) (iZ r) = some (iZ ((if k ∈ A ∨ k ∈ B then 1 else if (rowL A B r).length < 6 then 0 else 2 : Nat) : Int), bk') ∧
    (k ∈ A ∨ k ∈ B ∨ ¬ (rowL A B r).length < 6 → bk' = bk) ∧ (¬ (k ∈ A ∨ k ∈ B) → (rowL A B r).length < 6 → BookRep bk' (if r = 0 then A ++ [k] else A) (if r = 0 then B else B ++ [k]) b) := by
  have hl := hW.len r
  have e12 : ((12 : Int) + (r : Int)).toNat = 12 + r := by omega
  unfold f_X11_join
  rw [spotM_s h hW (by omega), bd1_s]
  have hs := spotM_le hW k
  by_cases hin : k ∈ A ∨ k ∈ B
  · refine ⟨bk, ?_, fun _ => rfl, fun h1 => absurd hin h1⟩
    rw [show (0 : Int32) = iZ 0 from rfl, if_neg (by rw [z_lt, spotM_lt] <;> first | exact not_not_intro hin | omega), if_pos hin]
    rfl
  · rw [show (0 : Int32) = iZ 0 from rfl, if_pos (by rw [z_lt, spotM_lt] <;> first | exact hin | omega), show (12 : Int32) = iZ 12 from rfl, z_add, gd_z (by omega) (by omega) (by omega), z_cl (by omega) (by omega), e12, br_len h hr]
    by_cases h6 : (rowL A B r).length < 6
    · have e6 : ((6 : Int) * (r : Int) + ((rowL A B r).length : Int)).toNat = 6 * r + (rowL A B r).length := by omega
      rw [show (6 : Int32) = iZ 6 from rfl, if_neg (by rw [z_eq] <;> omega), gd_z (by omega) (by omega) (by omega), z_mul, z_add, gd_z (by omega) (by omega) (by omega), gd_z (by omega) (by omega) (by omega), gd_z (by omega) (by omega) (by omega), z_cl (by omega) (by omega), e6]
      refine ⟨upd (upd bk (6 * r + (rowL A B r).length) (iZ k)) (12 + r) (upd bk (6 * r + (rowL A B r).length) (iZ k) (12 + r) + 1), ?_, ?_, ?_⟩
      · rw [if_neg hin, if_pos h6]
        rfl
      · rintro (h1 | h1 | h1)
        · exact absurd (Or.inl h1) hin
        · exact absurd (Or.inr h1) hin
        · exact absurd h6 h1
      · intro _ _
        have eL : upd bk (6 * r + (rowL A B r).length) (iZ k) (12 + r) + 1 = iZ (((rowL A B r).length + 1 : Nat) : Int) := by
          rw [upd_ne _ _ (by omega), br_len h hr, show (1 : Int32) = iZ 1 from rfl, z_add]
          rfl
        rw [eL]
        have hr2 : r = 0 ∨ r = 1 := by omega
        rcases hr2 with rfl | rfl
        · rw [if_pos rfl, if_pos rfl]
          have eR : rowL A B 0 = A := rfl
          rw [eR] at h6 ⊢
          refine ⟨fun i m hi => ?_, fun i m hi => ?_, ?_, ?_, ?_⟩
          · have hil := (List.getElem?_eq_some_iff.mp hi).1
            simp at hil
            rw [upd_ne _ _ (by omega)]
            by_cases hi2 : i = A.length
            · subst hi2
              rw [show 6 * 0 + A.length = A.length by omega, upd_at]
              rw [List.getElem?_append_right (Nat.le_refl _)] at hi
              simp at hi
              rw [hi]
            · rw [upd_ne _ _ (by omega)]
              rw [List.getElem?_append_left (by omega)] at hi
              exact h.1 i m hi
          · have hil := (List.getElem?_eq_some_iff.mp hi).1
            have := hW.2.1
            rw [upd_ne _ _ (by omega), upd_ne _ _ (by omega)]
            exact h.2.1 i m hi
          · rw [show 12 + 0 = 12 from rfl, upd_at, List.length_append]
            rfl
          · rw [upd_ne _ _ (by omega), upd_ne _ _ (by omega)]
            exact h.2.2.2.1
          · rw [upd_ne _ _ (by omega), upd_ne _ _ (by omega)]
            exact h.2.2.2.2
        · rw [if_neg (by decide), if_neg (by decide)]
          have eR : rowL A B 1 = B := rfl
          rw [eR] at h6 ⊢
          refine ⟨fun i m hi => ?_, fun i m hi => ?_, ?_, ?_, ?_⟩
          · have hil := (List.getElem?_eq_some_iff.mp hi).1
            have := hW.1
            rw [upd_ne _ _ (by omega), upd_ne _ _ (by omega)]
            exact h.1 i m hi
          · have hil := (List.getElem?_eq_some_iff.mp hi).1
            simp at hil
            rw [upd_ne _ _ (by omega)]
            by_cases hi2 : i = B.length
            · subst hi2
              rw [show 6 * 1 + B.length = 6 + B.length by omega, upd_at]
              rw [List.getElem?_append_right (Nat.le_refl _)] at hi
              simp at hi
              rw [hi]
            · rw [upd_ne _ _ (by omega)]
              rw [List.getElem?_append_left (by omega)] at hi
              exact h.2.1 i m hi
          · rw [upd_ne _ _ (by omega), upd_ne _ _ (by omega)]
            exact h.2.2.1
          · rw [show 12 + 1 = 13 from rfl, upd_at, List.length_append]
            rfl
          · rw [upd_ne _ _ (by omega), upd_ne _ _ (by omega)]
            exact h.2.2.2.2
    · refine ⟨bk, ?_, fun _ => rfl, fun _ h2 => absurd h2 h6⟩
      rw [show (6 : Int32) = iZ 6 from rfl, if_pos (by rw [z_eq] <;> omega), if_neg hin, if_neg h6]
      rfl
