/-! days, act by act: how many acts, why not the next (0: all can be), the rows and bells behind them -/
def dS (P : Nat → Nat) (n : Nat) : Nat → Nat → List Nat → List Nat → Nat → Nat → Nat × Nat × List Nat × List Nat × Nat
  | 0, _, A, B, b, c => (c, 0, A, B, b)
  | f + 1, i, A, B, b, c =>
    if n ≤ i then (c, 0, A, B, b)
    else if P i = 33 then (if actWhy A B b 33 0 0 = 0 then dS P n f (i + 1) (tryA A B b 33 0 0) (tryB A B b 33 0 0) (tryb A B b 33 0 0) (c + 1) else (c, actWhy A B b 33 0 0, A, B, b))
    else if P (i + 1) = 120 then (if actWhy A B b 120 (P i - 65) (P (i + 2) - 65) = 0 then dS P n f (i + 3) (tryA A B b 120 (P i - 65) (P (i + 2) - 65)) (tryB A B b 120 (P i - 65) (P (i + 2) - 65)) (tryb A B b 120 (P i - 65) (P (i + 2) - 65)) (c + 1) else (c, actWhy A B b 120 (P i - 65) (P (i + 2) - 65), A, B, b))
    else (if actWhy A B b (P (i + 1)) (P i - 65) 0 = 0 then dS P n f (i + 2) (tryA A B b (P (i + 1)) (P i - 65) 0) (tryB A B b (P (i + 1)) (P i - 65) 0) (tryb A B b (P (i + 1)) (P i - 65) 0) (c + 1) else (c, actWhy A B b (P (i + 1)) (P i - 65) 0, A, B, b))
theorem isL_iff (s : Nat) : isL s = true ↔ 65 ≤ s ∧ s ≤ 74 := by unfold isL; exact decide_eq_true_iff
theorem parse {P : Nat → Nat} {n i : Nat} (hi : i < n) (h : fF P (n - i) i 0 = -6) : (P i = 33 ∧ fF P (n - (i + 1)) (i + 1) 0 = -6) ∨ (65 ≤ P i ∧ P i ≤ 74 ∧ i + 1 < n ∧ (P (i + 1) = 100 ∨ P (i + 1) = 117 ∨ P (i + 1) = 45) ∧ fF P (n - (i + 2)) (i + 2) 0 = -6) ∨ (65 ≤ P i ∧ P i ≤ 74 ∧ i + 2 < n ∧ P (i + 1) = 120 ∧ 65 ≤ P (i + 2) ∧ P (i + 2) ≤ 74 ∧ fF P (n - (i + 3)) (i + 3) 0 = -6) := by
  rw [show n - i = (n - (i + 1)) + 1 by omega, fF] at h
  unfold nxt at h
  rw [if_pos rfl] at h
  by_cases h33 : P i = 33
  · rw [if_pos h33, if_neg (by decide)] at h
    exact Or.inl ⟨h33, h⟩
  · rw [if_neg h33] at h
    by_cases hl : isL (P i) = true
    · rw [if_pos hl, if_neg (by decide)] at h
      obtain ⟨l1, l2⟩ := (isL_iff _).mp hl
      by_cases h1 : i + 1 < n
      · rw [show n - (i + 1) = (n - (i + 2)) + 1 by omega, fF] at h
        unfold nxt at h
        rw [if_neg (by decide : ¬ 1 = 0), if_pos rfl] at h
        by_cases h120 : P (i + 1) = 120
        · rw [if_pos h120, if_neg (by decide)] at h
          by_cases h2 : i + 2 < n
          · rw [show n - (i + 2) = (n - (i + 3)) + 1 by omega, fF] at h
            unfold nxt at h
            rw [if_neg (by decide : ¬ 2 = 0), if_neg (by decide : ¬ 2 = 1)] at h
            by_cases hl2 : isL (P (i + 1 + 1)) = true
            · rw [if_pos hl2, if_neg (by decide)] at h
              obtain ⟨l3, l4⟩ := (isL_iff _).mp hl2
              exact Or.inr (Or.inr ⟨l1, l2, h2, h120, l3, l4, h⟩)
            · rw [if_neg hl2, if_pos rfl] at h
              omega
          · rw [show n - (i + 2) = 0 by omega, fF, if_neg (by decide)] at h
            omega
        · rw [if_neg h120] at h
          by_cases hv : P (i + 1) = 100 ∨ P (i + 1) = 117 ∨ P (i + 1) = 45
          · rw [if_pos hv, if_neg (by decide)] at h
            exact Or.inr (Or.inl ⟨l1, l2, h1, hv, h⟩)
          · rw [if_neg hv, if_pos rfl] at h
            omega
      · rw [show n - (i + 1) = 0 by omega, fF, if_neg (by decide)] at h
        omega
    · rw [if_neg hl, if_pos rfl] at h
      omega
theorem kind_s {sg : Nat → Int32} {P : Nat → Nat} {n : Nat} (hn : n ≤ 60) (hP : ∀ i, i < n → sg i = iZ (P i) ∧ P i ≤ 200) {i : Nat} (hi : i < n) : f_X4_kindEndingAt sg (iZ i) = some (iZ ((if isL (P i) = true then (if 0 < i ∧ P (i - 1) = 120 then 120 else 0) else if P i = 120 then 0 else P i : Nat) : Int)) := by
  obtain ⟨p1, p2⟩ := hP i hi
  unfold f_X4_kindEndingAt
  rw [at_n (by omega) (by omega), bd1_s, p1, isLetter_s (by omega), bd1_s, show (120 : Int32) = iZ ((120 : Nat) : Int) from rfl]
  by_cases hl : isL (P i) = true
  · rw [if_neg (fun e => (bz0.mp e) hl), if_pos hl, show (1 : Int32) = iZ 1 from rfl, z_sub]
    by_cases h0 : i = 0
    · rw [h0, show (((0 : Nat) : Int) - 1) = -1 from rfl, at_z (by omega) (by omega) (by omega), if_neg (by omega), bd1_s, if_neg (by decide), if_neg (by omega)]
      rfl
    · obtain ⟨p3, p4⟩ := hP (i - 1) (by omega)
      rw [show ((i : Int) - 1) = ((i - 1 : Nat) : Int) by omega, at_n (by omega) (by omega), bd1_s, p3]
      by_cases h120 : P (i - 1) = 120
      · rw [if_pos (by rw [h120]), if_pos ⟨by omega, h120⟩]
      · rw [if_neg (by rw [eqz (by omega) (by omega)]; exact h120), if_neg (fun h => h120 h.2)]
        rfl
  · rw [if_pos (bz0.mpr hl), if_neg hl]
    by_cases h120 : P i = 120
    · rw [if_pos (by rw [h120]), if_pos h120]; rfl
    · rw [if_neg (by rw [eqz (by omega) (by omega)]; exact h120), if_neg h120]
theorem member_any {sg : Nat → Int32} (z : Int) (h1 : -100 ≤ z) (h2 : z ≤ 100) : ∃ M, f_X4_memberAt sg (iZ z) = some M := by
  unfold f_X4_memberAt
  rw [at_z (by omega) (by omega) (by omega), bd1_s]
  exact ⟨_, rfl⟩
theorem member_s {sg : Nat → Int32} {P : Nat → Nat} {n : Nat} (hn : n ≤ 60) (hP : ∀ i, i < n → sg i = iZ (P i) ∧ P i ≤ 200) {i : Nat} (hi : i < n) (hl : 65 ≤ P i) : f_X4_memberAt sg (iZ i) = some (iZ ((P i - 65 : Nat) : Int)) := by
  obtain ⟨p1, p2⟩ := hP i hi
  unfold f_X4_memberAt
  rw [at_n (by omega) (by omega), bd1_s, p1, show (65 : Int32) = iZ 65 from rfl, z_sub, show ((P i - 65 : Nat) : Int) = (P i : Int) - 65 by omega]
theorem loopN_next {σ ρ : Type} {body : σ → Option (σ ⊕ ρ)} {s s' : σ} (h : body s = some (.inl s')) (N : Nat) : loopN body (N + 1) s = loopN body N s' := by
  rw [loopN, h]
theorem loopN_exit {σ ρ : Type} {body : σ → Option (σ ⊕ ρ)} {s : σ} {r : ρ} (h : body s = some (.inr r)) (N : Nat) : loopN body (N + 1) s = some r := by
  rw [loopN, h]
