def PadRep (n : Nat) (P : Nat → Nat) (f g : Nat → Int32) : Prop := n ≤ 60 ∧ ∀ i, i < n → f i = iZ (P i) ∧ g i = iZ (P i) ∧ P i ≤ 126
theorem PadRep.push {n : Nat} {P : Nat → Nat} {f g : Nat → Int32} (h : PadRep n P f g) (hn : n < 60) {v : Nat} (hv : v ≤ 126) : PadRep (n + 1) (fun i => if i = n then v else P i) (upd f n (iZ v)) (upd g n (iZ v)) := by
  refine ⟨by omega, fun i hi => ?_⟩
  by_cases hk : i = n
  · subst hk
    rw [upd_at, upd_at]
    dsimp only
    rw [if_pos rfl]
    exact ⟨rfl, rfl, hv⟩
  · rw [upd_ne _ _ hk, upd_ne _ _ hk]
    have := h.2 i (by omega)
    simp only [if_neg hk]
    exact this
theorem wipe_both (n : Nat) : f_X10_wipe (iZ n) = some (iZ n, iZ ((0 : Nat) : Int)) ∧ f_X11_wipe (iZ n) = some (iZ n, iZ ((0 : Nat) : Int)) := ⟨rfl, rfl⟩
