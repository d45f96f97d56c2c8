def PadRep (n : Nat) (P : Nat → Nat) (f g : Nat → Int32) : Prop := n ≤ 60 ∧ ∀ i, i < n → f i = iZ (P i) ∧ g i = iZ (P i) ∧ P i ≤ 126
theorem PadRep.push {n : Nat} {P : Nat → Nat} {f g : Nat → Int32} (h : PadRep n P f g) (hn : n < 60) {v : Nat} (hv : v ≤ 126) : PadRep (n + 1) (fun i => if i = n then v else P i) (upd f n (iZ v)) (upd g n (iZ v)) := by
  refine ⟨by omega, fun i hi => ?_⟩
  by_cases hk : i = n
  · subst hk
    rw [upd_at, upd_at]
    dsimp only
    rw [if_pos rfl]
    exact ⟨rfl, rfl, hv⟩
  · rw [upd_ne _ _ hk, upd_ne _ _ hk]
    have := h.2 i (by omega)
    simp only [if_neg hk]
    exact this
theorem wipe_both (n : Nat) : f_X10_wipe (iZ n) = some (iZ n, iZ ((0 : Nat) : Int)) ∧ f_X11_wipe (iZ n) = some (iZ n, iZ ((0 : Nat) : Int)) := ⟨rfl, rfl⟩
theorem say_both {n : Nat} {P : Nat → Nat} {f g : Nat → Int32} (h : PadRep n P f g) (x : Int32) : ∃ v n' P' f' g', PadRep n' P' f' g' ∧ f_X10_say (iZ n) f x = some (v, iZ (n' : Int), f') ∧ f_X11_say (iZ n) g x = some (v, iZ (n' : Int), g') := by
  obtain ⟨a, a1, a2, rfl⟩ := z_of x
  have hn := h.1
  unfold f_X10_say f_X11_say
  rw [show (33 : Int32) = iZ 33 from rfl, show (126 : Int32) = iZ 126 from rfl, within_z a1 a2 (by omega) (by omega) (by omega) (by omega), in_z a1 a2 (by omega) (by omega) (by omega) (by omega), bd1_s, bd1_s]
  by_cases ha : 33 ≤ a ∧ a ≤ 126
  · have hA : ¬ bz (33 ≤ a ∧ a ≤ 126) = (0 : Int32) := by rw [bz0]; exact fun h => h ha
    rw [if_neg hA, if_neg hA]
    by_cases h6 : n < 60
    · obtain ⟨w, rfl⟩ : ∃ w : Nat, a = w := ⟨a.toNat, by omega⟩
      unfold f_X4_write
      rw [if_pos (by rw [show (60 : Int32) = iZ 60 from rfl, z_lt] <;> omega), if_neg (by rw [show (60 : Int32) = iZ 60 from rfl, z_le] <;> omega), put_n (by omega) (by omega), bd1_s, bd2_s, if_neg (by rw [show (60 : Int32) = iZ ((60 : Nat) : Int) from rfl, eqz (by omega) (by omega)]; omega), gd_z (by omega) (by omega) (by omega), z_cl (by omega) (by omega), Int.toNat_natCast, show (1 : Int32) = iZ 1 from rfl, z_add]
      exact ⟨_, n + 1, _, _, _, h.push h6 (by omega), rfl, rfl⟩
    · rw [if_neg (by rw [show (60 : Int32) = iZ 60 from rfl, z_lt] <;> omega), if_pos (by rw [show n = 60 by omega]; rfl)]
      exact ⟨_, n, P, f, g, h, rfl, rfl⟩
  · rw [if_pos (by rw [bz0]; exact ha), if_pos (by rw [bz0]; exact ha)]
    exact ⟨_, n, P, f, g, h, rfl, rfl⟩
