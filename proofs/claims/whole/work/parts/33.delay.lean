theorem delay_both {f g : Nat → Int32} {V : Nat → Nat} (h : Same 2 0 20 f g V) (x y : Int32) : ∃ v f' g' V', Same 2 0 20 f' g' V' ∧ f_X10_delay f x y = some (v, f') ∧ f_X11_delay g x y = some (v, g') := by
  obtain ⟨a, a1, a2, rfl⟩ := z_of x
  obtain ⟨b, b1, b2, rfl⟩ := z_of y
  unfold f_X10_delay f_X11_delay
  rw [isRow_z (by omega) (by omega), isRow_m (by omega) (by omega), show (0 : Int32) = iZ 0 from rfl, show (20 : Int32) = iZ 20 from rfl, bd1_s, bd1_s]
  by_cases ha : 0 ≤ a ∧ a ≤ 1
  · rw [if_neg (by rw [bz_0]; exact fun h => h ha), if_neg (by rw [bz_0]; exact fun h => h ha), within_z b1 b2 (by omega) (by omega) (by omega) (by omega), in_z b1 b2 (by omega) (by omega) (by omega) (by omega), bd1_s, bd1_s]
    by_cases hb : 0 ≤ b ∧ b ≤ 20
    · obtain ⟨m, rfl⟩ : ∃ m : Nat, a = m := ⟨a.toNat, by omega⟩
      obtain ⟨w, rfl⟩ : ∃ w : Nat, b = w := ⟨b.toNat, by omega⟩
      rw [if_neg (by rw [bz_0]; exact fun h => h hb), if_neg (by rw [bz_0]; exact fun h => h hb), at_n (by omega) (by omega), bd1_s, put_n (by omega) (by omega), bd1_s, gd_z (by omega) (by omega) (by omega), gd_z (by omega) (by omega) (by omega), z_cl (by omega) (by omega), Int.toNat_natCast, (h m (by omega)).1, (h m (by omega)).2.1]
      exact ⟨_, _, _, _, h.upd (by omega) (by omega), rfl, rfl⟩
    · rw [if_pos (by rw [bz_0]; exact hb), if_pos (by rw [bz_0]; exact hb)]
      exact ⟨_, f, g, V, h, rfl, rfl⟩
  · rw [if_pos (by rw [bz_0]; exact ha), if_pos (by rw [bz_0]; exact ha)]
    exact ⟨_, f, g, V, h, rfl, rfl⟩
