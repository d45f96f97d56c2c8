def Same (n lo hi : Nat) (f g : Nat → Int32) (V : Nat → Nat) : Prop := ∀ i, i < n → f i = iZ (V i) ∧ g i = iZ (V i) ∧ lo ≤ V i ∧ V i ≤ hi
theorem Same.upd {n lo hi : Nat} {f g : Nat → Int32} {V : Nat → Nat} (h : Same n lo hi f g V) {k v : Nat} (h1 : lo ≤ v) (h2 : v ≤ hi) : Same n lo hi (upd f k (iZ v)) (upd g k (iZ v)) (fun i => if i = k then v else V i) := by
  intro i hi'
  by_cases hk : i = k
  · subst hk
    rw [upd_at, upd_at]
    dsimp only
    rw [if_pos rfl]
    exact ⟨rfl, rfl, h1, h2⟩
  · rw [upd_ne _ _ hk, upd_ne _ _ hk]
    have := h i hi'
    simp only [if_neg hk]
    exact this
theorem wide_both {f g : Nat → Int32} {V : Nat → Nat} (h : Same 17 1 30 f g V) (x y : Int32) : ∃ v f' g' V', Same 17 1 30 f' g' V' ∧ f_X10_wide f x y = some (v, f') ∧ f_X11_wide g x y = some (v, g') := by
  obtain ⟨a, a1, a2, rfl⟩ := z_of x
  obtain ⟨b, b1, b2, rfl⟩ := z_of y
  unfold f_X10_wide f_X11_wide
  rw [show (0 : Int32) = iZ 0 from rfl, show (16 : Int32) = iZ 16 from rfl, show (1 : Int32) = iZ 1 from rfl, show (30 : Int32) = iZ 30 from rfl, within_z a1 a2 (by omega) (by omega) (by omega) (by omega), in_z a1 a2 (by omega) (by omega) (by omega) (by omega), bd1_s, bd1_s]
  by_cases ha : 0 ≤ a ∧ a ≤ 16
  · rw [if_neg (by rw [bz_0]; exact fun h => h ha), if_neg (by rw [bz_0]; exact fun h => h ha), within_z b1 b2 (by omega) (by omega) (by omega) (by omega), in_z b1 b2 (by omega) (by omega) (by omega) (by omega), bd1_s, bd1_s]
    by_cases hb : 1 ≤ b ∧ b ≤ 30
    · obtain ⟨m, rfl⟩ : ∃ m : Nat, a = m := ⟨a.toNat, by omega⟩
      obtain ⟨w, rfl⟩ : ∃ w : Nat, b = w := ⟨b.toNat, by omega⟩
      rw [if_neg (by rw [bz_0]; exact fun h => h hb), if_neg (by rw [bz_0]; exact fun h => h hb), at_n (by omega) (by omega), bd1_s, put_n (by omega) (by omega), bd1_s, gd_z (by omega) (by omega) (by omega), gd_z (by omega) (by omega) (by omega), z_cl (by omega) (by omega), Int.toNat_natCast, (h m (by omega)).1, (h m (by omega)).2.1]
      exact ⟨_, _, _, _, h.upd (by omega) (by omega), rfl, rfl⟩
    · rw [if_pos (by rw [bz_0]; exact hb), if_pos (by rw [bz_0]; exact hb)]
      exact ⟨_, f, g, V, h, rfl, rfl⟩
  · rw [if_pos (by rw [bz_0]; exact ha), if_pos (by rw [bz_0]; exact ha)]
    exact ⟨_, f, g, V, h, rfl, rfl⟩
theorem member_both {f g f2 g2 : Nat → Int32} {V V2 : Nat → Nat} (h : Same 10 1 15 f g V) (h2 : Same 10 0 12 f2 g2 V2) (x y z : Int32) : ∃ v f' g' V' f2' g2' V2', Same 10 1 15 f' g' V' ∧ Same 10 0 12 f2' g2' V2' ∧ f_X10_member f f2 x y z = some (v, f', f2') ∧ f_X11_member g g2 x y z = some (v, g', g2') := by
  obtain ⟨a, a1, a2, rfl⟩ := z_of x
  obtain ⟨b, b1, b2, rfl⟩ := z_of y
  obtain ⟨c, c1, c2, rfl⟩ := z_of z
  unfold f_X10_member f_X11_member
  have hm : f_X11_isMember (iZ a) = f_X10_within (iZ a) 0 9 := by
    unfold f_X11_isMember
    rw [show (0 : Int32) = iZ 0 from rfl, show (9 : Int32) = iZ 9 from rfl, within_z a1 a2 (by omega) (by omega) (by omega) (by omega)]
    try rw [in_z a1 a2 (by omega) (by omega) (by omega) (by omega)]
    by_cases ha : 0 ≤ a ∧ a ≤ 9
    · rw [bz_t ha]; rfl
    · rw [bz_f ha]; rfl
  rw [hm, show (0 : Int32) = iZ 0 from rfl, show (9 : Int32) = iZ 9 from rfl, show (1 : Int32) = iZ 1 from rfl, show (15 : Int32) = iZ 15 from rfl, show (12 : Int32) = iZ 12 from rfl, within_z a1 a2 (by omega) (by omega) (by omega) (by omega), bd1_s, bd1_s]
  by_cases ha : 0 ≤ a ∧ a ≤ 9
  · rw [if_neg (by rw [bz_0]; exact fun h => h ha), if_neg (by rw [bz_0]; exact fun h => h ha), within_z b1 b2 (by omega) (by omega) (by omega) (by omega), in_z b1 b2 (by omega) (by omega) (by omega) (by omega), bd1_s, bd1_s]
    by_cases hb : 1 ≤ b ∧ b ≤ 15
    · rw [if_neg (by rw [bz_0]; exact fun h => h hb), if_neg (by rw [bz_0]; exact fun h => h hb), within_z c1 c2 (by omega) (by omega) (by omega) (by omega), in_z c1 c2 (by omega) (by omega) (by omega) (by omega), bd1_s, bd1_s]
      by_cases hc : 0 ≤ c ∧ c ≤ 12
      · obtain ⟨m, rfl⟩ : ∃ m : Nat, a = m := ⟨a.toNat, by omega⟩
        obtain ⟨w, rfl⟩ : ∃ w : Nat, b = w := ⟨b.toNat, by omega⟩
        obtain ⟨k, rfl⟩ : ∃ k : Nat, c = k := ⟨c.toNat, by omega⟩
        rw [if_neg (by rw [bz_0]; exact fun h => h hc), if_neg (by rw [bz_0]; exact fun h => h hc), at_n (by omega) (by omega), bd1_s, put_n (by omega) (by omega), bd1_s, put_n (by omega) (by omega), bd1_s, gd_z (by omega) (by omega) (by omega), gd_z (by omega) (by omega) (by omega), gd_z (by omega) (by omega) (by omega), z_cl (by omega) (by omega), Int.toNat_natCast, (h m (by omega)).1, (h m (by omega)).2.1]
        exact ⟨_, _, _, _, _, _, _, h.upd (by omega) (by omega), h2.upd (by omega) (by omega), rfl, rfl⟩
      · rw [if_pos (by rw [bz_0]; exact hc), if_pos (by rw [bz_0]; exact hc)]
        exact ⟨_, f, g, V, f2, g2, V2, h, h2, rfl, rfl⟩
    · rw [if_pos (by rw [bz_0]; exact hb), if_pos (by rw [bz_0]; exact hb)]
      exact ⟨_, f, g, V, f2, g2, V2, h, h2, rfl, rfl⟩
  · rw [if_pos (by rw [bz_0]; exact ha), if_pos (by rw [bz_0]; exact ha)]
    exact ⟨_, f, g, V, f2, g2, V2, h, h2, rfl, rfl⟩
