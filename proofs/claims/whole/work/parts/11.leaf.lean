theorem z_nlit (n : Nat) : (-(OfNat.ofNat n) : Int32) = iZ (-(OfNat.ofNat n)) := by rw [z_lit, z_neg]
def bz (p : Prop) [Decidable p] : Int32 := if p then iZ 1 else iZ 0
theorem bz_t {p : Prop} [Decidable p] (h : p) : bz p = iZ 1 := if_pos h
theorem bz_f {p : Prop} [Decidable p] (h : ¬ p) : bz p = iZ 0 := if_neg h
theorem bz_0 {p : Prop} [Decidable p] : bz p = iZ 0 ↔ ¬ p := by
  unfold bz
  split
  · rename_i h; exact ⟨fun e => absurd e (by decide), fun e => absurd h e⟩
  · rename_i h; exact ⟨fun _ => h, fun _ => rfl⟩
theorem within_z {x a b : Int} (hx1 : -2147483648 ≤ x) (hx2 : x ≤ 2147483647) (ha1 : -2147483648 ≤ a) (ha2 : a ≤ 2147483647) (hb1 : -2147483648 ≤ b) (hb2 : b ≤ 2147483647) : f_X10_within (iZ x) (iZ a) (iZ b) = some (bz (a ≤ x ∧ x ≤ b)) := by
  unfold f_X10_within
  simp (disch := omega) only [z_lt, z_lit]
  by_cases h1 : x < a
  · rw [if_pos h1, bz_f (by omega)]
  · rw [if_neg h1]
    by_cases h2 : b < x
    · rw [if_pos h2, bz_f (by omega)]
    · rw [if_neg h2, bz_t (by omega)]
theorem in_z {x a b : Int} (hx1 : -2147483648 ≤ x) (hx2 : x ≤ 2147483647) (ha1 : -2147483648 ≤ a) (ha2 : a ≤ 2147483647) (hb1 : -2147483648 ≤ b) (hb2 : b ≤ 2147483647) : f_X11_in (iZ x) (iZ a) (iZ b) = some (bz (a ≤ x ∧ x ≤ b)) := within_z hx1 hx2 ha1 ha2 hb1 hb2
theorem isRow_z {x : Int} (hx1 : -2147483648 ≤ x) (hx2 : x ≤ 2147483647) : f_X10_isRow (iZ x) = some (bz (0 ≤ x ∧ x ≤ 1)) := by
  unfold f_X10_isRow f_X10_isRow_j9
  simp (disch := omega) only [z_lit, z_eq]
  by_cases h1 : x = 0
  · rw [if_pos h1, bz_t (by omega)]
  · rw [if_neg h1]
    by_cases h2 : x = 1
    · rw [if_pos h2, bz_t (by omega)]
    · rw [if_neg h2, bz_f (by omega)]
theorem isRow_m {x : Int} (hx1 : -2147483648 ≤ x) (hx2 : x ≤ 2147483647) : f_X11_isRow (iZ x) = some (bz (0 ≤ x ∧ x ≤ 1)) := isRow_z hx1 hx2
theorem at_z {n : Nat} {a : Nat → Int32} {i : Int} (hn : n ≤ 1000) (h1 : -2147483648 ≤ i) (h2 : i ≤ 2147483647) : f_X10_at n a (iZ i) = some (if 0 ≤ i ∧ i < n then a i.toNat else iZ 0) := by
  unfold f_X10_at
  simp (disch := omega) only [z_lit, z_nI, z_lt, z_le]
  by_cases h3 : i < 0
  · rw [if_pos h3, if_neg (by omega)]
  · rw [if_neg h3]
    by_cases h4 : (n : Int) ≤ i
    · rw [if_pos h4, if_neg (by omega)]
    · rw [if_neg h4, gd_z (by omega) (by omega) h2, if_pos (by omega), z_cl (by omega) h2]
theorem at_n {n i : Nat} {a : Nat → Int32} (hi : i < n) (hn : n ≤ 1000) : f_X10_at n a (iZ i) = some (a i) := by
  rw [at_z hn (by omega) (by omega), if_pos (by omega)]
  rfl
theorem put_n {n i : Nat} {a : Nat → Int32} {v : Int32} (hi : i < n) (hn : n ≤ 1000) : f_X10_put n a (iZ i) v = some (upd a i v) := by
  unfold f_X10_put
  simp (disch := omega) only [z_lit, z_nI, z_lt, z_le]
  rw [if_neg (by omega), if_neg (by omega), gd_z (by omega) (by omega) (by omega), z_cl (by omega) (by omega)]
  rfl
theorem upd_fill (v : Int32) (a : Nat → Int32) (i : Nat) : upd (fun k => if k < i then v else a k) i v = fun k => if k < i + 1 then v else a k := by
  funext k
  unfold upd
  by_cases h : k = i
  · rw [if_pos h, if_pos (by omega)]
  · rw [if_neg h]
    by_cases h2 : k < i
    · show (if k < i then v else a k) = _
      rw [if_pos h2, if_pos (by omega)]
    · show (if k < i then v else a k) = _
      rw [if_neg h2, if_neg (by omega)]
theorem fill_s {n : Nat} (hn : n ≤ 1000) (a : Nat → Int32) (v : Int32) : f_X10_fill n a v = some (fun k => if k < n then v else a k) := by
  unfold f_X10_fill
  rw [loop_FU (fun i : Nat => ((iZ i : Int32), ((fun k => if k < i then v else a k) : Nat → Int32))) n (r := (iZ n, fun k => if k < n then v else a k)) ?_ ?_ ?_ (by omega)]
  · rfl
  · exact Prod.ext (z_lit 0) (funext fun k => (if_neg (Nat.not_lt_zero k) : (if k < 0 then v else a k) = a k).symm)
  · intro i hi
    dsimp only
    unfold f_X10_fill_b7
    simp (disch := omega) only [z_lit, z_nI, z_le]
    rw [if_neg (by omega), gd_z (by omega) (by omega) (by omega), z_cl (by omega) (by omega), z_add, Int.toNat_natCast, upd_fill]
    rfl
  · dsimp only
    unfold f_X10_fill_b7
    simp (disch := omega) only [z_lit, z_nI, z_le]
    rw [if_pos (Int.le_refl _)]
theorem upd_copy (f a : Nat → Int32) (i : Nat) : upd (fun k => if k < i then f k else a k) i (f i) = fun k => if k < i + 1 then f k else a k := by
  funext k
  unfold upd
  by_cases h : k = i
  · rw [if_pos h, if_pos (by omega), h]
  · rw [if_neg h]
    by_cases h2 : k < i
    · show (if k < i then f k else a k) = _
      rw [if_pos h2, if_pos (by omega)]
    · show (if k < i then f k else a k) = _
      rw [if_neg h2, if_neg (by omega)]
theorem copy_s {n : Nat} (hn : n ≤ 1000) (f a : Nat → Int32) : f_X10_copy n n f a = some (fun k => if k < n then f k else a k) := by
  unfold f_X10_copy
  rw [loop_FU (fun i : Nat => ((iZ i : Int32), ((fun k => if k < i then f k else a k) : Nat → Int32))) n (r := (iZ n, fun k => if k < n then f k else a k)) ?_ ?_ ?_ (by omega)]
  · rfl
  · exact Prod.ext (z_lit 0) (funext fun k => (if_neg (Nat.not_lt_zero k) : (if k < 0 then f k else a k) = a k).symm)
  · intro i hi
    dsimp only
    unfold f_X10_copy_b11
    simp (disch := omega) only [z_lit, z_nI, z_le]
    rw [if_neg (by omega), if_neg (by omega), gd_z (by omega) (by omega) (by omega), gd_z (by omega) (by omega) (by omega), z_cl (by omega) (by omega), z_add, Int.toNat_natCast, upd_copy]
    rfl
  · dsimp only
    unfold f_X10_copy_b11
    simp (disch := omega) only [z_lit, z_nI, z_le]
    rw [if_pos (Int.le_refl _)]
