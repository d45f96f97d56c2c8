def cp (n : Nat) (a c : Nat → Int32) : Nat → Int32 := fun k => if k < n then a k else c k
theorem cp_lt {n k : Nat} {a c : Nat → Int32} (h : k < n) : cp n a c k = a k := if_pos h
theorem copy_cp {n : Nat} (hn : n ≤ 1000) (f a : Nat → Int32) : f_X10_copy n n f a = some (cp n f a) := copy_s hn f a
theorem takeRows_s (a b : Nat → Int32) (r : Int32) (ro pl : Nat → Int32) : f_X7_takeFrom a b r ro pl = some (r, cp 10 ro a, cp 10 pl b) := by
  unfold f_X7_takeFrom
  rw [copy_cp (by omega), bd1_s, copy_cp (by omega), bd1_s]
theorem takePairs_s {n : Nat} (hn : n ≤ 1000) (a b : Nat → Int32) (c : Int32) (f s : Nat → Int32) : f_X5_takeFrom n n a b c f s = some (c, cp n f a, cp n s b) := by
  unfold f_X5_takeFrom
  rw [copy_cp hn, bd1_s, copy_cp hn, bd1_s]
theorem takeTown_s (w k c d ro pl rf rs sf ss w' k' c' d' : Nat → Int32) (b : Int32) (ro' pl' : Nat → Int32) (rc : Int32) (rf' rs' : Nat → Int32) (sc : Int32) (sf' ss' : Nat → Int32) :
    f_X8_takeFrom w k c d ro pl rf rs sf ss w' k' c' d' b ro' pl' rc rf' rs' sc sf' ss' = some (cp 10 w' w, cp 10 k' k, cp 17 c' c, cp 2 d' d, b, cp 10 ro' ro, cp 10 pl' pl, rc, cp 10 rf' rf, cp 10 rs' rs, sc, cp 8 sf' sf, cp 8 ss' ss) := by
  unfold f_X8_takeFrom
  rw [copy_cp (by omega), bd1_s, copy_cp (by omega), bd1_s, copy_cp (by omega), bd1_s, copy_cp (by omega), bd1_s, takeRows_s, bd3_s, takePairs_s (by omega), bd3_s, takePairs_s (by omega), bd3_s]
theorem asNow_s (bk now : Nat → Int32) : f_X11_asNow bk now = some (cp 15 bk now) := by
  unfold f_X11_asNow
  rw [loop_FU (fun i : Nat => ((iZ i : Int32), ((fun k => if k < i then bk k else now k) : Nat → Int32))) 15 (r := (iZ 15, fun k => if k < 15 then bk k else now k)) ?_ ?_ ?_ (by omega)]
  · rfl
  · exact Prod.ext (z_lit 0) (funext fun k => (if_neg (Nat.not_lt_zero k) : (if k < 0 then bk k else now k) = now k).symm)
  · intro i hi
    dsimp only
    unfold f_X11_asNow_b2
    rw [if_neg (by rw [show (15 : Int32) = iZ 15 from rfl, z_le] <;> omega), gd_z (by omega) (by omega) (by omega), gd_z (by omega) (by omega) (by omega), z_cl (by omega) (by omega), show (1 : Int32) = iZ 1 from rfl, z_add, Int.toNat_natCast, upd_copy]
    rfl
  · dsimp only
    unfold f_X11_asNow_b2
    rw [if_pos (by decide)]
    rfl
