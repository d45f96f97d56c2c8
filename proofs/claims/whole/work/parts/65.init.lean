def fl (n : Nat) (v : Int32) : Nat → Int32 := fun k => if k < n then v else 0
theorem fl_lt {n k : Nat} {v : Int32} (h : k < n) : fl n v k = v := if_pos h
theorem fill0 {n : Nat} (hn : n ≤ 1000) (v : Int32) : f_X10_fill n (fun _ => 0) v = some (fl n v) := fill_s hn (fun _ => 0) v
def T0 : TW := (fl 10 5, fl 10 12, fl 17 12, fun _ => 0, 0, fl 10 2, fl 10 (-6), 0, fun _ => 0, fun _ => 0, 0, fun _ => 0, fun _ => 0)
theorem init_t : f_X8_init = some (T0.w, T0.k, T0.c, T0.d, T0.b, T0.ro, T0.pl, T0.rc, T0.rf, T0.rs, T0.sc, T0.sf, T0.ss) := by
  unfold f_X8_init f_X7_init f_X5_init
  rw [fill0 (by omega), fill0 (by omega), fill0 (by omega), fill0 (by omega), fill0 (by omega), bd1_s, bd1_s, bd3_s, bd3_s, bd3_s, bd1_s, bd1_s, bd1_s]
  rfl
theorem init_c : f_X10_init = some (0, T0.w, T0.k, T0.c, T0.d, T0.b, T0.ro, T0.pl, T0.rc, T0.rf, T0.rs, T0.sc, T0.sf, T0.ss, T0.w, T0.k, T0.c, T0.d, T0.b, T0.ro, T0.pl, T0.rc, T0.rf, T0.rs, T0.sc, T0.sf, T0.ss, T0.w, T0.k, T0.c, T0.d, T0.b, T0.ro, T0.pl, T0.rc, T0.rf, T0.rs, T0.sc, T0.sf, T0.ss, T0.w, T0.k, T0.c, T0.d, T0.b, T0.ro, T0.pl, T0.rc, T0.rf, T0.rs, T0.sc, T0.sf, T0.ss, 0, (fun _ => 0), 0, 0, 0, 0, (-6), (-6), 0, 0, (fun _ => 0), (fun _ => 0), (fun _ => 0), 0, 0, 0, (fun _ => 0), (fun _ => 0), (fun _ => 0), (-6), 0, 0, 1, (fun _ => 0)) := by
  unfold f_X10_init f_X4_init f_X6_init f_X1_init f_X3_init f_X9_init f_X0_init f_X2_init
  rw [init_t, bd13_s, bd13_s, bd13_s, bd13_s, bd2_s, bd2_s, bd5_s, bd4_s, bd6_s, bd2_s, bd3_s]
theorem upd_fl (n : Nat) (v : Int32) : upd (fl n v) n v = fl (n + 1) v := by
  funext k
  by_cases h : k = n
  · subst h
    rw [upd_at, fl_lt (by omega)]
  · rw [upd_ne _ _ h]
    unfold fl
    by_cases h2 : k < n
    · rw [if_pos h2, if_pos (by omega)]
    · rw [if_neg h2, if_neg (by omega)]
theorem fl_0 (v : Int32) : fl 0 v = fun _ => 0 := funext fun k => if_neg (Nat.not_lt_zero k)
theorem init_m : f_X11_init = some (0, 0, 0, 0, 0, 0, 0, 0, 0, 0, 0, 0, 0, 0, 0, (fun _ => 0), (fun _ => 0), fl 10 5, fl 10 12, fl 17 12, (fun _ => 0), (fun _ => 0), (fun _ => 0), (fun _ => 0), (fun _ => 0), (fun _ => 0), (fun _ => 0), (fun _ => 0), (fun _ => 0), (fun _ => 0)) := by
  have e1 : ∀ n : Nat, iZ (n : Int) + 1 = iZ ((n + 1 : Nat) : Int) := by intro n; rw [show (1 : Int32) = iZ 1 from rfl, z_add]; rfl
  have h1 : loopN (fun (q : Int32 × (Nat → Int32) × (Nat → Int32)) => f_X11_init_b125 q.1 q.2.1 q.2.2) FU (0, (fun _ => 0), (fun _ => 0)) = some (iZ 10, fl 10 5, fl 10 12) := by
    refine loop_FU (fun i : Nat => ((iZ i : Int32), fl i 5, fl i 12)) 10 ?_ ?_ ?_ (by omega)
    · rw [fl_0, fl_0]; rfl
    · intro i hi
      dsimp only
      unfold f_X11_init_b125
      rw [if_neg (by rw [show (10 : Int32) = iZ 10 from rfl, z_le] <;> omega), gd_z (by omega) (by omega) (by omega), gd_z (by omega) (by omega) (by omega), z_cl (by omega) (by omega), Int.toNat_natCast, upd_fl, upd_fl, e1]
    · dsimp only
      unfold f_X11_init_b125
      rw [if_pos (by decide)]
      rfl
  have h2 : loopN (fun (q : Int32 × (Nat → Int32)) => f_X11_init_b154 q.1 q.2) FU (0, (fun _ => 0)) = some (iZ 17, fl 17 12) := by
    refine loop_FU (fun i : Nat => ((iZ i : Int32), fl i 12)) 17 ?_ ?_ ?_ (by omega)
    · rw [fl_0]; rfl
    · intro i hi
      dsimp only
      unfold f_X11_init_b154
      rw [if_neg (by rw [show (17 : Int32) = iZ 17 from rfl, z_le] <;> omega), gd_z (by omega) (by omega) (by omega), z_cl (by omega) (by omega), Int.toNat_natCast, upd_fl, e1]
    · dsimp only
      unfold f_X11_init_b154
      rw [if_pos (by decide)]
      rfl
  unfold f_X11_init
  rw [h1, bd3_s, h2, bd2_s]
def M0 : BK := ((fun _ => 0), fl 10 5, fl 10 12, fl 17 12, (fun _ => 0), 0, (fun _ => 0), (fun _ => 0), 0, (fun _ => 0))
theorem rel_0 : TRel T0 M0 := by
  refine ⟨[], [], 0, fun _ => 5, fun _ => 12, fun _ => 12, fun _ => 0, 0, fun _ => 0, fun _ => 0, 0, fun _ => 0, fun _ => 0, ⟨Nat.zero_le _, Nat.zero_le _, List.nodup_nil, fun m h => (by cases h)⟩, by omega, rfl, fun m hm => ⟨fl_lt hm, fl_lt hm⟩, ⟨fun i m h => (by cases i <;> cases h), fun i m h => (by cases i <;> cases h), rfl, rfl, rfl⟩, fun i hi => ⟨fl_lt hi, fl_lt hi, Nat.le_of_ble_eq_true rfl, Nat.le_of_ble_eq_true rfl⟩, fun i hi => ⟨fl_lt hi, fl_lt hi, Nat.le_of_ble_eq_true rfl, Nat.le_of_ble_eq_true rfl⟩, fun i hi => ⟨fl_lt hi, fl_lt hi, Nat.le_of_ble_eq_true rfl, Nat.le_of_ble_eq_true rfl⟩, fun i hi => ⟨rfl, rfl, Nat.le_of_ble_eq_true rfl, Nat.le_of_ble_eq_true rfl⟩, rfl, rfl, ⟨by omega, fun i hi => absurd hi (Nat.not_lt_zero i)⟩, rfl, rfl, ⟨by omega, fun i hi => absurd hi (Nat.not_lt_zero i)⟩⟩
theorem im_0 (V0 V1 : TW) : ImRel 0 V0 V1 (fun _ => 0) (fun _ => 0) := ⟨0, 0, by omega, by omega, rfl, rfl, rfl, fun h => absurd h (by omega), fun h => absurd h (by omega)⟩
theorem pad_0 : PadRep 0 (fun _ => 0) (fun _ => 0) (fun _ => 0) := ⟨by omega, fun i hi => absurd hi (Nat.not_lt_zero i)⟩
