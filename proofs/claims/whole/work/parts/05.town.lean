abbrev w_X8_takeFrom (cI cJ cZ : ClassId) (h_this h_this_widths h_this_keys h_this_cells h_this_delays h_this_rows h_this_rows_rowOf h_this_rows_placeOf h_this_rules h_this_rules_firsts h_this_rules_seconds h_this_sights h_this_sights_firsts h_this_sights_seconds h_a1 h_a1_widths h_a1_keys h_a1_cells h_a1_delays h_a1_rows h_a1_rows_rowOf h_a1_rows_placeOf h_a1_rules h_a1_rules_firsts h_a1_rules_seconds h_a1_sights h_a1_sights_firsts h_a1_sights_seconds : Nat) (c_widths : Nat → Int32) (c_keys : Nat → Int32) (c_cells : Nat → Int32) (c_delays : Nat → Int32) (c_rows_rung : Int32) (c_rows_rowOf : Nat → Int32) (c_rows_placeOf : Nat → Int32) (c_rules_count : Int32) (c_rules_firsts : Nat → Int32) (c_rules_seconds : Nat → Int32) (c_sights_count : Int32) (c_sights_firsts : Nat → Int32) (c_sights_seconds : Nat → Int32) (c_a1_widths : Nat → Int32) (c_a1_keys : Nat → Int32) (c_a1_cells : Nat → Int32) (c_a1_delays : Nat → Int32) (c_a1_rows_rung : Int32) (c_a1_rows_rowOf : Nat → Int32) (c_a1_rows_placeOf : Nat → Int32) (c_a1_rules_count : Int32) (c_a1_rules_firsts : Nat → Int32) (c_a1_rules_seconds : Nat → Int32) (c_a1_sights_count : Int32) (c_a1_sights_firsts : Nat → Int32) (c_a1_sights_seconds : Nat → Int32) : va_W := [(h_this, .inr (8, [.ref h_this_widths, .ref h_this_keys, .ref h_this_cells, .ref h_this_delays, .ref h_this_rows, .ref h_this_rules, .ref h_this_sights])), (h_this_widths, .inl (cI, 10, .inl c_widths)), (h_this_keys, .inl (cI, 10, .inl c_keys)), (h_this_cells, .inl (cI, 17, .inl c_cells)), (h_this_delays, .inl (cI, 2, .inl c_delays)), (h_this_rows, .inr (7, [.ref h_this_rows_rowOf, .ref h_this_rows_placeOf, .int c_rows_rung])), (h_this_rows_rowOf, .inl (cI, 10, .inl c_rows_rowOf)), (h_this_rows_placeOf, .inl (cI, 10, .inl c_rows_placeOf)), (h_this_rules, .inr (5, [.ref h_this_rules_firsts, .ref h_this_rules_seconds, .int c_rules_count])), (h_this_rules_firsts, .inl (cI, 10, .inl c_rules_firsts)), (h_this_rules_seconds, .inl (cI, 10, .inl c_rules_seconds)), (h_this_sights, .inr (5, [.ref h_this_sights_firsts, .ref h_this_sights_seconds, .int c_sights_count])), (h_this_sights_firsts, .inl (cI, 8, .inl c_sights_firsts)), (h_this_sights_seconds, .inl (cI, 8, .inl c_sights_seconds)), (h_a1, .inr (8, [.ref h_a1_widths, .ref h_a1_keys, .ref h_a1_cells, .ref h_a1_delays, .ref h_a1_rows, .ref h_a1_rules, .ref h_a1_sights])), (h_a1_widths, .inl (cI, 10, .inl c_a1_widths)), (h_a1_keys, .inl (cI, 10, .inl c_a1_keys)), (h_a1_cells, .inl (cI, 17, .inl c_a1_cells)), (h_a1_delays, .inl (cI, 2, .inl c_a1_delays)), (h_a1_rows, .inr (7, [.ref h_a1_rows_rowOf, .ref h_a1_rows_placeOf, .int c_a1_rows_rung])), (h_a1_rows_rowOf, .inl (cI, 10, .inl c_a1_rows_rowOf)), (h_a1_rows_placeOf, .inl (cI, 10, .inl c_a1_rows_placeOf)), (h_a1_rules, .inr (5, [.ref h_a1_rules_firsts, .ref h_a1_rules_seconds, .int c_a1_rules_count])), (h_a1_rules_firsts, .inl (cI, 10, .inl c_a1_rules_firsts)), (h_a1_rules_seconds, .inl (cI, 10, .inl c_a1_rules_seconds)), (h_a1_sights, .inr (5, [.ref h_a1_sights_firsts, .ref h_a1_sights_seconds, .int c_a1_sights_count])), (h_a1_sights_firsts, .inl (cI, 8, .inl c_a1_sights_firsts)), (h_a1_sights_seconds, .inl (cI, 8, .inl c_a1_sights_seconds))]
abbrev rm_X8_takeFrom : Room := { frames := 2, cells := 0, slots := 0, locals := 43 }
theorem m_X8_takeFrom_f9 : (.fieldLink RX8 9 "WovenRows$Town" "widths" "[I" : Cond) ∈ wsX8_takeFrom := by decide +kernel
theorem in_X8_takeFrom_X8 : ∀ w ∈ u_ws RX8 TX8 7, w ∈ wsX8_takeFrom := by decide +kernel
theorem m_X8_takeFrom_f15 : (.fieldLink RX8 15 "WovenRows$Town" "keys" "[I" : Cond) ∈ wsX8_takeFrom := by decide +kernel
theorem m_X8_takeFrom_f18 : (.fieldLink RX8 18 "WovenRows$Town" "cells" "[I" : Cond) ∈ wsX8_takeFrom := by decide +kernel
theorem m_X8_takeFrom_f21 : (.fieldLink RX8 21 "WovenRows$Town" "delays" "[I" : Cond) ∈ wsX8_takeFrom := by decide +kernel
theorem m_X8_takeFrom_f27 : (.fieldLink RX8 27 "WovenRows$Town" "rows" "LWovenRows$Rows;" : Cond) ∈ wsX8_takeFrom := by decide +kernel
theorem m_X8_takeFrom_f36 : (.fieldLink RX8 36 "WovenRows$Town" "rules" "LWovenRows$Pairs;" : Cond) ∈ wsX8_takeFrom := by decide +kernel
theorem m_X8_takeFrom_f40 : (.fieldLink RX8 40 "WovenRows$Town" "sights" "LWovenRows$Pairs;" : Cond) ∈ wsX8_takeFrom := by decide +kernel
theorem m_X8_takeFrom_iX10 : (.initialized RX10 : Cond) ∈ wsX8_takeFrom := by decide +kernel
theorem m_X8_takeFrom_st_X10_copy : (.static yX10_copy : Cond) ∈ wsX8_takeFrom := by decide +kernel
set_option maxRecDepth 100000 in
set_option maxHeartbeats 4000000 in
theorem c_X8_takeFrom (l : Launch) (dC : Nat → ClassId) (dI : Nat → Nat → Nat) (cI cJ cZ : ClassId) (h_this h_this_widths h_this_keys h_this_cells h_this_delays h_this_rows h_this_rows_rowOf h_this_rows_placeOf h_this_rules h_this_rules_firsts h_this_rules_seconds h_this_sights h_this_sights_firsts h_this_sights_seconds h_a1 h_a1_widths h_a1_keys h_a1_cells h_a1_delays h_a1_rows h_a1_rows_rowOf h_a1_rows_placeOf h_a1_rules h_a1_rules_firsts h_a1_rules_seconds h_a1_sights h_a1_sights_firsts h_a1_sights_seconds : Nat) (sz : Nat) (c_widths : Nat → Int32) (c_keys : Nat → Int32) (c_cells : Nat → Int32) (c_delays : Nat → Int32) (c_rows_rung : Int32) (c_rows_rowOf : Nat → Int32) (c_rows_placeOf : Nat → Int32) (c_rules_count : Int32) (c_rules_firsts : Nat → Int32) (c_rules_seconds : Nat → Int32) (c_sights_count : Int32) (c_sights_firsts : Nat → Int32) (c_sights_seconds : Nat → Int32) (c_a1_widths : Nat → Int32) (c_a1_keys : Nat → Int32) (c_a1_cells : Nat → Int32) (c_a1_delays : Nat → Int32) (c_a1_rows_rung : Int32) (c_a1_rows_rowOf : Nat → Int32) (c_a1_rows_placeOf : Nat → Int32) (c_a1_rules_count : Int32) (c_a1_rules_firsts : Nat → Int32) (c_a1_rules_seconds : Nat → Int32) (c_a1_sights_count : Int32) (c_a1_sights_firsts : Nat → Int32) (c_a1_sights_seconds : Nat → Int32) (z_widths : Nat → Int32) (z_keys : Nat → Int32) (z_cells : Nat → Int32) (z_delays : Nat → Int32) (z_rows_rung : Int32) (z_rows_rowOf : Nat → Int32) (z_rows_placeOf : Nat → Int32) (z_rules_count : Int32) (z_rules_firsts : Nat → Int32) (z_rules_seconds : Nat → Int32) (z_sights_count : Int32) (z_sights_firsts : Nat → Int32) (z_sights_seconds : Nat → Int32) (hf : f_X8_takeFrom c_widths c_keys c_cells c_delays c_rows_rowOf c_rows_placeOf c_rules_firsts c_rules_seconds c_sights_firsts c_sights_seconds c_a1_widths c_a1_keys c_a1_cells c_a1_delays c_a1_rows_rung c_a1_rows_rowOf c_a1_rows_placeOf c_a1_rules_count c_a1_rules_firsts c_a1_rules_seconds c_a1_sights_count c_a1_sights_firsts c_a1_sights_seconds = some (z_widths, z_keys, z_cells, z_delays, z_rows_rung, z_rows_rowOf, z_rows_placeOf, z_rules_count, z_rules_firsts, z_rules_seconds, z_sights_count, z_sights_firsts, z_sights_seconds)) : Met l yX8_takeFrom wsX8_takeFrom rm_X8_takeFrom (va_Pc [.ref h_this, .ref h_a1] (PRE (dC, dI) (TY cI cJ cZ) sz (w_X8_takeFrom cI cJ cZ h_this h_this_widths h_this_keys h_this_cells h_this_delays h_this_rows h_this_rows_rowOf h_this_rows_placeOf h_this_rules h_this_rules_firsts h_this_rules_seconds h_this_sights h_this_sights_firsts h_this_sights_seconds h_a1 h_a1_widths h_a1_keys h_a1_cells h_a1_delays h_a1_rows h_a1_rows_rowOf h_a1_rows_placeOf h_a1_rules h_a1_rules_firsts h_a1_rules_seconds h_a1_sights h_a1_sights_firsts h_a1_sights_seconds c_widths c_keys c_cells c_delays c_rows_rung c_rows_rowOf c_rows_placeOf c_rules_count c_rules_firsts c_rules_seconds c_sights_count c_sights_firsts c_sights_seconds c_a1_widths c_a1_keys c_a1_cells c_a1_delays c_a1_rows_rung c_a1_rows_rowOf c_a1_rows_placeOf c_a1_rules_count c_a1_rules_firsts c_a1_rules_seconds c_a1_sights_count c_a1_sights_firsts c_a1_sights_seconds))) (va_Qv (fun _ : Unit => True) (POW (dC, dI) (va_A (w_X8_takeFrom cI cJ cZ h_this h_this_widths h_this_keys h_this_cells h_this_delays h_this_rows h_this_rows_rowOf h_this_rows_placeOf h_this_rules h_this_rules_firsts h_this_rules_seconds h_this_sights h_this_sights_firsts h_this_sights_seconds h_a1 h_a1_widths h_a1_keys h_a1_cells h_a1_delays h_a1_rows h_a1_rows_rowOf h_a1_rows_placeOf h_a1_rules h_a1_rules_firsts h_a1_rules_seconds h_a1_sights h_a1_sights_firsts h_a1_sights_seconds c_widths c_keys c_cells c_delays c_rows_rung c_rows_rowOf c_rows_placeOf c_rules_count c_rules_firsts c_rules_seconds c_sights_count c_sights_firsts c_sights_seconds c_a1_widths c_a1_keys c_a1_cells c_a1_delays c_a1_rows_rung c_a1_rows_rowOf c_a1_rows_placeOf c_a1_rules_count c_a1_rules_firsts c_a1_rules_seconds c_a1_sights_count c_a1_sights_firsts c_a1_sights_seconds) sz) (w_X8_takeFrom cI cJ cZ h_this h_this_widths h_this_keys h_this_cells h_this_delays h_this_rows h_this_rows_rowOf h_this_rows_placeOf h_this_rules h_this_rules_firsts h_this_rules_seconds h_this_sights h_this_sights_firsts h_this_sights_seconds h_a1 h_a1_widths h_a1_keys h_a1_cells h_a1_delays h_a1_rows h_a1_rows_rowOf h_a1_rows_placeOf h_a1_rules h_a1_rules_firsts h_a1_rules_seconds h_a1_sights h_a1_sights_firsts h_a1_sights_seconds z_widths z_keys z_cells z_delays z_rows_rung z_rows_rowOf z_rows_placeOf z_rules_count z_rules_firsts z_rules_seconds z_sights_count z_sights_firsts z_sights_seconds c_a1_widths c_a1_keys c_a1_cells c_a1_delays c_a1_rows_rung c_a1_rows_rowOf c_a1_rows_placeOf c_a1_rules_count c_a1_rules_firsts c_a1_rules_seconds c_a1_sights_count c_a1_sights_firsts c_a1_sights_seconds)) (va_A (w_X8_takeFrom cI cJ cZ h_this h_this_widths h_this_keys h_this_cells h_this_delays h_this_rows h_this_rows_rowOf h_this_rows_placeOf h_this_rules h_this_rules_firsts h_this_rules_seconds h_this_sights h_this_sights_firsts h_this_sights_seconds h_a1 h_a1_widths h_a1_keys h_a1_cells h_a1_delays h_a1_rows h_a1_rows_rowOf h_a1_rows_placeOf h_a1_rules h_a1_rules_firsts h_a1_rules_seconds h_a1_sights h_a1_sights_firsts h_a1_sights_seconds c_widths c_keys c_cells c_delays c_rows_rung c_rows_rowOf c_rows_placeOf c_rules_count c_rules_firsts c_rules_seconds c_sights_count c_sights_firsts c_sights_seconds c_a1_widths c_a1_keys c_a1_cells c_a1_delays c_a1_rows_rung c_a1_rows_rowOf c_a1_rows_placeOf c_a1_rules_count c_a1_rules_firsts c_a1_rules_seconds c_a1_sights_count c_a1_sights_firsts c_a1_sights_seconds) sz)) 0 0 (va_A (w_X8_takeFrom cI cJ cZ h_this h_this_widths h_this_keys h_this_cells h_this_delays h_this_rows h_this_rows_rowOf h_this_rows_placeOf h_this_rules h_this_rules_firsts h_this_rules_seconds h_this_sights h_this_sights_firsts h_this_sights_seconds h_a1 h_a1_widths h_a1_keys h_a1_cells h_a1_delays h_a1_rows h_a1_rows_rowOf h_a1_rows_placeOf h_a1_rules h_a1_rules_firsts h_a1_rules_seconds h_a1_sights h_a1_sights_firsts h_a1_sights_seconds c_widths c_keys c_cells c_delays c_rows_rung c_rows_rowOf c_rows_placeOf c_rules_count c_rules_firsts c_rules_seconds c_sights_count c_sights_firsts c_sights_seconds c_a1_widths c_a1_keys c_a1_cells c_a1_delays c_a1_rows_rung c_a1_rows_rowOf c_a1_rows_placeOf c_a1_rules_count c_a1_rules_firsts c_a1_rules_seconds c_a1_sights_count c_a1_sights_firsts c_a1_sights_seconds) sz) := by
  refine ofWv (by decide +kernel) rfl (Nat.le_of_ble_eq_true rfl) ?_
  intro p e s m args below meth c Z A ls S hP hD hK hN hA hl hret
  obtain ⟨hx, hb, hml, hown, hts⟩ := id S
  have hown : s.vm.findClass RX8 = some m.cls := hown
  have hS : va_S A s.heap s.heap [] := va_S.rf
  have hl : lv_has ls 2 [(0, .ref h_this), (1, .ref h_a1)] := hl
  unfold f_X8_takeFrom at hf
  refine lv_aload_n hx hb dX8_takeFrom_0 rfl (lv_at hl 1 rfl) ?_
  refine lv_ifnonnull (tgt := 5) hx hb dX8_takeFrom_1 (by decide) ?_
  refine lv_aload_n hx hb dX8_takeFrom_5 rfl (lv_at hl 1 rfl) ?_
  refine va_get (D := (dC, dI)) (ci := 8) (v := .ref h_a1_widths) (C := RX8) (T := TX8) (N := 7) hx hb hts in_X8_takeFrom_X8 hown hK hP 14 rfl rfl 0 (by decide) (hts _ m_X8_takeFrom_f9) (fun _ h9 => h9) rfl dX8_takeFrom_6 ?_
  refine lv_aload_n hx hb dX8_takeFrom_9 rfl (lv_at hl 0 rfl) ?_
  refine va_get (D := (dC, dI)) (ci := 8) (v := .ref h_this_widths) (C := RX8) (T := TX8) (N := 7) hx hb hts in_X8_takeFrom_X8 hown hK hP 0 rfl rfl 0 (by decide) (hts _ m_X8_takeFrom_f9) (fun _ h9 => h9) rfl dX8_takeFrom_10 ?_
  obtain ⟨c_widths_13, hv_13, hf⟩ := bd1_some hf
  refine kWv (rSN (host := "WovenRows") [.ref h_a1_widths, .ref h_this_widths] [] S (c_X10_copy l dC dI cI cJ cZ h_a1_widths h_this_widths s.heap.size 10 10 c_a1_widths c_widths c_widths_13 hv_13) ⟨va_cnB 2 hts gX8_takeFrom_X10_copy_n47 rfl rfl rfl (hN.m 11 rfl) (hts _ m_X8_takeFrom_iX10) (by decide +kernel) ⟨Nat.le_of_ble_eq_true rfl, Nat.le_of_ble_eq_true rfl⟩, hts _ m_X8_takeFrom_st_X10_copy, trivial⟩ hP hD hK hN [15, 1] rfl (by decide +kernel) rfl hl.1 rfl (Nat.le_of_ble_eq_true rfl) dX8_takeFrom_13 ⟨Nat.le_of_ble_eq_true rfl, Nat.le_of_ble_eq_true rfl⟩) hP hD hS hA [15, 1] rfl rfl [none, some 1, none, none, none, none, none, none, none, none, none, none, none, none, none, some 0, none, none, none, none, none, none, none, none, none, none, none, none] (by decide +kernel) rfl (fun H locs hP hD hS => ?_)
  have hP : va_P (dC, dI) vwCl (w_X8_takeFrom cI cJ cZ h_this h_this_widths h_this_keys h_this_cells h_this_delays h_this_rows h_this_rows_rowOf h_this_rows_placeOf h_this_rules h_this_rules_firsts h_this_rules_seconds h_this_sights h_this_sights_firsts h_this_sights_seconds h_a1 h_a1_widths h_a1_keys h_a1_cells h_a1_delays h_a1_rows h_a1_rows_rowOf h_a1_rows_placeOf h_a1_rules h_a1_rules_firsts h_a1_rules_seconds h_a1_sights h_a1_sights_firsts h_a1_sights_seconds c_widths_13 c_keys c_cells c_delays c_rows_rung c_rows_rowOf c_rows_placeOf c_rules_count c_rules_firsts c_rules_seconds c_sights_count c_sights_firsts c_sights_seconds c_a1_widths c_a1_keys c_a1_cells c_a1_delays c_a1_rows_rung c_a1_rows_rowOf c_a1_rows_placeOf c_a1_rules_count c_a1_rules_firsts c_a1_rules_seconds c_a1_sights_count c_a1_sights_firsts c_a1_sights_seconds) H := hP
  have hD : va_D A (w_X8_takeFrom cI cJ cZ h_this h_this_widths h_this_keys h_this_cells h_this_delays h_this_rows h_this_rows_rowOf h_this_rows_placeOf h_this_rules h_this_rules_firsts h_this_rules_seconds h_this_sights h_this_sights_firsts h_this_sights_seconds h_a1 h_a1_widths h_a1_keys h_a1_cells h_a1_delays h_a1_rows h_a1_rows_rowOf h_a1_rows_placeOf h_a1_rules h_a1_rules_firsts h_a1_rules_seconds h_a1_sights h_a1_sights_firsts h_a1_sights_seconds c_widths_13 c_keys c_cells c_delays c_rows_rung c_rows_rowOf c_rows_placeOf c_rules_count c_rules_firsts c_rules_seconds c_sights_count c_sights_firsts c_sights_seconds c_a1_widths c_a1_keys c_a1_cells c_a1_delays c_a1_rows_rung c_a1_rows_rowOf c_a1_rows_placeOf c_a1_rules_count c_a1_rules_firsts c_a1_rules_seconds c_a1_sights_count c_a1_sights_firsts c_a1_sights_seconds) := hD
  refine lv_aload_n hx hb dX8_takeFrom_16 rfl (lv_at hl 1 rfl) ?_
  refine va_get (D := (dC, dI)) (ci := 8) (v := .ref h_a1_keys) (C := RX8) (T := TX8) (N := 7) hx hb hts in_X8_takeFrom_X8 hown hK hP 14 rfl rfl 1 (by decide) (hts _ m_X8_takeFrom_f15) (fun _ h9 => h9) rfl dX8_takeFrom_17 ?_
  refine lv_aload_n hx hb dX8_takeFrom_20 rfl (lv_at hl 0 rfl) ?_
  refine va_get (D := (dC, dI)) (ci := 8) (v := .ref h_this_keys) (C := RX8) (T := TX8) (N := 7) hx hb hts in_X8_takeFrom_X8 hown hK hP 0 rfl rfl 1 (by decide) (hts _ m_X8_takeFrom_f15) (fun _ h9 => h9) rfl dX8_takeFrom_21 ?_
  obtain ⟨c_keys_24, hv_24, hf⟩ := bd1_some hf
  refine kWv (rSN (host := "WovenRows") [.ref h_a1_keys, .ref h_this_keys] [] S (c_X10_copy l dC dI cI cJ cZ h_a1_keys h_this_keys H.size 10 10 c_a1_keys c_keys c_keys_24 hv_24) ⟨va_cnB 2 hts gX8_takeFrom_X10_copy_n47 rfl rfl rfl (hN.m 11 rfl) (hts _ m_X8_takeFrom_iX10) (by decide +kernel) ⟨Nat.le_of_ble_eq_true rfl, Nat.le_of_ble_eq_true rfl⟩, hts _ m_X8_takeFrom_st_X10_copy, trivial⟩ hP hD hK hN [16, 2] rfl (by decide +kernel) rfl hl.1 rfl (Nat.le_of_ble_eq_true rfl) dX8_takeFrom_24 ⟨Nat.le_of_ble_eq_true rfl, Nat.le_of_ble_eq_true rfl⟩) hP hD hS hA [16, 2] rfl rfl [none, none, some 1, none, none, none, none, none, none, none, none, none, none, none, none, none, some 0, none, none, none, none, none, none, none, none, none, none, none] (by decide +kernel) rfl (fun H locs hP hD hS => ?_)
  have hP : va_P (dC, dI) vwCl (w_X8_takeFrom cI cJ cZ h_this h_this_widths h_this_keys h_this_cells h_this_delays h_this_rows h_this_rows_rowOf h_this_rows_placeOf h_this_rules h_this_rules_firsts h_this_rules_seconds h_this_sights h_this_sights_firsts h_this_sights_seconds h_a1 h_a1_widths h_a1_keys h_a1_cells h_a1_delays h_a1_rows h_a1_rows_rowOf h_a1_rows_placeOf h_a1_rules h_a1_rules_firsts h_a1_rules_seconds h_a1_sights h_a1_sights_firsts h_a1_sights_seconds c_widths_13 c_keys_24 c_cells c_delays c_rows_rung c_rows_rowOf c_rows_placeOf c_rules_count c_rules_firsts c_rules_seconds c_sights_count c_sights_firsts c_sights_seconds c_a1_widths c_a1_keys c_a1_cells c_a1_delays c_a1_rows_rung c_a1_rows_rowOf c_a1_rows_placeOf c_a1_rules_count c_a1_rules_firsts c_a1_rules_seconds c_a1_sights_count c_a1_sights_firsts c_a1_sights_seconds) H := hP
  have hD : va_D A (w_X8_takeFrom cI cJ cZ h_this h_this_widths h_this_keys h_this_cells h_this_delays h_this_rows h_this_rows_rowOf h_this_rows_placeOf h_this_rules h_this_rules_firsts h_this_rules_seconds h_this_sights h_this_sights_firsts h_this_sights_seconds h_a1 h_a1_widths h_a1_keys h_a1_cells h_a1_delays h_a1_rows h_a1_rows_rowOf h_a1_rows_placeOf h_a1_rules h_a1_rules_firsts h_a1_rules_seconds h_a1_sights h_a1_sights_firsts h_a1_sights_seconds c_widths_13 c_keys_24 c_cells c_delays c_rows_rung c_rows_rowOf c_rows_placeOf c_rules_count c_rules_firsts c_rules_seconds c_sights_count c_sights_firsts c_sights_seconds c_a1_widths c_a1_keys c_a1_cells c_a1_delays c_a1_rows_rung c_a1_rows_rowOf c_a1_rows_placeOf c_a1_rules_count c_a1_rules_firsts c_a1_rules_seconds c_a1_sights_count c_a1_sights_firsts c_a1_sights_seconds) := hD
  refine lv_aload_n hx hb dX8_takeFrom_27 rfl (lv_at hl 1 rfl) ?_
  refine va_get (D := (dC, dI)) (ci := 8) (v := .ref h_a1_cells) (C := RX8) (T := TX8) (N := 7) hx hb hts in_X8_takeFrom_X8 hown hK hP 14 rfl rfl 2 (by decide) (hts _ m_X8_takeFrom_f18) (fun _ h9 => h9) rfl dX8_takeFrom_28 ?_
  refine lv_aload_n hx hb dX8_takeFrom_31 rfl (lv_at hl 0 rfl) ?_
  refine va_get (D := (dC, dI)) (ci := 8) (v := .ref h_this_cells) (C := RX8) (T := TX8) (N := 7) hx hb hts in_X8_takeFrom_X8 hown hK hP 0 rfl rfl 2 (by decide) (hts _ m_X8_takeFrom_f18) (fun _ h9 => h9) rfl dX8_takeFrom_32 ?_
  obtain ⟨c_cells_35, hv_35, hf⟩ := bd1_some hf
  refine kWv (rSN (host := "WovenRows") [.ref h_a1_cells, .ref h_this_cells] [] S (c_X10_copy l dC dI cI cJ cZ h_a1_cells h_this_cells H.size 17 17 c_a1_cells c_cells c_cells_35 hv_35) ⟨va_cnB 2 hts gX8_takeFrom_X10_copy_n47 rfl rfl rfl (hN.m 11 rfl) (hts _ m_X8_takeFrom_iX10) (by decide +kernel) ⟨Nat.le_of_ble_eq_true rfl, Nat.le_of_ble_eq_true rfl⟩, hts _ m_X8_takeFrom_st_X10_copy, trivial⟩ hP hD hK hN [17, 3] rfl (by decide +kernel) rfl hl.1 rfl (Nat.le_of_ble_eq_true rfl) dX8_takeFrom_35 ⟨Nat.le_of_ble_eq_true rfl, Nat.le_of_ble_eq_true rfl⟩) hP hD hS hA [17, 3] rfl rfl [none, none, none, some 1, none, none, none, none, none, none, none, none, none, none, none, none, none, some 0, none, none, none, none, none, none, none, none, none, none] (by decide +kernel) rfl (fun H locs hP hD hS => ?_)
  have hP : va_P (dC, dI) vwCl (w_X8_takeFrom cI cJ cZ h_this h_this_widths h_this_keys h_this_cells h_this_delays h_this_rows h_this_rows_rowOf h_this_rows_placeOf h_this_rules h_this_rules_firsts h_this_rules_seconds h_this_sights h_this_sights_firsts h_this_sights_seconds h_a1 h_a1_widths h_a1_keys h_a1_cells h_a1_delays h_a1_rows h_a1_rows_rowOf h_a1_rows_placeOf h_a1_rules h_a1_rules_firsts h_a1_rules_seconds h_a1_sights h_a1_sights_firsts h_a1_sights_seconds c_widths_13 c_keys_24 c_cells_35 c_delays c_rows_rung c_rows_rowOf c_rows_placeOf c_rules_count c_rules_firsts c_rules_seconds c_sights_count c_sights_firsts c_sights_seconds c_a1_widths c_a1_keys c_a1_cells c_a1_delays c_a1_rows_rung c_a1_rows_rowOf c_a1_rows_placeOf c_a1_rules_count c_a1_rules_firsts c_a1_rules_seconds c_a1_sights_count c_a1_sights_firsts c_a1_sights_seconds) H := hP
  have hD : va_D A (w_X8_takeFrom cI cJ cZ h_this h_this_widths h_this_keys h_this_cells h_this_delays h_this_rows h_this_rows_rowOf h_this_rows_placeOf h_this_rules h_this_rules_firsts h_this_rules_seconds h_this_sights h_this_sights_firsts h_this_sights_seconds h_a1 h_a1_widths h_a1_keys h_a1_cells h_a1_delays h_a1_rows h_a1_rows_rowOf h_a1_rows_placeOf h_a1_rules h_a1_rules_firsts h_a1_rules_seconds h_a1_sights h_a1_sights_firsts h_a1_sights_seconds c_widths_13 c_keys_24 c_cells_35 c_delays c_rows_rung c_rows_rowOf c_rows_placeOf c_rules_count c_rules_firsts c_rules_seconds c_sights_count c_sights_firsts c_sights_seconds c_a1_widths c_a1_keys c_a1_cells c_a1_delays c_a1_rows_rung c_a1_rows_rowOf c_a1_rows_placeOf c_a1_rules_count c_a1_rules_firsts c_a1_rules_seconds c_a1_sights_count c_a1_sights_firsts c_a1_sights_seconds) := hD
  refine lv_aload_n hx hb dX8_takeFrom_38 rfl (lv_at hl 1 rfl) ?_
  refine va_get (D := (dC, dI)) (ci := 8) (v := .ref h_a1_delays) (C := RX8) (T := TX8) (N := 7) hx hb hts in_X8_takeFrom_X8 hown hK hP 14 rfl rfl 3 (by decide) (hts _ m_X8_takeFrom_f21) (fun _ h9 => h9) rfl dX8_takeFrom_39 ?_
  refine lv_aload_n hx hb dX8_takeFrom_42 rfl (lv_at hl 0 rfl) ?_
  refine va_get (D := (dC, dI)) (ci := 8) (v := .ref h_this_delays) (C := RX8) (T := TX8) (N := 7) hx hb hts in_X8_takeFrom_X8 hown hK hP 0 rfl rfl 3 (by decide) (hts _ m_X8_takeFrom_f21) (fun _ h9 => h9) rfl dX8_takeFrom_43 ?_
  obtain ⟨c_delays_46, hv_46, hf⟩ := bd1_some hf
  refine kWv (rSN (host := "WovenRows") [.ref h_a1_delays, .ref h_this_delays] [] S (c_X10_copy l dC dI cI cJ cZ h_a1_delays h_this_delays H.size 2 2 c_a1_delays c_delays c_delays_46 hv_46) ⟨va_cnB 2 hts gX8_takeFrom_X10_copy_n47 rfl rfl rfl (hN.m 11 rfl) (hts _ m_X8_takeFrom_iX10) (by decide +kernel) ⟨Nat.le_of_ble_eq_true rfl, Nat.le_of_ble_eq_true rfl⟩, hts _ m_X8_takeFrom_st_X10_copy, trivial⟩ hP hD hK hN [18, 4] rfl (by decide +kernel) rfl hl.1 rfl (Nat.le_of_ble_eq_true rfl) dX8_takeFrom_46 ⟨Nat.le_of_ble_eq_true rfl, Nat.le_of_ble_eq_true rfl⟩) hP hD hS hA [18, 4] rfl rfl [none, none, none, none, some 1, none, none, none, none, none, none, none, none, none, none, none, none, none, some 0, none, none, none, none, none, none, none, none, none] (by decide +kernel) rfl (fun H locs hP hD hS => ?_)
  have hP : va_P (dC, dI) vwCl (w_X8_takeFrom cI cJ cZ h_this h_this_widths h_this_keys h_this_cells h_this_delays h_this_rows h_this_rows_rowOf h_this_rows_placeOf h_this_rules h_this_rules_firsts h_this_rules_seconds h_this_sights h_this_sights_firsts h_this_sights_seconds h_a1 h_a1_widths h_a1_keys h_a1_cells h_a1_delays h_a1_rows h_a1_rows_rowOf h_a1_rows_placeOf h_a1_rules h_a1_rules_firsts h_a1_rules_seconds h_a1_sights h_a1_sights_firsts h_a1_sights_seconds c_widths_13 c_keys_24 c_cells_35 c_delays_46 c_rows_rung c_rows_rowOf c_rows_placeOf c_rules_count c_rules_firsts c_rules_seconds c_sights_count c_sights_firsts c_sights_seconds c_a1_widths c_a1_keys c_a1_cells c_a1_delays c_a1_rows_rung c_a1_rows_rowOf c_a1_rows_placeOf c_a1_rules_count c_a1_rules_firsts c_a1_rules_seconds c_a1_sights_count c_a1_sights_firsts c_a1_sights_seconds) H := hP
  have hD : va_D A (w_X8_takeFrom cI cJ cZ h_this h_this_widths h_this_keys h_this_cells h_this_delays h_this_rows h_this_rows_rowOf h_this_rows_placeOf h_this_rules h_this_rules_firsts h_this_rules_seconds h_this_sights h_this_sights_firsts h_this_sights_seconds h_a1 h_a1_widths h_a1_keys h_a1_cells h_a1_delays h_a1_rows h_a1_rows_rowOf h_a1_rows_placeOf h_a1_rules h_a1_rules_firsts h_a1_rules_seconds h_a1_sights h_a1_sights_firsts h_a1_sights_seconds c_widths_13 c_keys_24 c_cells_35 c_delays_46 c_rows_rung c_rows_rowOf c_rows_placeOf c_rules_count c_rules_firsts c_rules_seconds c_sights_count c_sights_firsts c_sights_seconds c_a1_widths c_a1_keys c_a1_cells c_a1_delays c_a1_rows_rung c_a1_rows_rowOf c_a1_rows_placeOf c_a1_rules_count c_a1_rules_firsts c_a1_rules_seconds c_a1_sights_count c_a1_sights_firsts c_a1_sights_seconds) := hD
  refine lv_aload_n hx hb dX8_takeFrom_49 rfl (lv_at hl 0 rfl) ?_
  refine va_get (D := (dC, dI)) (ci := 8) (v := .ref h_this_rows) (C := RX8) (T := TX8) (N := 7) hx hb hts in_X8_takeFrom_X8 hown hK hP 0 rfl rfl 4 (by decide) (hts _ m_X8_takeFrom_f27) (fun _ h9 => h9) rfl dX8_takeFrom_50 ?_
  refine lv_aload_n hx hb dX8_takeFrom_53 rfl (lv_at hl 1 rfl) ?_
  refine va_get (D := (dC, dI)) (ci := 8) (v := .ref h_a1_rows) (C := RX8) (T := TX8) (N := 7) hx hb hts in_X8_takeFrom_X8 hown hK hP 14 rfl rfl 4 (by decide) (hts _ m_X8_takeFrom_f27) (fun _ h9 => h9) rfl dX8_takeFrom_54 ?_
  obtain ⟨c_rows_rung_57, c_rows_rowOf_57, c_rows_placeOf_57, hv_57, hf⟩ := bd3_some hf
  refine kWv (rV (C := RX7) [.ref h_a1_rows] [] S (c_X7_takeFrom l dC dI cI cJ cZ h_this_rows h_this_rows_rowOf h_this_rows_placeOf h_a1_rows h_a1_rows_rowOf h_a1_rows_placeOf H.size c_rows_rung c_rows_rowOf c_rows_placeOf c_a1_rows_rung c_a1_rows_rowOf c_a1_rows_placeOf c_rows_rung_57 c_rows_rowOf_57 c_rows_placeOf_57 hv_57) (cwV 1 hts gX8_takeFrom_X7_takeFrom rfl rfl rfl (by decide +kernel) ⟨Nat.le_of_ble_eq_true rfl, Nat.le_of_ble_eq_true rfl⟩) (va_recv hK hP (ci := 7) (q0 := 5) rfl rfl) hP hD hK hN [5, 6, 7, 19, 20, 21] rfl (by decide +kernel) rfl hl.1 rfl (Nat.le_of_ble_eq_true rfl) dX8_takeFrom_57 ⟨Nat.le_of_ble_eq_true rfl, Nat.le_of_ble_eq_true rfl⟩) hP hD hS hA [5, 6, 7, 19, 20, 21] rfl rfl [none, none, none, none, none, some 0, some 1, some 2, none, none, none, none, none, none, none, none, none, none, none, some 3, some 4, some 5, none, none, none, none, none, none] (by decide +kernel) rfl (fun H locs hP hD hS => ?_)
  have hP : va_P (dC, dI) vwCl (w_X8_takeFrom cI cJ cZ h_this h_this_widths h_this_keys h_this_cells h_this_delays h_this_rows h_this_rows_rowOf h_this_rows_placeOf h_this_rules h_this_rules_firsts h_this_rules_seconds h_this_sights h_this_sights_firsts h_this_sights_seconds h_a1 h_a1_widths h_a1_keys h_a1_cells h_a1_delays h_a1_rows h_a1_rows_rowOf h_a1_rows_placeOf h_a1_rules h_a1_rules_firsts h_a1_rules_seconds h_a1_sights h_a1_sights_firsts h_a1_sights_seconds c_widths_13 c_keys_24 c_cells_35 c_delays_46 c_rows_rung_57 c_rows_rowOf_57 c_rows_placeOf_57 c_rules_count c_rules_firsts c_rules_seconds c_sights_count c_sights_firsts c_sights_seconds c_a1_widths c_a1_keys c_a1_cells c_a1_delays c_a1_rows_rung c_a1_rows_rowOf c_a1_rows_placeOf c_a1_rules_count c_a1_rules_firsts c_a1_rules_seconds c_a1_sights_count c_a1_sights_firsts c_a1_sights_seconds) H := hP
  have hD : va_D A (w_X8_takeFrom cI cJ cZ h_this h_this_widths h_this_keys h_this_cells h_this_delays h_this_rows h_this_rows_rowOf h_this_rows_placeOf h_this_rules h_this_rules_firsts h_this_rules_seconds h_this_sights h_this_sights_firsts h_this_sights_seconds h_a1 h_a1_widths h_a1_keys h_a1_cells h_a1_delays h_a1_rows h_a1_rows_rowOf h_a1_rows_placeOf h_a1_rules h_a1_rules_firsts h_a1_rules_seconds h_a1_sights h_a1_sights_firsts h_a1_sights_seconds c_widths_13 c_keys_24 c_cells_35 c_delays_46 c_rows_rung_57 c_rows_rowOf_57 c_rows_placeOf_57 c_rules_count c_rules_firsts c_rules_seconds c_sights_count c_sights_firsts c_sights_seconds c_a1_widths c_a1_keys c_a1_cells c_a1_delays c_a1_rows_rung c_a1_rows_rowOf c_a1_rows_placeOf c_a1_rules_count c_a1_rules_firsts c_a1_rules_seconds c_a1_sights_count c_a1_sights_firsts c_a1_sights_seconds) := hD
  refine lv_aload_n hx hb dX8_takeFrom_60 rfl (lv_at hl 0 rfl) ?_
  refine va_get (D := (dC, dI)) (ci := 8) (v := .ref h_this_rules) (C := RX8) (T := TX8) (N := 7) hx hb hts in_X8_takeFrom_X8 hown hK hP 0 rfl rfl 5 (by decide) (hts _ m_X8_takeFrom_f36) (fun _ h9 => h9) rfl dX8_takeFrom_61 ?_
  refine lv_aload_n hx hb dX8_takeFrom_64 rfl (lv_at hl 1 rfl) ?_
  refine va_get (D := (dC, dI)) (ci := 8) (v := .ref h_a1_rules) (C := RX8) (T := TX8) (N := 7) hx hb hts in_X8_takeFrom_X8 hown hK hP 14 rfl rfl 5 (by decide) (hts _ m_X8_takeFrom_f36) (fun _ h9 => h9) rfl dX8_takeFrom_65 ?_
  obtain ⟨c_rules_count_68, c_rules_firsts_68, c_rules_seconds_68, hv_68, hf⟩ := bd3_some hf
  refine kWv (rV (C := RX5) [.ref h_a1_rules] [] S (c_X5_takeFrom l dC dI cI cJ cZ h_this_rules h_this_rules_firsts h_this_rules_seconds h_a1_rules h_a1_rules_firsts h_a1_rules_seconds H.size 10 10 c_rules_count c_rules_firsts c_rules_seconds c_a1_rules_count c_a1_rules_firsts c_a1_rules_seconds c_rules_count_68 c_rules_firsts_68 c_rules_seconds_68 hv_68) (cwV 1 hts gX8_takeFrom_X5_takeFrom rfl rfl rfl (by decide +kernel) ⟨Nat.le_of_ble_eq_true rfl, Nat.le_of_ble_eq_true rfl⟩) (va_recv hK hP (ci := 5) (q0 := 8) rfl rfl) hP hD hK hN [8, 9, 10, 22, 23, 24] rfl (by decide +kernel) rfl hl.1 rfl (Nat.le_of_ble_eq_true rfl) dX8_takeFrom_68 ⟨Nat.le_of_ble_eq_true rfl, Nat.le_of_ble_eq_true rfl⟩) hP hD hS hA [8, 9, 10, 22, 23, 24] rfl rfl [none, none, none, none, none, none, none, none, some 0, some 1, some 2, none, none, none, none, none, none, none, none, none, none, none, some 3, some 4, some 5, none, none, none] (by decide +kernel) rfl (fun H locs hP hD hS => ?_)
  have hP : va_P (dC, dI) vwCl (w_X8_takeFrom cI cJ cZ h_this h_this_widths h_this_keys h_this_cells h_this_delays h_this_rows h_this_rows_rowOf h_this_rows_placeOf h_this_rules h_this_rules_firsts h_this_rules_seconds h_this_sights h_this_sights_firsts h_this_sights_seconds h_a1 h_a1_widths h_a1_keys h_a1_cells h_a1_delays h_a1_rows h_a1_rows_rowOf h_a1_rows_placeOf h_a1_rules h_a1_rules_firsts h_a1_rules_seconds h_a1_sights h_a1_sights_firsts h_a1_sights_seconds c_widths_13 c_keys_24 c_cells_35 c_delays_46 c_rows_rung_57 c_rows_rowOf_57 c_rows_placeOf_57 c_rules_count_68 c_rules_firsts_68 c_rules_seconds_68 c_sights_count c_sights_firsts c_sights_seconds c_a1_widths c_a1_keys c_a1_cells c_a1_delays c_a1_rows_rung c_a1_rows_rowOf c_a1_rows_placeOf c_a1_rules_count c_a1_rules_firsts c_a1_rules_seconds c_a1_sights_count c_a1_sights_firsts c_a1_sights_seconds) H := hP
  have hD : va_D A (w_X8_takeFrom cI cJ cZ h_this h_this_widths h_this_keys h_this_cells h_this_delays h_this_rows h_this_rows_rowOf h_this_rows_placeOf h_this_rules h_this_rules_firsts h_this_rules_seconds h_this_sights h_this_sights_firsts h_this_sights_seconds h_a1 h_a1_widths h_a1_keys h_a1_cells h_a1_delays h_a1_rows h_a1_rows_rowOf h_a1_rows_placeOf h_a1_rules h_a1_rules_firsts h_a1_rules_seconds h_a1_sights h_a1_sights_firsts h_a1_sights_seconds c_widths_13 c_keys_24 c_cells_35 c_delays_46 c_rows_rung_57 c_rows_rowOf_57 c_rows_placeOf_57 c_rules_count_68 c_rules_firsts_68 c_rules_seconds_68 c_sights_count c_sights_firsts c_sights_seconds c_a1_widths c_a1_keys c_a1_cells c_a1_delays c_a1_rows_rung c_a1_rows_rowOf c_a1_rows_placeOf c_a1_rules_count c_a1_rules_firsts c_a1_rules_seconds c_a1_sights_count c_a1_sights_firsts c_a1_sights_seconds) := hD
  refine lv_aload_n hx hb dX8_takeFrom_71 rfl (lv_at hl 0 rfl) ?_
  refine va_get (D := (dC, dI)) (ci := 8) (v := .ref h_this_sights) (C := RX8) (T := TX8) (N := 7) hx hb hts in_X8_takeFrom_X8 hown hK hP 0 rfl rfl 6 (by decide) (hts _ m_X8_takeFrom_f40) (fun _ h9 => h9) rfl dX8_takeFrom_72 ?_
  refine lv_aload_n hx hb dX8_takeFrom_75 rfl (lv_at hl 1 rfl) ?_
  refine va_get (D := (dC, dI)) (ci := 8) (v := .ref h_a1_sights) (C := RX8) (T := TX8) (N := 7) hx hb hts in_X8_takeFrom_X8 hown hK hP 14 rfl rfl 6 (by decide) (hts _ m_X8_takeFrom_f40) (fun _ h9 => h9) rfl dX8_takeFrom_76 ?_
  obtain ⟨c_sights_count_79, c_sights_firsts_79, c_sights_seconds_79, hv_79, hf⟩ := bd3_some hf
  refine kWv (rV (C := RX5) [.ref h_a1_sights] [] S (c_X5_takeFrom l dC dI cI cJ cZ h_this_sights h_this_sights_firsts h_this_sights_seconds h_a1_sights h_a1_sights_firsts h_a1_sights_seconds H.size 8 8 c_sights_count c_sights_firsts c_sights_seconds c_a1_sights_count c_a1_sights_firsts c_a1_sights_seconds c_sights_count_79 c_sights_firsts_79 c_sights_seconds_79 hv_79) (cwV 1 hts gX8_takeFrom_X5_takeFrom rfl rfl rfl (by decide +kernel) ⟨Nat.le_of_ble_eq_true rfl, Nat.le_of_ble_eq_true rfl⟩) (va_recv hK hP (ci := 5) (q0 := 11) rfl rfl) hP hD hK hN [11, 12, 13, 25, 26, 27] rfl (by decide +kernel) rfl hl.1 rfl (Nat.le_of_ble_eq_true rfl) dX8_takeFrom_79 ⟨Nat.le_of_ble_eq_true rfl, Nat.le_of_ble_eq_true rfl⟩) hP hD hS hA [11, 12, 13, 25, 26, 27] rfl rfl [none, none, none, none, none, none, none, none, none, none, none, some 0, some 1, some 2, none, none, none, none, none, none, none, none, none, none, none, some 3, some 4, some 5] (by decide +kernel) rfl (fun H locs hP hD hS => ?_)
  have hP : va_P (dC, dI) vwCl (w_X8_takeFrom cI cJ cZ h_this h_this_widths h_this_keys h_this_cells h_this_delays h_this_rows h_this_rows_rowOf h_this_rows_placeOf h_this_rules h_this_rules_firsts h_this_rules_seconds h_this_sights h_this_sights_firsts h_this_sights_seconds h_a1 h_a1_widths h_a1_keys h_a1_cells h_a1_delays h_a1_rows h_a1_rows_rowOf h_a1_rows_placeOf h_a1_rules h_a1_rules_firsts h_a1_rules_seconds h_a1_sights h_a1_sights_firsts h_a1_sights_seconds c_widths_13 c_keys_24 c_cells_35 c_delays_46 c_rows_rung_57 c_rows_rowOf_57 c_rows_placeOf_57 c_rules_count_68 c_rules_firsts_68 c_rules_seconds_68 c_sights_count_79 c_sights_firsts_79 c_sights_seconds_79 c_a1_widths c_a1_keys c_a1_cells c_a1_delays c_a1_rows_rung c_a1_rows_rowOf c_a1_rows_placeOf c_a1_rules_count c_a1_rules_firsts c_a1_rules_seconds c_a1_sights_count c_a1_sights_firsts c_a1_sights_seconds) H := hP
  have hD : va_D A (w_X8_takeFrom cI cJ cZ h_this h_this_widths h_this_keys h_this_cells h_this_delays h_this_rows h_this_rows_rowOf h_this_rows_placeOf h_this_rules h_this_rules_firsts h_this_rules_seconds h_this_sights h_this_sights_firsts h_this_sights_seconds h_a1 h_a1_widths h_a1_keys h_a1_cells h_a1_delays h_a1_rows h_a1_rows_rowOf h_a1_rows_placeOf h_a1_rules h_a1_rules_firsts h_a1_rules_seconds h_a1_sights h_a1_sights_firsts h_a1_sights_seconds c_widths_13 c_keys_24 c_cells_35 c_delays_46 c_rows_rung_57 c_rows_rowOf_57 c_rows_placeOf_57 c_rules_count_68 c_rules_firsts_68 c_rules_seconds_68 c_sights_count_79 c_sights_firsts_79 c_sights_seconds_79 c_a1_widths c_a1_keys c_a1_cells c_a1_delays c_a1_rows_rung c_a1_rows_rowOf c_a1_rows_placeOf c_a1_rules_count c_a1_rules_firsts c_a1_rules_seconds c_a1_sights_count c_a1_sights_firsts c_a1_sights_seconds) := hD
  have e_f := Option.some.inj hf
  cases e_f
  exact hret hP hD hS dX8_takeFrom_82
abbrev w_X8_startOf (cI cJ cZ : ClassId) (h_this h_this_delays h_this_rows h_this_rows_rowOf h_this_rows_placeOf g_this_widths g_this_keys g_this_cells g_this_rules g_this_sights : Nat) (c_delays : Nat → Int32) (c_rows_rung : Int32) (c_rows_rowOf : Nat → Int32) (c_rows_placeOf : Nat → Int32) : va_W := [(h_this, .inr (8, [.ref g_this_widths, .ref g_this_keys, .ref g_this_cells, .ref h_this_delays, .ref h_this_rows, .ref g_this_rules, .ref g_this_sights])), (h_this_delays, .inl (cI, 2, .inl c_delays)), (h_this_rows, .inr (7, [.ref h_this_rows_rowOf, .ref h_this_rows_placeOf, .int c_rows_rung])), (h_this_rows_rowOf, .inl (cI, 10, .inl c_rows_rowOf)), (h_this_rows_placeOf, .inl (cI, 10, .inl c_rows_placeOf))]
abbrev rm_X8_startOf : Room := { frames := 1, cells := 0, slots := 0, locals := 21 }
theorem m_X8_startOf_f21 : (.fieldLink RX8 21 "WovenRows$Town" "delays" "[I" : Cond) ∈ wsX8_startOf := by decide +kernel
theorem in_X8_startOf_X8 : ∀ w ∈ u_ws RX8 TX8 7, w ∈ wsX8_startOf := by decide +kernel
theorem m_X8_startOf_f27 : (.fieldLink RX8 27 "WovenRows$Town" "rows" "LWovenRows$Rows;" : Cond) ∈ wsX8_startOf := by decide +kernel
theorem in_X8_startOf_X7 : ∀ w ∈ u_ws RX7 TX7 3, w ∈ wsX8_startOf := by decide +kernel
theorem m_X8_startOf_iX10 : (.initialized RX10 : Cond) ∈ wsX8_startOf := by decide +kernel
theorem m_X8_startOf_st_X10_at : (.static yX10_at : Cond) ∈ wsX8_startOf := by decide +kernel
set_option maxRecDepth 100000 in
set_option maxHeartbeats 4000000 in
theorem c_X8_startOf (l : Launch) (dC : Nat → ClassId) (dI : Nat → Nat → Nat) (cI cJ cZ : ClassId) (h_this h_this_delays h_this_rows h_this_rows_rowOf h_this_rows_placeOf g_this_widths g_this_keys g_this_cells g_this_rules g_this_sights : Nat) (sz : Nat) (c_delays : Nat → Int32) (c_rows_rung : Int32) (c_rows_rowOf : Nat → Int32) (c_rows_placeOf : Nat → Int32) (l1 : Int32) (r : Int32) (hf : f_X8_startOf c_delays c_rows_rowOf c_rows_placeOf l1 = some r) : Met l yX8_startOf wsX8_startOf rm_X8_startOf (va_Pc [.ref h_this, .int l1] (PRE (dC, dI) (TY cI cJ cZ) sz (w_X8_startOf cI cJ cZ h_this h_this_delays h_this_rows h_this_rows_rowOf h_this_rows_placeOf g_this_widths g_this_keys g_this_cells g_this_rules g_this_sights c_delays c_rows_rung c_rows_rowOf c_rows_placeOf))) (vp_Si (fun r' => r' = r)) 0 0 (fun _ => False) := by
  refine ofSi (ty := .int) (by decide +kernel) rfl (Nat.le_of_ble_eq_true rfl) ?_
  intro p e s m args below meth c Z ls S hP hD hK hN hl hret
  obtain ⟨hx, hb, hml, hown, hts⟩ := id S
  have hown : s.vm.findClass RX8 = some m.cls := hown
  have hl : lv_has ls 2 [(0, .ref h_this), (1, .int l1)] := hl
  unfold f_X8_startOf at hf
  refine lv_aload_n hx hb dX8_startOf_0 rfl (lv_at hl 0 rfl) ?_
  refine va_get (D := (dC, dI)) (ci := 8) (v := .ref h_this_delays) (C := RX8) (T := TX8) (N := 7) hx hb hts in_X8_startOf_X8 hown hK hP 0 rfl rfl 3 (by decide) (hts _ m_X8_startOf_f21) (fun _ h9 => h9) rfl dX8_startOf_1 ?_
  refine lv_aload_n hx hb dX8_startOf_4 rfl (lv_at hl 0 rfl) ?_
  refine va_get (D := (dC, dI)) (ci := 8) (v := .ref h_this_rows) (C := RX8) (T := TX8) (N := 7) hx hb hts in_X8_startOf_X8 hown hK hP 0 rfl rfl 4 (by decide) (hts _ m_X8_startOf_f27) (fun _ h9 => h9) rfl dX8_startOf_5 ?_
  refine va_getN (D := (dC, dI)) (ci := 7) (v := .ref h_this_rows_rowOf) (C := RX7) (T := TX7) (N := 3) hx hb hts in_X8_startOf_X7 hown hK hP 2 rfl rfl 0 (by decide) (hN.f 3 rfl) (fun _ h9 => h9) rfl dX8_startOf_8 ?_
  refine lv_iload_n hx hb dX8_startOf_11 rfl (lv_at hl 1 rfl) ?_
  obtain ⟨r_12, hv_12, hf⟩ := bd1_some hf
  refine kSi (rSN (host := "WovenRows") [.ref h_this_rows_rowOf, .int l1] [.ref h_this_delays] S (c_X10_at l dC dI cI cJ cZ h_this_rows_rowOf s.heap.size 10 c_rows_rowOf l1 r_12 hv_12) ⟨va_cnB 2 hts gX8_startOf_X10_at_n61 rfl rfl rfl (hN.m 17 rfl) (hts _ m_X8_startOf_iX10) (by decide +kernel) ⟨Nat.le_of_ble_eq_true rfl, Nat.le_of_ble_eq_true rfl⟩, hts _ m_X8_startOf_st_X10_at, trivial⟩ hP hD hK hN [3] rfl (by decide +kernel) rfl hl.1 rfl (Nat.le_of_ble_eq_true rfl) dX8_startOf_12 ⟨Nat.le_of_ble_eq_true rfl, Nat.le_of_ble_eq_true rfl⟩) ?_
  obtain ⟨r_15, hv_15, hf⟩ := bd1_some hf
  refine kSi (rSN (host := "WovenRows") [.ref h_this_delays, .int r_12] [] S (c_X10_at l dC dI cI cJ cZ h_this_delays s.heap.size 2 c_delays r_12 r_15 hv_15) ⟨va_cnB 2 hts gX8_startOf_X10_at_n61 rfl rfl rfl (hN.m 17 rfl) (hts _ m_X8_startOf_iX10) (by decide +kernel) ⟨Nat.le_of_ble_eq_true rfl, Nat.le_of_ble_eq_true rfl⟩, hts _ m_X8_startOf_st_X10_at, trivial⟩ hP hD hK hN [1] rfl (by decide +kernel) rfl hl.1 rfl (Nat.le_of_ble_eq_true rfl) dX8_startOf_15 ⟨Nat.le_of_ble_eq_true rfl, Nat.le_of_ble_eq_true rfl⟩) ?_
  refine lv_aload_n hx hb dX8_startOf_18 rfl (lv_at hl 0 rfl) ?_
  refine va_get (D := (dC, dI)) (ci := 8) (v := .ref h_this_rows) (C := RX8) (T := TX8) (N := 7) hx hb hts in_X8_startOf_X8 hown hK hP 0 rfl rfl 4 (by decide) (hts _ m_X8_startOf_f27) (fun _ h9 => h9) rfl dX8_startOf_19 ?_
  refine va_getN (D := (dC, dI)) (ci := 7) (v := .ref h_this_rows_placeOf) (C := RX7) (T := TX7) (N := 3) hx hb hts in_X8_startOf_X7 hown hK hP 2 rfl rfl 1 (by decide) (hN.f 5 rfl) (fun _ h9 => h9) rfl dX8_startOf_22 ?_
  refine lv_iload_n hx hb dX8_startOf_25 rfl (lv_at hl 1 rfl) ?_
  obtain ⟨r_26, hv_26, hf⟩ := bd1_some hf
  refine kSi (rSN (host := "WovenRows") [.ref h_this_rows_placeOf, .int l1] [.int r_15] S (c_X10_at l dC dI cI cJ cZ h_this_rows_placeOf s.heap.size 10 c_rows_placeOf l1 r_26 hv_26) ⟨va_cnB 2 hts gX8_startOf_X10_at_n61 rfl rfl rfl (hN.m 17 rfl) (hts _ m_X8_startOf_iX10) (by decide +kernel) ⟨Nat.le_of_ble_eq_true rfl, Nat.le_of_ble_eq_true rfl⟩, hts _ m_X8_startOf_st_X10_at, trivial⟩ hP hD hK hN [4] rfl (by decide +kernel) rfl hl.1 rfl (Nat.le_of_ble_eq_true rfl) dX8_startOf_26 ⟨Nat.le_of_ble_eq_true rfl, Nat.le_of_ble_eq_true rfl⟩) ?_
  refine lv_iadd hx hb dX8_startOf_29 ?_
  have e_f := Option.some.inj hf
  cases e_f
  exact hret rfl dX8_startOf_30
abbrev w_X8_emptyFrom (cI cJ cZ : ClassId) (h_this h_this_delays h_this_rows h_this_rows_rowOf g_this_widths g_this_keys g_this_cells g_this_rules g_this_sights g_this_rows_placeOf : Nat) (c_delays : Nat → Int32) (c_rows_rung : Int32) (c_rows_rowOf : Nat → Int32) : va_W := [(h_this, .inr (8, [.ref g_this_widths, .ref g_this_keys, .ref g_this_cells, .ref h_this_delays, .ref h_this_rows, .ref g_this_rules, .ref g_this_sights])), (h_this_delays, .inl (cI, 2, .inl c_delays)), (h_this_rows, .inr (7, [.ref h_this_rows_rowOf, .ref g_this_rows_placeOf, .int c_rows_rung])), (h_this_rows_rowOf, .inl (cI, 10, .inl c_rows_rowOf))]
abbrev rm_X8_emptyFrom : Room := { frames := 1, cells := 0, slots := 0, locals := 23 }
theorem m_X8_emptyFrom_f27 : (.fieldLink RX8 27 "WovenRows$Town" "rows" "LWovenRows$Rows;" : Cond) ∈ wsX8_emptyFrom := by decide +kernel
theorem in_X8_emptyFrom_X8 : ∀ w ∈ u_ws RX8 TX8 7, w ∈ wsX8_emptyFrom := by decide +kernel
theorem m_X8_emptyFrom_f21 : (.fieldLink RX8 21 "WovenRows$Town" "delays" "[I" : Cond) ∈ wsX8_emptyFrom := by decide +kernel
theorem m_X8_emptyFrom_iX10 : (.initialized RX10 : Cond) ∈ wsX8_emptyFrom := by decide +kernel
theorem m_X8_emptyFrom_st_X10_at : (.static yX10_at : Cond) ∈ wsX8_emptyFrom := by decide +kernel
set_option maxRecDepth 100000 in
set_option maxHeartbeats 4000000 in
theorem c_X8_emptyFrom (l : Launch) (dC : Nat → ClassId) (dI : Nat → Nat → Nat) (cI cJ cZ : ClassId) (h_this h_this_delays h_this_rows h_this_rows_rowOf g_this_widths g_this_keys g_this_cells g_this_rules g_this_sights g_this_rows_placeOf : Nat) (sz : Nat) (c_delays : Nat → Int32) (c_rows_rung : Int32) (c_rows_rowOf : Nat → Int32) (l1 : Int32) (r : Int32) (hf : f_X8_emptyFrom c_delays c_rows_rowOf l1 = some r) : Met l yX8_emptyFrom wsX8_emptyFrom rm_X8_emptyFrom (va_Pc [.ref h_this, .int l1] (PRE (dC, dI) (TY cI cJ cZ) sz (w_X8_emptyFrom cI cJ cZ h_this h_this_delays h_this_rows h_this_rows_rowOf g_this_widths g_this_keys g_this_cells g_this_rules g_this_sights g_this_rows_placeOf c_delays c_rows_rung c_rows_rowOf))) (vp_Si (fun r' => r' = r)) 0 0 (fun _ => False) := by
  refine ofSi (ty := .int) (by decide +kernel) rfl (Nat.le_of_ble_eq_true rfl) ?_
  intro p e s m args below meth c Z ls S hP hD hK hN hl hret
  obtain ⟨hx, hb, hml, hown, hts⟩ := id S
  have hown : s.vm.findClass RX8 = some m.cls := hown
  have hl : lv_has ls 3 [(0, .ref h_this), (1, .int l1)] := hl
  unfold f_X8_emptyFrom at hf
  refine lv_aload_n hx hb dX8_emptyFrom_0 rfl (lv_at hl 0 rfl) ?_
  refine va_get (D := (dC, dI)) (ci := 8) (v := .ref h_this_rows) (C := RX8) (T := TX8) (N := 7) hx hb hts in_X8_emptyFrom_X8 hown hK hP 0 rfl rfl 4 (by decide) (hts _ m_X8_emptyFrom_f27) (fun _ h9 => h9) rfl dX8_emptyFrom_1 ?_
  refine lv_iload_n hx hb dX8_emptyFrom_4 rfl (lv_at hl 1 rfl) ?_
  obtain ⟨r_5, hv_5, hf⟩ := bd1_some hf
  refine kSi (rV (C := RX7) [.int l1] [] S (c_X7_lengthOf l dC dI cI cJ cZ h_this_rows h_this_rows_rowOf g_this_rows_placeOf s.heap.size c_rows_rung c_rows_rowOf l1 r_5 hv_5) (cwV 1 hts gX8_emptyFrom_X7_lengthOf rfl rfl rfl (by decide +kernel) ⟨Nat.le_of_ble_eq_true rfl, Nat.le_of_ble_eq_true rfl⟩) (va_recv hK hP (ci := 7) (q0 := 2) rfl rfl) hP hD hK hN [2, 3] rfl (by decide +kernel) rfl hl.1 rfl (Nat.le_of_ble_eq_true rfl) dX8_emptyFrom_5 ⟨Nat.le_of_ble_eq_true rfl, Nat.le_of_ble_eq_true rfl⟩) ?_
  refine lv_istore_n (lv' := [(2, .int r_5), (0, .ref h_this), (1, .int l1)]) hx hb dX8_emptyFrom_8 rfl hl (by decide) rfl (fun ls hl => ?_)
  refine lv_iload_n hx hb dX8_emptyFrom_9 rfl (lv_at hl 0 rfl) ?_
  refine lv_if_ne (tgt := 17) hx hb dX8_emptyFrom_10 (by decide) (fun k_10 => ?_) (fun k_10 => ?_)
  · have hf := ite_f hf k_10
    refine lv_aload_n hx hb dX8_emptyFrom_17 rfl (lv_at hl 1 rfl) ?_
    refine va_get (D := (dC, dI)) (ci := 8) (v := .ref h_this_delays) (C := RX8) (T := TX8) (N := 7) hx hb hts in_X8_emptyFrom_X8 hown hK hP 0 rfl rfl 3 (by decide) (hts _ m_X8_emptyFrom_f21) (fun _ h9 => h9) rfl dX8_emptyFrom_18 ?_
    refine lv_iload_n hx hb dX8_emptyFrom_21 rfl (lv_at hl 2 rfl) ?_
    obtain ⟨r_22, hv_22, hf⟩ := bd1_some hf
    refine kSi (rSN (host := "WovenRows") [.ref h_this_delays, .int l1] [] S (c_X10_at l dC dI cI cJ cZ h_this_delays s.heap.size 2 c_delays l1 r_22 hv_22) ⟨va_cnB 2 hts gX8_emptyFrom_X10_at_n61 rfl rfl rfl (hN.m 17 rfl) (hts _ m_X8_emptyFrom_iX10) (by decide +kernel) ⟨Nat.le_of_ble_eq_true rfl, Nat.le_of_ble_eq_true rfl⟩, hts _ m_X8_emptyFrom_st_X10_at, trivial⟩ hP hD hK hN [1] rfl (by decide +kernel) rfl hl.1 rfl (Nat.le_of_ble_eq_true rfl) dX8_emptyFrom_22 ⟨Nat.le_of_ble_eq_true rfl, Nat.le_of_ble_eq_true rfl⟩) ?_
    refine lv_iload_n hx hb dX8_emptyFrom_25 rfl (lv_at hl 0 rfl) ?_
    refine lv_iadd hx hb dX8_emptyFrom_26 ?_
    refine lv_iconst (v := 1) hx hb dX8_emptyFrom_27 (by decide) ?_
    refine lv_isub hx hb dX8_emptyFrom_28 ?_
    refine lv_bipush (v := 17) hx hb dX8_emptyFrom_29 (by decide) ?_
    refine lv_iadd hx hb dX8_emptyFrom_31 ?_
    have e_f := Option.some.inj hf
    cases e_f
    exact hret rfl dX8_emptyFrom_32
  · have hf := ite_t hf k_10
    refine lv_iconst (v := 0) hx hb dX8_emptyFrom_13 (by decide) ?_
    refine lv_goto (tgt := 32) hx hb dX8_emptyFrom_14 (by decide) ?_
    have e_f := Option.some.inj hf
    cases e_f
    exact hret rfl dX8_emptyFrom_32
abbrev w_X8_spotOf : va_W := []
abbrev rm_X8_spotOf : Room := { frames := 1, cells := 0, slots := 0, locals := 22 }
theorem m_X8_spotOf_iX10 : (.initialized RX10 : Cond) ∈ wsX8_spotOf := by decide +kernel
theorem m_X8_spotOf_st_X10_within : (.static yX10_within : Cond) ∈ wsX8_spotOf := by decide +kernel
set_option maxRecDepth 100000 in
set_option maxHeartbeats 4000000 in
theorem c_X8_spotOf (l : Launch) (dC : Nat → ClassId) (dI : Nat → Nat → Nat) (cI cJ cZ : ClassId) (sz : Nat) (l0 : Int32) (l1 : Int32) (r : Int32) (hf : f_X8_spotOf l0 l1 = some r) : Met l yX8_spotOf wsX8_spotOf rm_X8_spotOf (va_Pc [.int l0, .int l1] (PRE (dC, dI) (TY cI cJ cZ) sz w_X8_spotOf)) (vp_Si (fun r' => r' = r)) 0 0 (fun _ => False) := by
  refine ofSi (ty := .int) (by decide +kernel) rfl (Nat.le_of_ble_eq_true rfl) ?_
  intro p e s m args below meth c Z ls S hP hD hK hN hl hret
  obtain ⟨hx, hb, hml, hown, hts⟩ := id S
  have hown : s.vm.findClass RX8 = some m.cls := hown
  have hl : lv_has ls 3 [(0, .int l0), (1, .int l1)] := hl
  unfold f_X8_spotOf at hf
  refine lv_bipush (v := 16) hx hb dX8_spotOf_0 (by decide) ?_
  refine lv_iload_n hx hb dX8_spotOf_2 rfl (lv_at hl 1 rfl) ?_
  refine lv_iadd hx hb dX8_spotOf_3 ?_
  refine lv_iload_n hx hb dX8_spotOf_4 rfl (lv_at hl 0 rfl) ?_
  refine lv_isub hx hb dX8_spotOf_5 ?_
  refine lv_istore_n (lv' := [(2, .int ((16 + l1) - l0)), (0, .int l0), (1, .int l1)]) hx hb dX8_spotOf_6 rfl hl (by decide) rfl (fun ls hl => ?_)
  refine lv_iload_n hx hb dX8_spotOf_7 rfl (lv_at hl 0 rfl) ?_
  refine lv_iconst (v := 0) hx hb dX8_spotOf_8 (by decide) ?_
  refine lv_bipush (v := 32) hx hb dX8_spotOf_9 (by decide) ?_
  obtain ⟨r_11, hv_11, hf⟩ := bd1_some hf
  refine kSi (rSN (host := "WovenRows") [.int ((16 + l1) - l0), .int 0, .int 32] [] S (c_X10_within l dC dI cI cJ cZ s.heap.size ((16 + l1) - l0) 0 32 r_11 hv_11) ⟨va_cnB 3 hts gX8_spotOf_X10_within_n72 rfl rfl rfl (hN.m 18 rfl) (hts _ m_X8_spotOf_iX10) (by decide +kernel) ⟨Nat.le_of_ble_eq_true rfl, Nat.le_of_ble_eq_true rfl⟩, hts _ m_X8_spotOf_st_X10_within, trivial⟩ hP hD hK hN [] rfl (by decide +kernel) rfl hl.1 rfl (Nat.le_of_ble_eq_true rfl) dX8_spotOf_11 ⟨Nat.le_of_ble_eq_true rfl, Nat.le_of_ble_eq_true rfl⟩) ?_
  refine lv_if_eq (tgt := 21) hx hb dX8_spotOf_14 (by decide) (fun k_14 => ?_) (fun k_14 => ?_)
  · have hf := ite_t hf k_14
    refine lv_bipush (v := (-6)) hx hb dX8_spotOf_21 (by decide) ?_
    have e_f := Option.some.inj hf
    cases e_f
    exact hret rfl dX8_spotOf_23
  · have hf := ite_f hf k_14
    refine lv_iload_n hx hb dX8_spotOf_17 rfl (lv_at hl 0 rfl) ?_
    refine lv_goto (tgt := 23) hx hb dX8_spotOf_18 (by decide) ?_
    have e_f := Option.some.inj hf
    cases e_f
    exact hret rfl dX8_spotOf_23
abbrev w_X8_clash (cI cJ cZ : ClassId) (h_this h_this_widths h_this_cells g_this_keys g_this_delays g_this_rows g_this_rules g_this_sights : Nat) (c_widths : Nat → Int32) (c_cells : Nat → Int32) : va_W := [(h_this, .inr (8, [.ref h_this_widths, .ref g_this_keys, .ref h_this_cells, .ref g_this_delays, .ref g_this_rows, .ref g_this_rules, .ref g_this_sights])), (h_this_widths, .inl (cI, 10, .inl c_widths)), (h_this_cells, .inl (cI, 17, .inl c_cells))]
abbrev rm_X8_clash : Room := { frames := 1, cells := 0, slots := 0, locals := 21 }
theorem m_X8_clash_f18 : (.fieldLink RX8 18 "WovenRows$Town" "cells" "[I" : Cond) ∈ wsX8_clash := by decide +kernel
theorem in_X8_clash_X8 : ∀ w ∈ u_ws RX8 TX8 7, w ∈ wsX8_clash := by decide +kernel
theorem m_X8_clash_f9 : (.fieldLink RX8 9 "WovenRows$Town" "widths" "[I" : Cond) ∈ wsX8_clash := by decide +kernel
theorem m_X8_clash_iX10 : (.initialized RX10 : Cond) ∈ wsX8_clash := by decide +kernel
theorem m_X8_clash_st_X10_at : (.static yX10_at : Cond) ∈ wsX8_clash := by decide +kernel
theorem m_X8_clash_ml76 : (.methodLink RX8 76 Lib.Math.min.name : Cond) ∈ wsX8_clash := by decide +kernel
theorem m_X8_clash_st_min : (.static Lib.Math.min.name : Cond) ∈ wsX8_clash := by decide +kernel
theorem m_X8_clash_iM : (.initialized "java/lang/Math" : Cond) ∈ wsX8_clash := by decide +kernel
theorem m_X8_clash_co_min : (.code Lib.Math.min.name Lib.Math.min.code 2 (some .int) : Cond) ∈ wsX8_clash := by decide +kernel
set_option maxRecDepth 100000 in
set_option maxHeartbeats 4000000 in
theorem c_X8_clash (l : Launch) (dC : Nat → ClassId) (dI : Nat → Nat → Nat) (cI cJ cZ : ClassId) (h_this h_this_widths h_this_cells g_this_keys g_this_delays g_this_rows g_this_rules g_this_sights : Nat) (sz : Nat) (c_widths : Nat → Int32) (c_cells : Nat → Int32) (l1 : Int32) (l2 : Int32) (l3 : Int32) (r : Int32) (hf : f_X8_clash c_widths c_cells l1 l2 l3 = some r) : Met l yX8_clash wsX8_clash rm_X8_clash (va_Pc [.ref h_this, .int l1, .int l2, .int l3] (PRE (dC, dI) (TY cI cJ cZ) sz (w_X8_clash cI cJ cZ h_this h_this_widths h_this_cells g_this_keys g_this_delays g_this_rows g_this_rules g_this_sights c_widths c_cells))) (vp_Si (fun r' => r' = r)) 0 0 (fun _ => False) := by
  refine ofSi (ty := .boolean) (by decide +kernel) rfl (Nat.le_of_ble_eq_true rfl) ?_
  intro p e s m args below meth c Z ls S hP hD hK hN hl hret
  obtain ⟨hx, hb, hml, hown, hts⟩ := id S
  have hown : s.vm.findClass RX8 = some m.cls := hown
  have hl : lv_has ls 5 [(0, .ref h_this), (1, .int l1), (2, .int l2), (3, .int l3)] := hl
  unfold f_X8_clash at hf
  refine lv_iload_n hx hb dX8_clash_0 rfl (lv_at hl 1 rfl) ?_
  refine lv_bipush (v := (-6)) hx hb dX8_clash_1 (by decide) ?_
  refine lv_icmp_ne (tgt := 8) hx hb dX8_clash_3 (by decide) (fun k_3 => ?_) (fun k_3 => ?_)
  · have hf := ite_f hf k_3
    refine lv_aload_n hx hb dX8_clash_8 rfl (lv_at hl 0 rfl) ?_
    refine va_get (D := (dC, dI)) (ci := 8) (v := .ref h_this_cells) (C := RX8) (T := TX8) (N := 7) hx hb hts in_X8_clash_X8 hown hK hP 0 rfl rfl 2 (by decide) (hts _ m_X8_clash_f18) (fun _ h9 => h9) rfl dX8_clash_9 ?_
    refine lv_iload_n hx hb dX8_clash_12 rfl (lv_at hl 1 rfl) ?_
    refine lv_iconst (v := 2) hx hb dX8_clash_13 (by decide) ?_
    refine lv_idiv hx hb dX8_clash_14 (by decide) ?_
    obtain ⟨r_15, hv_15, hf⟩ := bd1_some hf
    refine kSi (rSN (host := "WovenRows") [.ref h_this_cells, .int (l1 / 2)] [] S (c_X10_at l dC dI cI cJ cZ h_this_cells s.heap.size 17 c_cells (l1 / 2) r_15 hv_15) ⟨va_cnB 2 hts gX8_clash_X10_at_n61 rfl rfl rfl (hN.m 17 rfl) (hts _ m_X8_clash_iX10) (by decide +kernel) ⟨Nat.le_of_ble_eq_true rfl, Nat.le_of_ble_eq_true rfl⟩, hts _ m_X8_clash_st_X10_at, trivial⟩ hP hD hK hN [2] rfl (by decide +kernel) rfl hl.1 rfl (Nat.le_of_ble_eq_true rfl) dX8_clash_15 ⟨Nat.le_of_ble_eq_true rfl, Nat.le_of_ble_eq_true rfl⟩) ?_
    refine lv_aload_n hx hb dX8_clash_18 rfl (lv_at hl 0 rfl) ?_
    refine va_get (D := (dC, dI)) (ci := 8) (v := .ref h_this_cells) (C := RX8) (T := TX8) (N := 7) hx hb hts in_X8_clash_X8 hown hK hP 0 rfl rfl 2 (by decide) (hts _ m_X8_clash_f18) (fun _ h9 => h9) rfl dX8_clash_19 ?_
    refine lv_iload_n hx hb dX8_clash_22 rfl (lv_at hl 1 rfl) ?_
    refine lv_iconst (v := 1) hx hb dX8_clash_23 (by decide) ?_
    refine lv_iadd hx hb dX8_clash_24 ?_
    refine lv_iconst (v := 2) hx hb dX8_clash_25 (by decide) ?_
    refine lv_idiv hx hb dX8_clash_26 (by decide) ?_
    obtain ⟨r_27, hv_27, hf⟩ := bd1_some hf
    refine kSi (rSN (host := "WovenRows") [.ref h_this_cells, .int ((l1 + 1) / 2)] [.int r_15] S (c_X10_at l dC dI cI cJ cZ h_this_cells s.heap.size 17 c_cells ((l1 + 1) / 2) r_27 hv_27) ⟨va_cnB 2 hts gX8_clash_X10_at_n61 rfl rfl rfl (hN.m 17 rfl) (hts _ m_X8_clash_iX10) (by decide +kernel) ⟨Nat.le_of_ble_eq_true rfl, Nat.le_of_ble_eq_true rfl⟩, hts _ m_X8_clash_st_X10_at, trivial⟩ hP hD hK hN [2] rfl (by decide +kernel) rfl hl.1 rfl (Nat.le_of_ble_eq_true rfl) dX8_clash_27 ⟨Nat.le_of_ble_eq_true rfl, Nat.le_of_ble_eq_true rfl⟩) ?_
    refine va_mmin hx hb (hml.trans hl.1.symm) hown (hts _ m_X8_clash_ml76) (hts _ m_X8_clash_st_min) (hts _ m_X8_clash_iM) (hts _ m_X8_clash_co_min) (Nat.le_of_ble_eq_true rfl) (Nat.le_of_ble_eq_true rfl) (Nat.le_of_ble_eq_true rfl) (Nat.le_of_ble_eq_true rfl) dX8_clash_30 ?_
    refine lv_istore (lv' := [(4, .int (if r_27 < r_15 then r_27 else r_15)), (0, .ref h_this), (1, .int l1), (2, .int l2), (3, .int l3)]) hx hb dX8_clash_33 hl (by decide) rfl (fun ls hl => ?_)
    refine lv_iload hx hb dX8_clash_35 (lv_at hl 0 rfl) ?_
    refine lv_aload_n hx hb dX8_clash_37 rfl (lv_at hl 1 rfl) ?_
    refine va_get (D := (dC, dI)) (ci := 8) (v := .ref h_this_widths) (C := RX8) (T := TX8) (N := 7) hx hb hts in_X8_clash_X8 hown hK hP 0 rfl rfl 0 (by decide) (hts _ m_X8_clash_f9) (fun _ h9 => h9) rfl dX8_clash_38 ?_
    refine lv_iload_n hx hb dX8_clash_41 rfl (lv_at hl 3 rfl) ?_
    obtain ⟨r_42, hv_42, hf⟩ := bd1_some hf
    refine kSi (rSN (host := "WovenRows") [.ref h_this_widths, .int l2] [.int (if r_27 < r_15 then r_27 else r_15)] S (c_X10_at l dC dI cI cJ cZ h_this_widths s.heap.size 10 c_widths l2 r_42 hv_42) ⟨va_cnB 2 hts gX8_clash_X10_at_n61 rfl rfl rfl (hN.m 17 rfl) (hts _ m_X8_clash_iX10) (by decide +kernel) ⟨Nat.le_of_ble_eq_true rfl, Nat.le_of_ble_eq_true rfl⟩, hts _ m_X8_clash_st_X10_at, trivial⟩ hP hD hK hN [1] rfl (by decide +kernel) rfl hl.1 rfl (Nat.le_of_ble_eq_true rfl) dX8_clash_42 ⟨Nat.le_of_ble_eq_true rfl, Nat.le_of_ble_eq_true rfl⟩) ?_
    refine lv_aload_n hx hb dX8_clash_45 rfl (lv_at hl 1 rfl) ?_
    refine va_get (D := (dC, dI)) (ci := 8) (v := .ref h_this_widths) (C := RX8) (T := TX8) (N := 7) hx hb hts in_X8_clash_X8 hown hK hP 0 rfl rfl 0 (by decide) (hts _ m_X8_clash_f9) (fun _ h9 => h9) rfl dX8_clash_46 ?_
    refine lv_iload_n hx hb dX8_clash_49 rfl (lv_at hl 4 rfl) ?_
    obtain ⟨r_50, hv_50, hf⟩ := bd1_some hf
    refine kSi (rSN (host := "WovenRows") [.ref h_this_widths, .int l3] [.int r_42, .int (if r_27 < r_15 then r_27 else r_15)] S (c_X10_at l dC dI cI cJ cZ h_this_widths s.heap.size 10 c_widths l3 r_50 hv_50) ⟨va_cnB 2 hts gX8_clash_X10_at_n61 rfl rfl rfl (hN.m 17 rfl) (hts _ m_X8_clash_iX10) (by decide +kernel) ⟨Nat.le_of_ble_eq_true rfl, Nat.le_of_ble_eq_true rfl⟩, hts _ m_X8_clash_st_X10_at, trivial⟩ hP hD hK hN [1] rfl (by decide +kernel) rfl hl.1 rfl (Nat.le_of_ble_eq_true rfl) dX8_clash_50 ⟨Nat.le_of_ble_eq_true rfl, Nat.le_of_ble_eq_true rfl⟩) ?_
    refine lv_iadd hx hb dX8_clash_53 ?_
    refine lv_icmp_ge (tgt := 61) hx hb dX8_clash_54 (by decide) (fun k_54 => ?_) (fun k_54 => ?_)
    · have hf := ite_t hf k_54
      refine lv_iconst (v := 0) hx hb dX8_clash_61 (by decide) ?_
      have e_f := Option.some.inj hf
      cases e_f
      exact hret rfl dX8_clash_62
    · have hf := ite_f hf k_54
      refine lv_iconst (v := 1) hx hb dX8_clash_57 (by decide) ?_
      refine lv_goto (tgt := 62) hx hb dX8_clash_58 (by decide) ?_
      have e_f := Option.some.inj hf
      cases e_f
      exact hret rfl dX8_clash_62
  · have hf := ite_t hf k_3
    refine lv_iconst (v := 0) hx hb dX8_clash_6 (by decide) ?_
    have e_f := Option.some.inj hf
    cases e_f
    exact hret rfl dX8_clash_7
abbrev w_X8_clashesIn (cI cJ cZ : ClassId) (h_this h_this_widths h_this_cells h_this_delays h_this_rows h_this_rows_rowOf h_this_rows_placeOf g_this_keys g_this_rules g_this_sights : Nat) (c_widths : Nat → Int32) (c_cells : Nat → Int32) (c_delays : Nat → Int32) (c_rows_rung : Int32) (c_rows_rowOf : Nat → Int32) (c_rows_placeOf : Nat → Int32) : va_W := [(h_this, .inr (8, [.ref h_this_widths, .ref g_this_keys, .ref h_this_cells, .ref h_this_delays, .ref h_this_rows, .ref g_this_rules, .ref g_this_sights])), (h_this_widths, .inl (cI, 10, .inl c_widths)), (h_this_cells, .inl (cI, 17, .inl c_cells)), (h_this_delays, .inl (cI, 2, .inl c_delays)), (h_this_rows, .inr (7, [.ref h_this_rows_rowOf, .ref h_this_rows_placeOf, .int c_rows_rung])), (h_this_rows_rowOf, .inl (cI, 10, .inl c_rows_rowOf)), (h_this_rows_placeOf, .inl (cI, 10, .inl c_rows_placeOf))]
abbrev rm_X8_clashesIn : Room := { frames := 2, cells := 0, slots := 0, locals := 45 }
theorem m_X8_clashesIn_f21 : (.fieldLink RX8 21 "WovenRows$Town" "delays" "[I" : Cond) ∈ wsX8_clashesIn := by decide +kernel
theorem in_X8_clashesIn_X8 : ∀ w ∈ u_ws RX8 TX8 7, w ∈ wsX8_clashesIn := by decide +kernel
theorem m_X8_clashesIn_f27 : (.fieldLink RX8 27 "WovenRows$Town" "rows" "LWovenRows$Rows;" : Cond) ∈ wsX8_clashesIn := by decide +kernel
theorem in_X8_clashesIn_X7 : ∀ w ∈ u_ws RX7 TX7 3, w ∈ wsX8_clashesIn := by decide +kernel
theorem m_X8_clashesIn_iX10 : (.initialized RX10 : Cond) ∈ wsX8_clashesIn := by decide +kernel
theorem m_X8_clashesIn_st_X10_at : (.static yX10_at : Cond) ∈ wsX8_clashesIn := by decide +kernel
set_option maxRecDepth 100000 in
set_option maxHeartbeats 4000000 in
theorem c_X8_clashesIn (l : Launch) (dC : Nat → ClassId) (dI : Nat → Nat → Nat) (cI cJ cZ : ClassId) (h_this h_this_widths h_this_cells h_this_delays h_this_rows h_this_rows_rowOf h_this_rows_placeOf g_this_keys g_this_rules g_this_sights : Nat) (sz : Nat) (c_widths : Nat → Int32) (c_cells : Nat → Int32) (c_delays : Nat → Int32) (c_rows_rung : Int32) (c_rows_rowOf : Nat → Int32) (c_rows_placeOf : Nat → Int32) (l1 : Int32) (l2 : Int32) (l3 : Int32) (r : Int32) (hf : f_X8_clashesIn c_widths c_cells c_delays c_rows_rowOf c_rows_placeOf l1 l2 l3 = some r) : Met l yX8_clashesIn wsX8_clashesIn rm_X8_clashesIn (va_Pc [.ref h_this, .int l1, .int l2, .int l3] (PRE (dC, dI) (TY cI cJ cZ) sz (w_X8_clashesIn cI cJ cZ h_this h_this_widths h_this_cells h_this_delays h_this_rows h_this_rows_rowOf h_this_rows_placeOf g_this_keys g_this_rules g_this_sights c_widths c_cells c_delays c_rows_rung c_rows_rowOf c_rows_placeOf))) (vp_Si (fun r' => r' = r)) 0 0 (fun _ => False) := by
  refine ofSi (ty := .int) (by decide +kernel) rfl (Nat.le_of_ble_eq_true rfl) ?_
  intro p e s m args below meth c Z ls S hP hD hK hN hl hret
  obtain ⟨hx, hb, hml, hown, hts⟩ := id S
  have hown : s.vm.findClass RX8 = some m.cls := hown
  have hl : lv_has ls 8 [(0, .ref h_this), (1, .int l1), (2, .int l2), (3, .int l3)] := hl
  unfold f_X8_clashesIn at hf
  refine lv_aload_n hx hb dX8_clashesIn_0 rfl (lv_at hl 0 rfl) ?_
  refine va_get (D := (dC, dI)) (ci := 8) (v := .ref h_this_delays) (C := RX8) (T := TX8) (N := 7) hx hb hts in_X8_clashesIn_X8 hown hK hP 0 rfl rfl 3 (by decide) (hts _ m_X8_clashesIn_f21) (fun _ h9 => h9) rfl dX8_clashesIn_1 ?_
  refine lv_iload_n hx hb dX8_clashesIn_4 rfl (lv_at hl 1 rfl) ?_
  obtain ⟨r_5, hv_5, hf⟩ := bd1_some hf
  refine kSi (rSN (host := "WovenRows") [.ref h_this_delays, .int l1] [] S (c_X10_at l dC dI cI cJ cZ h_this_delays s.heap.size 2 c_delays l1 r_5 hv_5) ⟨va_cnB 2 hts gX8_clashesIn_X10_at_n61 rfl rfl rfl (hN.m 17 rfl) (hts _ m_X8_clashesIn_iX10) (by decide +kernel) ⟨Nat.le_of_ble_eq_true rfl, Nat.le_of_ble_eq_true rfl⟩, hts _ m_X8_clashesIn_st_X10_at, trivial⟩ hP hD hK hN [3] rfl (by decide +kernel) rfl hl.1 rfl (Nat.le_of_ble_eq_true rfl) dX8_clashesIn_5 ⟨Nat.le_of_ble_eq_true rfl, Nat.le_of_ble_eq_true rfl⟩) ?_
  refine lv_iload_n hx hb dX8_clashesIn_8 rfl (lv_at hl 2 rfl) ?_
  refine lv_iadd hx hb dX8_clashesIn_9 ?_
  refine lv_istore (lv' := [(4, .int (r_5 + l2)), (0, .ref h_this), (1, .int l1), (2, .int l2), (3, .int l3)]) hx hb dX8_clashesIn_10 hl (by decide) rfl (fun ls hl => ?_)
  refine lv_iconst (v := 0) hx hb dX8_clashesIn_12 (by decide) ?_
  refine lv_istore (lv' := [(5, .int 0), (4, .int (r_5 + l2)), (0, .ref h_this), (1, .int l1), (2, .int l2), (3, .int l3)]) hx hb dX8_clashesIn_13 hl (by decide) rfl (fun ls hl => ?_)
  refine lv_iconst (v := 0) hx hb dX8_clashesIn_15 (by decide) ?_
  refine lv_istore (lv' := [(6, .int 0), (5, .int 0), (4, .int (r_5 + l2)), (0, .ref h_this), (1, .int l1), (2, .int l2), (3, .int l3)]) hx hb dX8_clashesIn_16 hl (by decide) rfl (fun ls hl => ?_)
  obtain ⟨l5_18x, l6_18x, hq_18, hf⟩ := bd2_some hf
  have K_18 : ∀ (ls : Array Slot), lv_has ls 8 [(5, .int l5_18x)] → W p l e rm_X8_clashesIn s m args below meth c s.heap [] 0 0 Z (F0 m 98 ls []) := by
    intro ls hl
    refine lv_iload hx hb dX8_clashesIn_98 (lv_at hl 0 rfl) ?_
    have e_f := Option.some.inj hf
    cases e_f
    exact hret rfl dX8_clashesIn_100
  have L_18 : ∀ (n : Nat) (l5_18 : Int32) (l6_18 : Int32) (ls : Array Slot), lv_has ls 8 [(0, .ref h_this), (1, .int l1), (3, .int l3), (4, .int (r_5 + l2)), (5, .int l5_18), (6, .int l6_18)] → loopN (fun (q : Int32 × Int32) => f_X8_clashesIn_b18 c_widths c_cells c_delays c_rows_rowOf c_rows_placeOf l1 l3 q.1 q.2 (r_5 + l2)) n (l5_18, l6_18) = some (l5_18x, l6_18x) → W p l e rm_X8_clashesIn s m args below meth c s.heap [] 0 0 Z (F0 m 18 ls []) := by
    intro n
    induction n with
    | zero => intro l5_18 l6_18 ls hl hq; exact (loopN_zero hq).elim
    | succ n ih_18 =>
      intro l5_18 l6_18 ls hl hq
      obtain ⟨o_18, hf, ho1_18, ho2_18⟩ := loopN_step hq
      have hf : f_X8_clashesIn_b18 c_widths c_cells c_delays c_rows_rowOf c_rows_placeOf l1 l3 l5_18 l6_18 (r_5 + l2) = some o_18 := hf
      unfold f_X8_clashesIn_b18 at hf
      have J_75 : ∀ (l5_75j : Int32) (l6_75j : Int32) (s0_75j : Int32) (ls : Array Slot), lv_has ls 8 [(0, .ref h_this), (1, .int l1), (3, .int l3), (4, .int (r_5 + l2)), (5, .int l5_75j), (6, .int l6_75j)] → f_X8_clashesIn_j75 c_widths c_cells l3 l5_75j l6_75j s0_75j = some o_18 → W p l e rm_X8_clashesIn s m args below meth c s.heap [] 0 0 Z (F0 m 75 ls [.int s0_75j]) := by
        intro l5_75j l6_75j s0_75j ls hl hf
        unfold f_X8_clashesIn_j75 at hf
        refine lv_istore (lv' := [(7, .int s0_75j), (0, .ref h_this), (1, .int l1), (3, .int l3), (4, .int (r_5 + l2)), (5, .int l5_75j), (6, .int l6_75j)]) hx hb dX8_clashesIn_75 hl (by decide) rfl (fun ls hl => ?_)
        refine lv_aload_n hx hb dX8_clashesIn_77 rfl (lv_at hl 1 rfl) ?_
        refine lv_iload hx hb dX8_clashesIn_78 (lv_at hl 0 rfl) ?_
        refine lv_iload_n hx hb dX8_clashesIn_80 rfl (lv_at hl 3 rfl) ?_
        refine lv_iload hx hb dX8_clashesIn_81 (lv_at hl 6 rfl) ?_
        obtain ⟨r_83, hv_83, hf⟩ := bd1_some hf
        refine kSi (rV (C := RX8) [.int s0_75j, .int l3, .int l6_75j] [] S (c_X8_clash l dC dI cI cJ cZ h_this h_this_widths h_this_cells g_this_keys h_this_delays h_this_rows g_this_rules g_this_sights s.heap.size c_widths c_cells s0_75j l3 l6_75j r_83 hv_83) (cwV 3 hts gX8_clashesIn_X8_clash rfl rfl rfl (by decide +kernel) ⟨Nat.le_of_ble_eq_true rfl, Nat.le_of_ble_eq_true rfl⟩) (va_recv hK hP (ci := 8) (q0 := 0) rfl rfl) hP hD hK hN [0, 1, 2] rfl (by decide +kernel) rfl hl.1 rfl (Nat.le_of_ble_eq_true rfl) dX8_clashesIn_83 ⟨Nat.le_of_ble_eq_true rfl, Nat.le_of_ble_eq_true rfl⟩) ?_
        refine lv_if_eq (tgt := 92) hx hb dX8_clashesIn_86 (by decide) (fun k_86 => ?_) (fun k_86 => ?_)
        · have hf := ite_t hf k_86
          refine lv_iinc (v := (l6_75j + 1)) (lv' := [(6, .int (l6_75j + 1)), (7, .int s0_75j), (0, .ref h_this), (1, .int l1), (3, .int l3), (4, .int (r_5 + l2)), (5, .int l5_75j)]) hx hb dX8_clashesIn_92 hl (k := 6) rfl rfl (by decide) rfl (fun ls hl => ?_)
          refine lv_goto (tgt := 18) hx hb dX8_clashesIn_95 (by decide) ?_
          exact ih_18 l5_75j (l6_75j + 1) ls (lv_sub hl [2, 3, 4, 5, 6, 0] rfl) (ho1_18 _ (Option.some.inj hf).symm)
        · have hf := ite_f hf k_86
          refine lv_iinc (v := (l5_75j + 1)) (lv' := [(5, .int (l5_75j + 1)), (7, .int s0_75j), (0, .ref h_this), (1, .int l1), (3, .int l3), (4, .int (r_5 + l2)), (6, .int l6_75j)]) hx hb dX8_clashesIn_89 hl (k := 5) rfl rfl (by decide) rfl (fun ls hl => ?_)
          refine lv_iinc (v := (l6_75j + 1)) (lv' := [(6, .int (l6_75j + 1)), (5, .int (l5_75j + 1)), (7, .int s0_75j), (0, .ref h_this), (1, .int l1), (3, .int l3), (4, .int (r_5 + l2))]) hx hb dX8_clashesIn_92 hl (k := 6) rfl rfl (by decide) rfl (fun ls hl => ?_)
          refine lv_goto (tgt := 18) hx hb dX8_clashesIn_95 (by decide) ?_
          exact ih_18 (l5_75j + 1) (l6_75j + 1) ls (lv_sub hl [3, 4, 5, 6, 1, 0] rfl) (ho1_18 _ (Option.some.inj hf).symm)
      refine lv_iload hx hb dX8_clashesIn_18 (lv_at hl 5 rfl) ?_
      refine lv_bipush (v := 10) hx hb dX8_clashesIn_20 (by decide) ?_
      refine lv_icmp_ge (tgt := 98) hx hb dX8_clashesIn_22 (by decide) (fun k_22 => ?_) (fun k_22 => ?_)
      · have hf := ite_t hf k_22
        have e_18 := ho2_18 _ (Option.some.inj hf).symm
        cases e_18
        exact K_18 ls (lv_sub hl [4] rfl)
      · have hf := ite_f hf k_22
        refine lv_aload_n hx hb dX8_clashesIn_25 rfl (lv_at hl 0 rfl) ?_
        refine va_get (D := (dC, dI)) (ci := 8) (v := .ref h_this_rows) (C := RX8) (T := TX8) (N := 7) hx hb hts in_X8_clashesIn_X8 hown hK hP 0 rfl rfl 4 (by decide) (hts _ m_X8_clashesIn_f27) (fun _ h9 => h9) rfl dX8_clashesIn_26 ?_
        refine va_getN (D := (dC, dI)) (ci := 7) (v := .ref h_this_rows_rowOf) (C := RX7) (T := TX7) (N := 3) hx hb hts in_X8_clashesIn_X7 hown hK hP 4 rfl rfl 0 (by decide) (hN.f 3 rfl) (fun _ h9 => h9) rfl dX8_clashesIn_29 ?_
        refine lv_iload hx hb dX8_clashesIn_32 (lv_at hl 5 rfl) ?_
        obtain ⟨r_34, hv_34, hf⟩ := bd1_some hf
        refine kSi (rSN (host := "WovenRows") [.ref h_this_rows_rowOf, .int l6_18] [] S (c_X10_at l dC dI cI cJ cZ h_this_rows_rowOf s.heap.size 10 c_rows_rowOf l6_18 r_34 hv_34) ⟨va_cnB 2 hts gX8_clashesIn_X10_at_n61 rfl rfl rfl (hN.m 17 rfl) (hts _ m_X8_clashesIn_iX10) (by decide +kernel) ⟨Nat.le_of_ble_eq_true rfl, Nat.le_of_ble_eq_true rfl⟩, hts _ m_X8_clashesIn_st_X10_at, trivial⟩ hP hD hK hN [5] rfl (by decide +kernel) rfl hl.1 rfl (Nat.le_of_ble_eq_true rfl) dX8_clashesIn_34 ⟨Nat.le_of_ble_eq_true rfl, Nat.le_of_ble_eq_true rfl⟩) ?_
        refine lv_iconst (v := 1) hx hb dX8_clashesIn_37 (by decide) ?_
        refine lv_iload_n hx hb dX8_clashesIn_38 rfl (lv_at hl 1 rfl) ?_
        refine lv_isub hx hb dX8_clashesIn_39 ?_
        refine lv_icmp_eq (tgt := 46) hx hb dX8_clashesIn_40 (by decide) (fun k_40 => ?_) (fun k_40 => ?_)
        · have hf := ite_t hf k_40
          refine lv_iload_n hx hb dX8_clashesIn_46 rfl (lv_at hl 1 rfl) ?_
          refine lv_if_ne (tgt := 64) hx hb dX8_clashesIn_47 (by decide) (fun k_47 => ?_) (fun k_47 => ?_)
          · have hf := ite_f hf k_47
            refine lv_aload_n hx hb dX8_clashesIn_64 rfl (lv_at hl 0 rfl) ?_
            refine lv_iload hx hb dX8_clashesIn_65 (lv_at hl 5 rfl) ?_
            obtain ⟨r_67, hv_67, hf⟩ := bd1_some hf
            refine kSi (rV (C := RX8) [.int l6_18] [] S (c_X8_startOf l dC dI cI cJ cZ h_this h_this_delays h_this_rows h_this_rows_rowOf h_this_rows_placeOf h_this_widths g_this_keys h_this_cells g_this_rules g_this_sights s.heap.size c_delays c_rows_rung c_rows_rowOf c_rows_placeOf l6_18 r_67 hv_67) (cwV 1 hts gX8_clashesIn_X8_startOf rfl rfl rfl (by decide +kernel) ⟨Nat.le_of_ble_eq_true rfl, Nat.le_of_ble_eq_true rfl⟩) (va_recv hK hP (ci := 8) (q0 := 0) rfl rfl) hP hD hK hN [0, 3, 4, 5, 6] rfl (by decide +kernel) rfl hl.1 rfl (Nat.le_of_ble_eq_true rfl) dX8_clashesIn_67 ⟨Nat.le_of_ble_eq_true rfl, Nat.le_of_ble_eq_true rfl⟩) ?_
            refine lv_iload hx hb dX8_clashesIn_70 (lv_at hl 3 rfl) ?_
            obtain ⟨r_72, hv_72, hf⟩ := bd1_some hf
            refine kSi (rS [.int r_67, .int (r_5 + l2)] [] S (c_X8_spotOf l dC dI cI cJ cZ s.heap.size r_67 (r_5 + l2) r_72 hv_72) (va_cwS 2 hts gX8_clashesIn_X8_spotOf rfl rfl rfl (by decide +kernel) ⟨Nat.le_of_ble_eq_true rfl, Nat.le_of_ble_eq_true rfl⟩) hP hD hK hN [] rfl (by decide +kernel) rfl hl.1 rfl (Nat.le_of_ble_eq_true rfl) dX8_clashesIn_72 ⟨Nat.le_of_ble_eq_true rfl, Nat.le_of_ble_eq_true rfl⟩) ?_
            exact J_75 l5_18 l6_18 r_72 ls (lv_sub hl [0, 1, 2, 3, 4, 5] rfl) hf
          · have hf := ite_t hf k_47
            refine lv_iload hx hb dX8_clashesIn_50 (lv_at hl 3 rfl) ?_
            refine lv_aload_n hx hb dX8_clashesIn_52 rfl (lv_at hl 0 rfl) ?_
            refine lv_iload hx hb dX8_clashesIn_53 (lv_at hl 5 rfl) ?_
            obtain ⟨r_55, hv_55, hf⟩ := bd1_some hf
            refine kSi (rV (C := RX8) [.int l6_18] [.int (r_5 + l2)] S (c_X8_startOf l dC dI cI cJ cZ h_this h_this_delays h_this_rows h_this_rows_rowOf h_this_rows_placeOf h_this_widths g_this_keys h_this_cells g_this_rules g_this_sights s.heap.size c_delays c_rows_rung c_rows_rowOf c_rows_placeOf l6_18 r_55 hv_55) (cwV 1 hts gX8_clashesIn_X8_startOf rfl rfl rfl (by decide +kernel) ⟨Nat.le_of_ble_eq_true rfl, Nat.le_of_ble_eq_true rfl⟩) (va_recv hK hP (ci := 8) (q0 := 0) rfl rfl) hP hD hK hN [0, 3, 4, 5, 6] rfl (by decide +kernel) rfl hl.1 rfl (Nat.le_of_ble_eq_true rfl) dX8_clashesIn_55 ⟨Nat.le_of_ble_eq_true rfl, Nat.le_of_ble_eq_true rfl⟩) ?_
            obtain ⟨r_58, hv_58, hf⟩ := bd1_some hf
            refine kSi (rS [.int (r_5 + l2), .int r_55] [] S (c_X8_spotOf l dC dI cI cJ cZ s.heap.size (r_5 + l2) r_55 r_58 hv_58) (va_cwS 2 hts gX8_clashesIn_X8_spotOf rfl rfl rfl (by decide +kernel) ⟨Nat.le_of_ble_eq_true rfl, Nat.le_of_ble_eq_true rfl⟩) hP hD hK hN [] rfl (by decide +kernel) rfl hl.1 rfl (Nat.le_of_ble_eq_true rfl) dX8_clashesIn_58 ⟨Nat.le_of_ble_eq_true rfl, Nat.le_of_ble_eq_true rfl⟩) ?_
            refine lv_goto (tgt := 75) hx hb dX8_clashesIn_61 (by decide) ?_
            exact J_75 l5_18 l6_18 r_58 ls (lv_sub hl [0, 1, 2, 3, 4, 5] rfl) hf
        · have hf := ite_f hf k_40
          refine lv_goto (tgt := 92) hx hb dX8_clashesIn_43 (by decide) ?_
          refine lv_iinc (v := (l6_18 + 1)) (lv' := [(6, .int (l6_18 + 1)), (0, .ref h_this), (1, .int l1), (3, .int l3), (4, .int (r_5 + l2)), (5, .int l5_18)]) hx hb dX8_clashesIn_92 hl (k := 5) rfl rfl (by decide) rfl (fun ls hl => ?_)
          refine lv_goto (tgt := 18) hx hb dX8_clashesIn_95 (by decide) ?_
          exact ih_18 l5_18 (l6_18 + 1) ls (lv_sub hl [1, 2, 3, 4, 5, 0] rfl) (ho1_18 _ (Option.some.inj hf).symm)
  exact L_18 FU 0 0 ls (lv_sub hl [3, 4, 6, 2, 1, 0] rfl) hq_18
abbrev w_X6_play (cI cJ cZ : ClassId) (h_this h_a1 h_a1_signs h_a2 h_a2_widths h_a2_keys h_a2_cells h_a2_delays h_a2_rows h_a2_rows_rowOf h_a2_rows_placeOf h_a2_rules h_a2_rules_firsts h_a2_rules_seconds h_a2_sights h_a2_sights_firsts h_a2_sights_seconds h_a3 h_a3_widths h_a3_keys h_a3_cells h_a3_delays h_a3_rows h_a3_rows_rowOf h_a3_rows_placeOf h_a3_rules h_a3_rules_firsts h_a3_rules_seconds h_a3_sights h_a3_sights_firsts h_a3_sights_seconds : Nat) (c_acts : Int32) (c_why : Int32) (c_a1_count : Int32) (c_a1_signs : Nat → Int32) (c_a2_widths : Nat → Int32) (c_a2_keys : Nat → Int32) (c_a2_cells : Nat → Int32) (c_a2_delays : Nat → Int32) (c_a2_rows_rung : Int32) (c_a2_rows_rowOf : Nat → Int32) (c_a2_rows_placeOf : Nat → Int32) (c_a2_rules_count : Int32) (c_a2_rules_firsts : Nat → Int32) (c_a2_rules_seconds : Nat → Int32) (c_a2_sights_count : Int32) (c_a2_sights_firsts : Nat → Int32) (c_a2_sights_seconds : Nat → Int32) (c_a3_widths : Nat → Int32) (c_a3_keys : Nat → Int32) (c_a3_cells : Nat → Int32) (c_a3_delays : Nat → Int32) (c_a3_rows_rung : Int32) (c_a3_rows_rowOf : Nat → Int32) (c_a3_rows_placeOf : Nat → Int32) (c_a3_rules_count : Int32) (c_a3_rules_firsts : Nat → Int32) (c_a3_rules_seconds : Nat → Int32) (c_a3_sights_count : Int32) (c_a3_sights_firsts : Nat → Int32) (c_a3_sights_seconds : Nat → Int32) : va_W := [(h_this, .inr (6, [.int c_acts, .int c_why])), (h_a1, .inr (4, [.ref h_a1_signs, .int c_a1_count])), (h_a1_signs, .inl (cI, 60, .inl c_a1_signs)), (h_a2, .inr (8, [.ref h_a2_widths, .ref h_a2_keys, .ref h_a2_cells, .ref h_a2_delays, .ref h_a2_rows, .ref h_a2_rules, .ref h_a2_sights])), (h_a2_widths, .inl (cI, 10, .inl c_a2_widths)), (h_a2_keys, .inl (cI, 10, .inl c_a2_keys)), (h_a2_cells, .inl (cI, 17, .inl c_a2_cells)), (h_a2_delays, .inl (cI, 2, .inl c_a2_delays)), (h_a2_rows, .inr (7, [.ref h_a2_rows_rowOf, .ref h_a2_rows_placeOf, .int c_a2_rows_rung])), (h_a2_rows_rowOf, .inl (cI, 10, .inl c_a2_rows_rowOf)), (h_a2_rows_placeOf, .inl (cI, 10, .inl c_a2_rows_placeOf)), (h_a2_rules, .inr (5, [.ref h_a2_rules_firsts, .ref h_a2_rules_seconds, .int c_a2_rules_count])), (h_a2_rules_firsts, .inl (cI, 10, .inl c_a2_rules_firsts)), (h_a2_rules_seconds, .inl (cI, 10, .inl c_a2_rules_seconds)), (h_a2_sights, .inr (5, [.ref h_a2_sights_firsts, .ref h_a2_sights_seconds, .int c_a2_sights_count])), (h_a2_sights_firsts, .inl (cI, 8, .inl c_a2_sights_firsts)), (h_a2_sights_seconds, .inl (cI, 8, .inl c_a2_sights_seconds)), (h_a3, .inr (8, [.ref h_a3_widths, .ref h_a3_keys, .ref h_a3_cells, .ref h_a3_delays, .ref h_a3_rows, .ref h_a3_rules, .ref h_a3_sights])), (h_a3_widths, .inl (cI, 10, .inl c_a3_widths)), (h_a3_keys, .inl (cI, 10, .inl c_a3_keys)), (h_a3_cells, .inl (cI, 17, .inl c_a3_cells)), (h_a3_delays, .inl (cI, 2, .inl c_a3_delays)), (h_a3_rows, .inr (7, [.ref h_a3_rows_rowOf, .ref h_a3_rows_placeOf, .int c_a3_rows_rung])), (h_a3_rows_rowOf, .inl (cI, 10, .inl c_a3_rows_rowOf)), (h_a3_rows_placeOf, .inl (cI, 10, .inl c_a3_rows_placeOf)), (h_a3_rules, .inr (5, [.ref h_a3_rules_firsts, .ref h_a3_rules_seconds, .int c_a3_rules_count])), (h_a3_rules_firsts, .inl (cI, 10, .inl c_a3_rules_firsts)), (h_a3_rules_seconds, .inl (cI, 10, .inl c_a3_rules_seconds)), (h_a3_sights, .inr (5, [.ref h_a3_sights_firsts, .ref h_a3_sights_seconds, .int c_a3_sights_count])), (h_a3_sights_firsts, .inl (cI, 8, .inl c_a3_sights_firsts)), (h_a3_sights_seconds, .inl (cI, 8, .inl c_a3_sights_seconds))]
abbrev rm_X6_play : Room := { frames := 4, cells := 0, slots := 0, locals := 94 }
theorem m_X6_play_f7 : (.fieldLink RX6 7 "WovenRows$Rehearsal" "acts" "I" : Cond) ∈ wsX6_play := by decide +kernel
theorem in_X6_play_X6 : ∀ w ∈ u_ws RX6 TX6 2, w ∈ wsX6_play := by decide +kernel
theorem m_X6_play_f13 : (.fieldLink RX6 13 "WovenRows$Rehearsal" "why" "I" : Cond) ∈ wsX6_play := by decide +kernel
theorem in_X6_play_X8 : ∀ w ∈ u_ws RX8 TX8 7, w ∈ wsX6_play := by decide +kernel
theorem in_X6_play_X4 : ∀ w ∈ u_ws RX4 TX4 2, w ∈ wsX6_play := by decide +kernel
set_option maxRecDepth 100000 in
set_option maxHeartbeats 4000000 in
theorem c_X6_play (l : Launch) (dC : Nat → ClassId) (dI : Nat → Nat → Nat) (cI cJ cZ : ClassId) (h_this h_a1 h_a1_signs h_a2 h_a2_widths h_a2_keys h_a2_cells h_a2_delays h_a2_rows h_a2_rows_rowOf h_a2_rows_placeOf h_a2_rules h_a2_rules_firsts h_a2_rules_seconds h_a2_sights h_a2_sights_firsts h_a2_sights_seconds h_a3 h_a3_widths h_a3_keys h_a3_cells h_a3_delays h_a3_rows h_a3_rows_rowOf h_a3_rows_placeOf h_a3_rules h_a3_rules_firsts h_a3_rules_seconds h_a3_sights h_a3_sights_firsts h_a3_sights_seconds : Nat) (sz : Nat) (c_acts : Int32) (c_why : Int32) (c_a1_count : Int32) (c_a1_signs : Nat → Int32) (c_a2_widths : Nat → Int32) (c_a2_keys : Nat → Int32) (c_a2_cells : Nat → Int32) (c_a2_delays : Nat → Int32) (c_a2_rows_rung : Int32) (c_a2_rows_rowOf : Nat → Int32) (c_a2_rows_placeOf : Nat → Int32) (c_a2_rules_count : Int32) (c_a2_rules_firsts : Nat → Int32) (c_a2_rules_seconds : Nat → Int32) (c_a2_sights_count : Int32) (c_a2_sights_firsts : Nat → Int32) (c_a2_sights_seconds : Nat → Int32) (c_a3_widths : Nat → Int32) (c_a3_keys : Nat → Int32) (c_a3_cells : Nat → Int32) (c_a3_delays : Nat → Int32) (c_a3_rows_rung : Int32) (c_a3_rows_rowOf : Nat → Int32) (c_a3_rows_placeOf : Nat → Int32) (c_a3_rules_count : Int32) (c_a3_rules_firsts : Nat → Int32) (c_a3_rules_seconds : Nat → Int32) (c_a3_sights_count : Int32) (c_a3_sights_firsts : Nat → Int32) (c_a3_sights_seconds : Nat → Int32) (z_acts : Int32) (z_why : Int32) (z_a3_widths : Nat → Int32) (z_a3_keys : Nat → Int32) (z_a3_cells : Nat → Int32) (z_a3_delays : Nat → Int32) (z_a3_rows_rung : Int32) (z_a3_rows_rowOf : Nat → Int32) (z_a3_rows_placeOf : Nat → Int32) (z_a3_rules_count : Int32) (z_a3_rules_firsts : Nat → Int32) (z_a3_rules_seconds : Nat → Int32) (z_a3_sights_count : Int32) (z_a3_sights_firsts : Nat → Int32) (z_a3_sights_seconds : Nat → Int32) (hf : f_X6_play c_a1_count c_a1_signs c_a2_widths c_a2_keys c_a2_cells c_a2_delays c_a2_rows_rung c_a2_rows_rowOf c_a2_rows_placeOf c_a2_rules_count c_a2_rules_firsts c_a2_rules_seconds c_a2_sights_count c_a2_sights_firsts c_a2_sights_seconds c_a3_widths c_a3_keys c_a3_cells c_a3_delays c_a3_rows_rowOf c_a3_rows_placeOf c_a3_rules_firsts c_a3_rules_seconds c_a3_sights_firsts c_a3_sights_seconds = some (z_acts, z_why, z_a3_widths, z_a3_keys, z_a3_cells, z_a3_delays, z_a3_rows_rung, z_a3_rows_rowOf, z_a3_rows_placeOf, z_a3_rules_count, z_a3_rules_firsts, z_a3_rules_seconds, z_a3_sights_count, z_a3_sights_firsts, z_a3_sights_seconds)) : Met l yX6_play wsX6_play rm_X6_play (va_Pc [.ref h_this, .ref h_a1, .ref h_a2, .ref h_a3] (PRE (dC, dI) (TY cI cJ cZ) sz (w_X6_play cI cJ cZ h_this h_a1 h_a1_signs h_a2 h_a2_widths h_a2_keys h_a2_cells h_a2_delays h_a2_rows h_a2_rows_rowOf h_a2_rows_placeOf h_a2_rules h_a2_rules_firsts h_a2_rules_seconds h_a2_sights h_a2_sights_firsts h_a2_sights_seconds h_a3 h_a3_widths h_a3_keys h_a3_cells h_a3_delays h_a3_rows h_a3_rows_rowOf h_a3_rows_placeOf h_a3_rules h_a3_rules_firsts h_a3_rules_seconds h_a3_sights h_a3_sights_firsts h_a3_sights_seconds c_acts c_why c_a1_count c_a1_signs c_a2_widths c_a2_keys c_a2_cells c_a2_delays c_a2_rows_rung c_a2_rows_rowOf c_a2_rows_placeOf c_a2_rules_count c_a2_rules_firsts c_a2_rules_seconds c_a2_sights_count c_a2_sights_firsts c_a2_sights_seconds c_a3_widths c_a3_keys c_a3_cells c_a3_delays c_a3_rows_rung c_a3_rows_rowOf c_a3_rows_placeOf c_a3_rules_count c_a3_rules_firsts c_a3_rules_seconds c_a3_sights_count c_a3_sights_firsts c_a3_sights_seconds))) (va_Qv (fun _ : Unit => True) (POW (dC, dI) (va_A (w_X6_play cI cJ cZ h_this h_a1 h_a1_signs h_a2 h_a2_widths h_a2_keys h_a2_cells h_a2_delays h_a2_rows h_a2_rows_rowOf h_a2_rows_placeOf h_a2_rules h_a2_rules_firsts h_a2_rules_seconds h_a2_sights h_a2_sights_firsts h_a2_sights_seconds h_a3 h_a3_widths h_a3_keys h_a3_cells h_a3_delays h_a3_rows h_a3_rows_rowOf h_a3_rows_placeOf h_a3_rules h_a3_rules_firsts h_a3_rules_seconds h_a3_sights h_a3_sights_firsts h_a3_sights_seconds c_acts c_why c_a1_count c_a1_signs c_a2_widths c_a2_keys c_a2_cells c_a2_delays c_a2_rows_rung c_a2_rows_rowOf c_a2_rows_placeOf c_a2_rules_count c_a2_rules_firsts c_a2_rules_seconds c_a2_sights_count c_a2_sights_firsts c_a2_sights_seconds c_a3_widths c_a3_keys c_a3_cells c_a3_delays c_a3_rows_rung c_a3_rows_rowOf c_a3_rows_placeOf c_a3_rules_count c_a3_rules_firsts c_a3_rules_seconds c_a3_sights_count c_a3_sights_firsts c_a3_sights_seconds) sz) (w_X6_play cI cJ cZ h_this h_a1 h_a1_signs h_a2 h_a2_widths h_a2_keys h_a2_cells h_a2_delays h_a2_rows h_a2_rows_rowOf h_a2_rows_placeOf h_a2_rules h_a2_rules_firsts h_a2_rules_seconds h_a2_sights h_a2_sights_firsts h_a2_sights_seconds h_a3 h_a3_widths h_a3_keys h_a3_cells h_a3_delays h_a3_rows h_a3_rows_rowOf h_a3_rows_placeOf h_a3_rules h_a3_rules_firsts h_a3_rules_seconds h_a3_sights h_a3_sights_firsts h_a3_sights_seconds z_acts z_why c_a1_count c_a1_signs c_a2_widths c_a2_keys c_a2_cells c_a2_delays c_a2_rows_rung c_a2_rows_rowOf c_a2_rows_placeOf c_a2_rules_count c_a2_rules_firsts c_a2_rules_seconds c_a2_sights_count c_a2_sights_firsts c_a2_sights_seconds z_a3_widths z_a3_keys z_a3_cells z_a3_delays z_a3_rows_rung z_a3_rows_rowOf z_a3_rows_placeOf z_a3_rules_count z_a3_rules_firsts z_a3_rules_seconds z_a3_sights_count z_a3_sights_firsts z_a3_sights_seconds)) (va_A (w_X6_play cI cJ cZ h_this h_a1 h_a1_signs h_a2 h_a2_widths h_a2_keys h_a2_cells h_a2_delays h_a2_rows h_a2_rows_rowOf h_a2_rows_placeOf h_a2_rules h_a2_rules_firsts h_a2_rules_seconds h_a2_sights h_a2_sights_firsts h_a2_sights_seconds h_a3 h_a3_widths h_a3_keys h_a3_cells h_a3_delays h_a3_rows h_a3_rows_rowOf h_a3_rows_placeOf h_a3_rules h_a3_rules_firsts h_a3_rules_seconds h_a3_sights h_a3_sights_firsts h_a3_sights_seconds c_acts c_why c_a1_count c_a1_signs c_a2_widths c_a2_keys c_a2_cells c_a2_delays c_a2_rows_rung c_a2_rows_rowOf c_a2_rows_placeOf c_a2_rules_count c_a2_rules_firsts c_a2_rules_seconds c_a2_sights_count c_a2_sights_firsts c_a2_sights_seconds c_a3_widths c_a3_keys c_a3_cells c_a3_delays c_a3_rows_rung c_a3_rows_rowOf c_a3_rows_placeOf c_a3_rules_count c_a3_rules_firsts c_a3_rules_seconds c_a3_sights_count c_a3_sights_firsts c_a3_sights_seconds) sz)) 0 0 (va_A (w_X6_play cI cJ cZ h_this h_a1 h_a1_signs h_a2 h_a2_widths h_a2_keys h_a2_cells h_a2_delays h_a2_rows h_a2_rows_rowOf h_a2_rows_placeOf h_a2_rules h_a2_rules_firsts h_a2_rules_seconds h_a2_sights h_a2_sights_firsts h_a2_sights_seconds h_a3 h_a3_widths h_a3_keys h_a3_cells h_a3_delays h_a3_rows h_a3_rows_rowOf h_a3_rows_placeOf h_a3_rules h_a3_rules_firsts h_a3_rules_seconds h_a3_sights h_a3_sights_firsts h_a3_sights_seconds c_acts c_why c_a1_count c_a1_signs c_a2_widths c_a2_keys c_a2_cells c_a2_delays c_a2_rows_rung c_a2_rows_rowOf c_a2_rows_placeOf c_a2_rules_count c_a2_rules_firsts c_a2_rules_seconds c_a2_sights_count c_a2_sights_firsts c_a2_sights_seconds c_a3_widths c_a3_keys c_a3_cells c_a3_delays c_a3_rows_rung c_a3_rows_rowOf c_a3_rows_placeOf c_a3_rules_count c_a3_rules_firsts c_a3_rules_seconds c_a3_sights_count c_a3_sights_firsts c_a3_sights_seconds) sz) := by
  refine ofWv (by decide +kernel) rfl (Nat.le_of_ble_eq_true rfl) ?_
  intro p e s m args below meth c Z A ls S hP hD hK hN hA hl hret
  obtain ⟨hx, hb, hml, hown, hts⟩ := id S
  have hown : s.vm.findClass RX6 = some m.cls := hown
  have hS : va_S A s.heap s.heap [] := va_S.rf
  have hl : lv_has ls 7 [(0, .ref h_this), (1, .ref h_a1), (2, .ref h_a2), (3, .ref h_a3)] := hl
  unfold f_X6_play at hf
  refine lv_aload_n hx hb dX6_play_0 rfl (lv_at hl 0 rfl) ?_
  refine lv_iconst (v := 0) hx hb dX6_play_1 (by decide) ?_
  refine va_put (D := (dC, dI)) (ci := 6) (v := .int 0) (ty := .int) (C := RX6) (T := TX6) (N := 2) hx hb hts in_X6_play_X6 tyX6 tyX6_ok nmX6 hown hK hP hD hS 0 rfl rfl 0 (by decide) (hts _ m_X6_play_f7) (fun _ h9 => h9) rfl (by decide +kernel) rfl rfl (Nat.le_of_ble_eq_true rfl) dX6_play_2 (fun H locs hP hD hS => ?_)
  have hP : va_P (dC, dI) vwCl (w_X6_play cI cJ cZ h_this h_a1 h_a1_signs h_a2 h_a2_widths h_a2_keys h_a2_cells h_a2_delays h_a2_rows h_a2_rows_rowOf h_a2_rows_placeOf h_a2_rules h_a2_rules_firsts h_a2_rules_seconds h_a2_sights h_a2_sights_firsts h_a2_sights_seconds h_a3 h_a3_widths h_a3_keys h_a3_cells h_a3_delays h_a3_rows h_a3_rows_rowOf h_a3_rows_placeOf h_a3_rules h_a3_rules_firsts h_a3_rules_seconds h_a3_sights h_a3_sights_firsts h_a3_sights_seconds 0 c_why c_a1_count c_a1_signs c_a2_widths c_a2_keys c_a2_cells c_a2_delays c_a2_rows_rung c_a2_rows_rowOf c_a2_rows_placeOf c_a2_rules_count c_a2_rules_firsts c_a2_rules_seconds c_a2_sights_count c_a2_sights_firsts c_a2_sights_seconds c_a3_widths c_a3_keys c_a3_cells c_a3_delays c_a3_rows_rung c_a3_rows_rowOf c_a3_rows_placeOf c_a3_rules_count c_a3_rules_firsts c_a3_rules_seconds c_a3_sights_count c_a3_sights_firsts c_a3_sights_seconds) H := hP
  have hD : va_D A (w_X6_play cI cJ cZ h_this h_a1 h_a1_signs h_a2 h_a2_widths h_a2_keys h_a2_cells h_a2_delays h_a2_rows h_a2_rows_rowOf h_a2_rows_placeOf h_a2_rules h_a2_rules_firsts h_a2_rules_seconds h_a2_sights h_a2_sights_firsts h_a2_sights_seconds h_a3 h_a3_widths h_a3_keys h_a3_cells h_a3_delays h_a3_rows h_a3_rows_rowOf h_a3_rows_placeOf h_a3_rules h_a3_rules_firsts h_a3_rules_seconds h_a3_sights h_a3_sights_firsts h_a3_sights_seconds 0 c_why c_a1_count c_a1_signs c_a2_widths c_a2_keys c_a2_cells c_a2_delays c_a2_rows_rung c_a2_rows_rowOf c_a2_rows_placeOf c_a2_rules_count c_a2_rules_firsts c_a2_rules_seconds c_a2_sights_count c_a2_sights_firsts c_a2_sights_seconds c_a3_widths c_a3_keys c_a3_cells c_a3_delays c_a3_rows_rung c_a3_rows_rowOf c_a3_rows_placeOf c_a3_rules_count c_a3_rules_firsts c_a3_rules_seconds c_a3_sights_count c_a3_sights_firsts c_a3_sights_seconds) := hD
  refine lv_aload_n hx hb dX6_play_5 rfl (lv_at hl 0 rfl) ?_
  refine lv_iconst (v := 0) hx hb dX6_play_6 (by decide) ?_
  refine va_put (D := (dC, dI)) (ci := 6) (v := .int 0) (ty := .int) (C := RX6) (T := TX6) (N := 2) hx hb hts in_X6_play_X6 tyX6 tyX6_ok nmX6 hown hK hP hD hS 0 rfl rfl 1 (by decide) (hts _ m_X6_play_f13) (fun _ h9 => h9) rfl (by decide +kernel) rfl rfl (Nat.le_of_ble_eq_true rfl) dX6_play_7 (fun H locs hP hD hS => ?_)
  have hP : va_P (dC, dI) vwCl (w_X6_play cI cJ cZ h_this h_a1 h_a1_signs h_a2 h_a2_widths h_a2_keys h_a2_cells h_a2_delays h_a2_rows h_a2_rows_rowOf h_a2_rows_placeOf h_a2_rules h_a2_rules_firsts h_a2_rules_seconds h_a2_sights h_a2_sights_firsts h_a2_sights_seconds h_a3 h_a3_widths h_a3_keys h_a3_cells h_a3_delays h_a3_rows h_a3_rows_rowOf h_a3_rows_placeOf h_a3_rules h_a3_rules_firsts h_a3_rules_seconds h_a3_sights h_a3_sights_firsts h_a3_sights_seconds 0 0 c_a1_count c_a1_signs c_a2_widths c_a2_keys c_a2_cells c_a2_delays c_a2_rows_rung c_a2_rows_rowOf c_a2_rows_placeOf c_a2_rules_count c_a2_rules_firsts c_a2_rules_seconds c_a2_sights_count c_a2_sights_firsts c_a2_sights_seconds c_a3_widths c_a3_keys c_a3_cells c_a3_delays c_a3_rows_rung c_a3_rows_rowOf c_a3_rows_placeOf c_a3_rules_count c_a3_rules_firsts c_a3_rules_seconds c_a3_sights_count c_a3_sights_firsts c_a3_sights_seconds) H := hP
  have hD : va_D A (w_X6_play cI cJ cZ h_this h_a1 h_a1_signs h_a2 h_a2_widths h_a2_keys h_a2_cells h_a2_delays h_a2_rows h_a2_rows_rowOf h_a2_rows_placeOf h_a2_rules h_a2_rules_firsts h_a2_rules_seconds h_a2_sights h_a2_sights_firsts h_a2_sights_seconds h_a3 h_a3_widths h_a3_keys h_a3_cells h_a3_delays h_a3_rows h_a3_rows_rowOf h_a3_rows_placeOf h_a3_rules h_a3_rules_firsts h_a3_rules_seconds h_a3_sights h_a3_sights_firsts h_a3_sights_seconds 0 0 c_a1_count c_a1_signs c_a2_widths c_a2_keys c_a2_cells c_a2_delays c_a2_rows_rung c_a2_rows_rowOf c_a2_rows_placeOf c_a2_rules_count c_a2_rules_firsts c_a2_rules_seconds c_a2_sights_count c_a2_sights_firsts c_a2_sights_seconds c_a3_widths c_a3_keys c_a3_cells c_a3_delays c_a3_rows_rung c_a3_rows_rowOf c_a3_rows_placeOf c_a3_rules_count c_a3_rules_firsts c_a3_rules_seconds c_a3_sights_count c_a3_sights_firsts c_a3_sights_seconds) := hD
  refine lv_aload_n hx hb dX6_play_10 rfl (lv_at hl 1 rfl) ?_
  refine lv_ifnull hx hb dX6_play_11 ?_
  refine lv_aload_n hx hb dX6_play_14 rfl (lv_at hl 2 rfl) ?_
  refine lv_ifnull hx hb dX6_play_15 ?_
  refine lv_aload_n hx hb dX6_play_18 rfl (lv_at hl 3 rfl) ?_
  refine lv_ifnonnull (tgt := 23) hx hb dX6_play_19 (by decide) ?_
  refine lv_aload_n hx hb dX6_play_23 rfl (lv_at hl 3 rfl) ?_
  refine lv_aload_n hx hb dX6_play_24 rfl (lv_at hl 2 rfl) ?_
  obtain ⟨c_a3_widths_25, c_a3_keys_25, c_a3_cells_25, c_a3_delays_25, c_a3_rows_rung_25, c_a3_rows_rowOf_25, c_a3_rows_placeOf_25, c_a3_rules_count_25, c_a3_rules_firsts_25, c_a3_rules_seconds_25, c_a3_sights_count_25, c_a3_sights_firsts_25, c_a3_sights_seconds_25, hv_25, hf⟩ := bd13_some hf
  refine kWv (rV (C := RX8) [.ref h_a2] [] S (c_X8_takeFrom l dC dI cI cJ cZ h_a3 h_a3_widths h_a3_keys h_a3_cells h_a3_delays h_a3_rows h_a3_rows_rowOf h_a3_rows_placeOf h_a3_rules h_a3_rules_firsts h_a3_rules_seconds h_a3_sights h_a3_sights_firsts h_a3_sights_seconds h_a2 h_a2_widths h_a2_keys h_a2_cells h_a2_delays h_a2_rows h_a2_rows_rowOf h_a2_rows_placeOf h_a2_rules h_a2_rules_firsts h_a2_rules_seconds h_a2_sights h_a2_sights_firsts h_a2_sights_seconds H.size c_a3_widths c_a3_keys c_a3_cells c_a3_delays c_a3_rows_rung c_a3_rows_rowOf c_a3_rows_placeOf c_a3_rules_count c_a3_rules_firsts c_a3_rules_seconds c_a3_sights_count c_a3_sights_firsts c_a3_sights_seconds c_a2_widths c_a2_keys c_a2_cells c_a2_delays c_a2_rows_rung c_a2_rows_rowOf c_a2_rows_placeOf c_a2_rules_count c_a2_rules_firsts c_a2_rules_seconds c_a2_sights_count c_a2_sights_firsts c_a2_sights_seconds c_a3_widths_25 c_a3_keys_25 c_a3_cells_25 c_a3_delays_25 c_a3_rows_rung_25 c_a3_rows_rowOf_25 c_a3_rows_placeOf_25 c_a3_rules_count_25 c_a3_rules_firsts_25 c_a3_rules_seconds_25 c_a3_sights_count_25 c_a3_sights_firsts_25 c_a3_sights_seconds_25 hv_25) (cwV 1 hts gX6_play_X8_takeFrom rfl rfl rfl (by decide +kernel) ⟨Nat.le_of_ble_eq_true rfl, Nat.le_of_ble_eq_true rfl⟩) (va_recv hK hP (ci := 8) (q0 := 17) rfl rfl) hP hD hK hN [17, 18, 19, 20, 21, 22, 23, 24, 25, 26, 27, 28, 29, 30, 3, 4, 5, 6, 7, 8, 9, 10, 11, 12, 13, 14, 15, 16] rfl (by decide +kernel) rfl hl.1 rfl (Nat.le_of_ble_eq_true rfl) dX6_play_25 ⟨Nat.le_of_ble_eq_true rfl, Nat.le_of_ble_eq_true rfl⟩) hP hD hS hA [17, 18, 19, 20, 21, 22, 23, 24, 25, 26, 27, 28, 29, 30, 3, 4, 5, 6, 7, 8, 9, 10, 11, 12, 13, 14, 15, 16] rfl rfl [none, none, none, some 14, some 15, some 16, some 17, some 18, some 19, some 20, some 21, some 22, some 23, some 24, some 25, some 26, some 27, some 0, some 1, some 2, some 3, some 4, some 5, some 6, some 7, some 8, some 9, some 10, some 11, some 12, some 13] (by decide +kernel) rfl (fun H locs hP hD hS => ?_)
  have hP : va_P (dC, dI) vwCl (w_X6_play cI cJ cZ h_this h_a1 h_a1_signs h_a2 h_a2_widths h_a2_keys h_a2_cells h_a2_delays h_a2_rows h_a2_rows_rowOf h_a2_rows_placeOf h_a2_rules h_a2_rules_firsts h_a2_rules_seconds h_a2_sights h_a2_sights_firsts h_a2_sights_seconds h_a3 h_a3_widths h_a3_keys h_a3_cells h_a3_delays h_a3_rows h_a3_rows_rowOf h_a3_rows_placeOf h_a3_rules h_a3_rules_firsts h_a3_rules_seconds h_a3_sights h_a3_sights_firsts h_a3_sights_seconds 0 0 c_a1_count c_a1_signs c_a2_widths c_a2_keys c_a2_cells c_a2_delays c_a2_rows_rung c_a2_rows_rowOf c_a2_rows_placeOf c_a2_rules_count c_a2_rules_firsts c_a2_rules_seconds c_a2_sights_count c_a2_sights_firsts c_a2_sights_seconds c_a3_widths_25 c_a3_keys_25 c_a3_cells_25 c_a3_delays_25 c_a3_rows_rung_25 c_a3_rows_rowOf_25 c_a3_rows_placeOf_25 c_a3_rules_count_25 c_a3_rules_firsts_25 c_a3_rules_seconds_25 c_a3_sights_count_25 c_a3_sights_firsts_25 c_a3_sights_seconds_25) H := hP
  have hD : va_D A (w_X6_play cI cJ cZ h_this h_a1 h_a1_signs h_a2 h_a2_widths h_a2_keys h_a2_cells h_a2_delays h_a2_rows h_a2_rows_rowOf h_a2_rows_placeOf h_a2_rules h_a2_rules_firsts h_a2_rules_seconds h_a2_sights h_a2_sights_firsts h_a2_sights_seconds h_a3 h_a3_widths h_a3_keys h_a3_cells h_a3_delays h_a3_rows h_a3_rows_rowOf h_a3_rows_placeOf h_a3_rules h_a3_rules_firsts h_a3_rules_seconds h_a3_sights h_a3_sights_firsts h_a3_sights_seconds 0 0 c_a1_count c_a1_signs c_a2_widths c_a2_keys c_a2_cells c_a2_delays c_a2_rows_rung c_a2_rows_rowOf c_a2_rows_placeOf c_a2_rules_count c_a2_rules_firsts c_a2_rules_seconds c_a2_sights_count c_a2_sights_firsts c_a2_sights_seconds c_a3_widths_25 c_a3_keys_25 c_a3_cells_25 c_a3_delays_25 c_a3_rows_rung_25 c_a3_rows_rowOf_25 c_a3_rows_placeOf_25 c_a3_rules_count_25 c_a3_rules_firsts_25 c_a3_rules_seconds_25 c_a3_sights_count_25 c_a3_sights_firsts_25 c_a3_sights_seconds_25) := hD
  refine lv_iconst (v := 0) hx hb dX6_play_28 (by decide) ?_
  refine lv_istore (lv' := [(4, .int 0), (0, .ref h_this), (1, .ref h_a1), (2, .ref h_a2), (3, .ref h_a3)]) hx hb dX6_play_29 hl (by decide) rfl (fun ls hl => ?_)
  obtain ⟨q_31, hq_31, hqa_31, hqb_31⟩ := bdr_some hf
  have K_31 : ∀ (l4_31x : Int32) (c_acts_31x : Int32) (c_why_31x : Int32) (c_a3_rows_rung_31x : Int32) (c_a3_rows_rowOf_31x : Nat → Int32) (c_a3_rows_placeOf_31x : Nat → Int32), q_31 = .inl (l4_31x, c_acts_31x, c_why_31x, c_a3_rows_rung_31x, c_a3_rows_rowOf_31x, c_a3_rows_placeOf_31x) → ∀ (H : Heap) (locs : List Loc) (ls : Array Slot), va_P (dC, dI) vwCl (w_X6_play cI cJ cZ h_this h_a1 h_a1_signs h_a2 h_a2_widths h_a2_keys h_a2_cells h_a2_delays h_a2_rows h_a2_rows_rowOf h_a2_rows_placeOf h_a2_rules h_a2_rules_firsts h_a2_rules_seconds h_a2_sights h_a2_sights_firsts h_a2_sights_seconds h_a3 h_a3_widths h_a3_keys h_a3_cells h_a3_delays h_a3_rows h_a3_rows_rowOf h_a3_rows_placeOf h_a3_rules h_a3_rules_firsts h_a3_rules_seconds h_a3_sights h_a3_sights_firsts h_a3_sights_seconds c_acts_31x c_why_31x c_a1_count c_a1_signs c_a2_widths c_a2_keys c_a2_cells c_a2_delays c_a2_rows_rung c_a2_rows_rowOf c_a2_rows_placeOf c_a2_rules_count c_a2_rules_firsts c_a2_rules_seconds c_a2_sights_count c_a2_sights_firsts c_a2_sights_seconds c_a3_widths_25 c_a3_keys_25 c_a3_cells_25 c_a3_delays_25 c_a3_rows_rung_31x c_a3_rows_rowOf_31x c_a3_rows_placeOf_31x c_a3_rules_count_25 c_a3_rules_firsts_25 c_a3_rules_seconds_25 c_a3_sights_count_25 c_a3_sights_firsts_25 c_a3_sights_seconds_25) H → va_D A (w_X6_play cI cJ cZ h_this h_a1 h_a1_signs h_a2 h_a2_widths h_a2_keys h_a2_cells h_a2_delays h_a2_rows h_a2_rows_rowOf h_a2_rows_placeOf h_a2_rules h_a2_rules_firsts h_a2_rules_seconds h_a2_sights h_a2_sights_firsts h_a2_sights_seconds h_a3 h_a3_widths h_a3_keys h_a3_cells h_a3_delays h_a3_rows h_a3_rows_rowOf h_a3_rows_placeOf h_a3_rules h_a3_rules_firsts h_a3_rules_seconds h_a3_sights h_a3_sights_firsts h_a3_sights_seconds c_acts_31x c_why_31x c_a1_count c_a1_signs c_a2_widths c_a2_keys c_a2_cells c_a2_delays c_a2_rows_rung c_a2_rows_rowOf c_a2_rows_placeOf c_a2_rules_count c_a2_rules_firsts c_a2_rules_seconds c_a2_sights_count c_a2_sights_firsts c_a2_sights_seconds c_a3_widths_25 c_a3_keys_25 c_a3_cells_25 c_a3_delays_25 c_a3_rows_rung_31x c_a3_rows_rowOf_31x c_a3_rows_placeOf_31x c_a3_rules_count_25 c_a3_rules_firsts_25 c_a3_rules_seconds_25 c_a3_sights_count_25 c_a3_sights_firsts_25 c_a3_sights_seconds_25) → va_S A s.heap H locs → lv_has ls 7 [] → W p l e rm_X6_play s m args below meth c H locs 0 0 Z (F0 m 122 ls []) := by
    intro l4_31x c_acts_31x c_why_31x c_a3_rows_rung_31x c_a3_rows_rowOf_31x c_a3_rows_placeOf_31x e_31 H locs ls hP hD hS hl
    have hf := hqa_31 _ e_31
    try dsimp only at hf
    have e_f := Option.some.inj hf
    cases e_f
    exact hret hP hD hS dX6_play_122
  have L_31 : ∀ (n : Nat) (l4_31 : Int32) (c_acts_31 : Int32) (c_why_31 : Int32) (c_a3_rows_rung_31 : Int32) (c_a3_rows_rowOf_31 : Nat → Int32) (c_a3_rows_placeOf_31 : Nat → Int32) (H : Heap) (locs : List Loc) (ls : Array Slot), va_P (dC, dI) vwCl (w_X6_play cI cJ cZ h_this h_a1 h_a1_signs h_a2 h_a2_widths h_a2_keys h_a2_cells h_a2_delays h_a2_rows h_a2_rows_rowOf h_a2_rows_placeOf h_a2_rules h_a2_rules_firsts h_a2_rules_seconds h_a2_sights h_a2_sights_firsts h_a2_sights_seconds h_a3 h_a3_widths h_a3_keys h_a3_cells h_a3_delays h_a3_rows h_a3_rows_rowOf h_a3_rows_placeOf h_a3_rules h_a3_rules_firsts h_a3_rules_seconds h_a3_sights h_a3_sights_firsts h_a3_sights_seconds c_acts_31 c_why_31 c_a1_count c_a1_signs c_a2_widths c_a2_keys c_a2_cells c_a2_delays c_a2_rows_rung c_a2_rows_rowOf c_a2_rows_placeOf c_a2_rules_count c_a2_rules_firsts c_a2_rules_seconds c_a2_sights_count c_a2_sights_firsts c_a2_sights_seconds c_a3_widths_25 c_a3_keys_25 c_a3_cells_25 c_a3_delays_25 c_a3_rows_rung_31 c_a3_rows_rowOf_31 c_a3_rows_placeOf_31 c_a3_rules_count_25 c_a3_rules_firsts_25 c_a3_rules_seconds_25 c_a3_sights_count_25 c_a3_sights_firsts_25 c_a3_sights_seconds_25) H → va_D A (w_X6_play cI cJ cZ h_this h_a1 h_a1_signs h_a2 h_a2_widths h_a2_keys h_a2_cells h_a2_delays h_a2_rows h_a2_rows_rowOf h_a2_rows_placeOf h_a2_rules h_a2_rules_firsts h_a2_rules_seconds h_a2_sights h_a2_sights_firsts h_a2_sights_seconds h_a3 h_a3_widths h_a3_keys h_a3_cells h_a3_delays h_a3_rows h_a3_rows_rowOf h_a3_rows_placeOf h_a3_rules h_a3_rules_firsts h_a3_rules_seconds h_a3_sights h_a3_sights_firsts h_a3_sights_seconds c_acts_31 c_why_31 c_a1_count c_a1_signs c_a2_widths c_a2_keys c_a2_cells c_a2_delays c_a2_rows_rung c_a2_rows_rowOf c_a2_rows_placeOf c_a2_rules_count c_a2_rules_firsts c_a2_rules_seconds c_a2_sights_count c_a2_sights_firsts c_a2_sights_seconds c_a3_widths_25 c_a3_keys_25 c_a3_cells_25 c_a3_delays_25 c_a3_rows_rung_31 c_a3_rows_rowOf_31 c_a3_rows_placeOf_31 c_a3_rules_count_25 c_a3_rules_firsts_25 c_a3_rules_seconds_25 c_a3_sights_count_25 c_a3_sights_firsts_25 c_a3_sights_seconds_25) → va_S A s.heap H locs → lv_has ls 7 [(0, .ref h_this), (1, .ref h_a1), (3, .ref h_a3), (4, .int l4_31)] → loopN (fun (q : Int32 × Int32 × Int32 × Int32 × (Nat → Int32) × (Nat → Int32)) => f_X6_play_b31 c_a1_count c_a1_signs c_a3_widths_25 c_a3_keys_25 c_a3_cells_25 c_a3_delays_25 c_a3_rules_count_25 c_a3_rules_firsts_25 c_a3_rules_seconds_25 c_a3_sights_count_25 c_a3_sights_firsts_25 c_a3_sights_seconds_25 q.1 q.2.1 q.2.2.1 q.2.2.2.1 q.2.2.2.2.1 q.2.2.2.2.2) n (l4_31, c_acts_31, c_why_31, c_a3_rows_rung_31, c_a3_rows_rowOf_31, c_a3_rows_placeOf_31) = some q_31 → W p l e rm_X6_play s m args below meth c H locs 0 0 Z (F0 m 31 ls []) := by
    intro n
    induction n with
    | zero => intro l4_31 c_acts_31 c_why_31 c_a3_rows_rung_31 c_a3_rows_rowOf_31 c_a3_rows_placeOf_31 H locs ls hP hD hS hl hq; exact (loopN_zero hq).elim
    | succ n ih_31 =>
      intro l4_31 c_acts_31 c_why_31 c_a3_rows_rung_31 c_a3_rows_rowOf_31 c_a3_rows_placeOf_31 H locs ls hP hD hS hl hq
      obtain ⟨o_31, hf, ho1_31, ho2_31⟩ := loopN_step hq
      have hf : f_X6_play_b31 c_a1_count c_a1_signs c_a3_widths_25 c_a3_keys_25 c_a3_cells_25 c_a3_delays_25 c_a3_rules_count_25 c_a3_rules_firsts_25 c_a3_rules_seconds_25 c_a3_sights_count_25 c_a3_sights_firsts_25 c_a3_sights_seconds_25 l4_31 c_acts_31 c_why_31 c_a3_rows_rung_31 c_a3_rows_rowOf_31 c_a3_rows_placeOf_31 = some o_31 := hf
      unfold f_X6_play_b31 at hf
      have J_71 : ∀ (l4_71j : Int32) (l5_71j : Int32) (s0_71j : Int32) (c_acts_71j : Int32) (c_why_71j : Int32) (c_a3_rows_rung_71j : Int32) (c_a3_rows_rowOf_71j : Nat → Int32) (c_a3_rows_placeOf_71j : Nat → Int32) (H : Heap) (locs : List Loc) (ls : Array Slot), va_P (dC, dI) vwCl (w_X6_play cI cJ cZ h_this h_a1 h_a1_signs h_a2 h_a2_widths h_a2_keys h_a2_cells h_a2_delays h_a2_rows h_a2_rows_rowOf h_a2_rows_placeOf h_a2_rules h_a2_rules_firsts h_a2_rules_seconds h_a2_sights h_a2_sights_firsts h_a2_sights_seconds h_a3 h_a3_widths h_a3_keys h_a3_cells h_a3_delays h_a3_rows h_a3_rows_rowOf h_a3_rows_placeOf h_a3_rules h_a3_rules_firsts h_a3_rules_seconds h_a3_sights h_a3_sights_firsts h_a3_sights_seconds c_acts_71j c_why_71j c_a1_count c_a1_signs c_a2_widths c_a2_keys c_a2_cells c_a2_delays c_a2_rows_rung c_a2_rows_rowOf c_a2_rows_placeOf c_a2_rules_count c_a2_rules_firsts c_a2_rules_seconds c_a2_sights_count c_a2_sights_firsts c_a2_sights_seconds c_a3_widths_25 c_a3_keys_25 c_a3_cells_25 c_a3_delays_25 c_a3_rows_rung_71j c_a3_rows_rowOf_71j c_a3_rows_placeOf_71j c_a3_rules_count_25 c_a3_rules_firsts_25 c_a3_rules_seconds_25 c_a3_sights_count_25 c_a3_sights_firsts_25 c_a3_sights_seconds_25) H → va_D A (w_X6_play cI cJ cZ h_this h_a1 h_a1_signs h_a2 h_a2_widths h_a2_keys h_a2_cells h_a2_delays h_a2_rows h_a2_rows_rowOf h_a2_rows_placeOf h_a2_rules h_a2_rules_firsts h_a2_rules_seconds h_a2_sights h_a2_sights_firsts h_a2_sights_seconds h_a3 h_a3_widths h_a3_keys h_a3_cells h_a3_delays h_a3_rows h_a3_rows_rowOf h_a3_rows_placeOf h_a3_rules h_a3_rules_firsts h_a3_rules_seconds h_a3_sights h_a3_sights_firsts h_a3_sights_seconds c_acts_71j c_why_71j c_a1_count c_a1_signs c_a2_widths c_a2_keys c_a2_cells c_a2_delays c_a2_rows_rung c_a2_rows_rowOf c_a2_rows_placeOf c_a2_rules_count c_a2_rules_firsts c_a2_rules_seconds c_a2_sights_count c_a2_sights_firsts c_a2_sights_seconds c_a3_widths_25 c_a3_keys_25 c_a3_cells_25 c_a3_delays_25 c_a3_rows_rung_71j c_a3_rows_rowOf_71j c_a3_rows_placeOf_71j c_a3_rules_count_25 c_a3_rules_firsts_25 c_a3_rules_seconds_25 c_a3_sights_count_25 c_a3_sights_firsts_25 c_a3_sights_seconds_25) → va_S A s.heap H locs → lv_has ls 7 [(0, .ref h_this), (1, .ref h_a1), (3, .ref h_a3), (4, .int l4_71j), (5, .int l5_71j)] → f_X6_play_j71 c_a1_signs c_a3_widths_25 c_a3_keys_25 c_a3_cells_25 c_a3_delays_25 c_a3_rules_count_25 c_a3_rules_firsts_25 c_a3_rules_seconds_25 c_a3_sights_count_25 c_a3_sights_firsts_25 c_a3_sights_seconds_25 l4_71j l5_71j c_acts_71j c_a3_rows_rung_71j c_a3_rows_rowOf_71j c_a3_rows_placeOf_71j s0_71j = some o_31 → W p l e rm_X6_play s m args below meth c H locs 0 0 Z (F0 m 71 ls [.int s0_71j]) := by
        intro l4_71j l5_71j s0_71j c_acts_71j c_why_71j c_a3_rows_rung_71j c_a3_rows_rowOf_71j c_a3_rows_placeOf_71j H locs ls hP hD hS hl hf
        unfold f_X6_play_j71 at hf
        refine lv_istore (lv' := [(6, .int s0_71j), (0, .ref h_this), (1, .ref h_a1), (3, .ref h_a3), (4, .int l4_71j), (5, .int l5_71j)]) hx hb dX6_play_71 hl (by decide) rfl (fun ls hl => ?_)
        refine lv_aload_n hx hb dX6_play_73 rfl (lv_at hl 1 rfl) ?_
        refine lv_aload_n hx hb dX6_play_74 rfl (lv_at hl 3 rfl) ?_
        refine va_getN (D := (dC, dI)) (ci := 8) (v := .ref h_a3_rows) (C := RX8) (T := TX8) (N := 7) hx hb hts in_X6_play_X8 hown hK hP 17 rfl rfl 4 (by decide) (hN.f 23 rfl) (fun _ h9 => h9) rfl dX6_play_75 ?_
        refine lv_iload hx hb dX6_play_78 (lv_at hl 5 rfl) ?_
        refine lv_aload_n hx hb dX6_play_80 rfl (lv_at hl 2 rfl) ?_
        refine lv_iload hx hb dX6_play_81 (lv_at hl 0 rfl) ?_
        obtain ⟨r_83, hv_83, hf⟩ := bd1_some hf
        refine kSi (rV (C := RX4) [.int s0_71j] [.int l5_71j, .ref h_a3_rows, .ref h_this] S (c_X4_memberAt l dC dI cI cJ cZ h_a1 h_a1_signs H.size c_a1_count c_a1_signs s0_71j r_83 hv_83) (cwV 1 hts gX6_play_X4_memberAt rfl rfl rfl (by decide +kernel) ⟨Nat.le_of_ble_eq_true rfl, Nat.le_of_ble_eq_true rfl⟩) (va_recv hK hP (ci := 4) (q0 := 1) rfl rfl) hP hD hK hN [1, 2] rfl (by decide +kernel) rfl hl.1 rfl (Nat.le_of_ble_eq_true rfl) dX6_play_83 ⟨Nat.le_of_ble_eq_true rfl, Nat.le_of_ble_eq_true rfl⟩) ?_
        refine lv_aload_n hx hb dX6_play_86 rfl (lv_at hl 2 rfl) ?_
        refine lv_iload hx hb dX6_play_87 (lv_at hl 4 rfl) ?_
        obtain ⟨r_89, hv_89, hf⟩ := bd1_some hf
        refine kSi (rV (C := RX4) [.int l4_71j] [.int r_83, .int l5_71j, .ref h_a3_rows, .ref h_this] S (c_X4_memberAt l dC dI cI cJ cZ h_a1 h_a1_signs H.size c_a1_count c_a1_signs l4_71j r_89 hv_89) (cwV 1 hts gX6_play_X4_memberAt rfl rfl rfl (by decide +kernel) ⟨Nat.le_of_ble_eq_true rfl, Nat.le_of_ble_eq_true rfl⟩) (va_recv hK hP (ci := 4) (q0 := 1) rfl rfl) hP hD hK hN [1, 2] rfl (by decide +kernel) rfl hl.1 rfl (Nat.le_of_ble_eq_true rfl) dX6_play_89 ⟨Nat.le_of_ble_eq_true rfl, Nat.le_of_ble_eq_true rfl⟩) ?_
        obtain ⟨r_92, c_a3_rows_rung_92, c_a3_rows_rowOf_92, c_a3_rows_placeOf_92, hv_92, hf⟩ := bd4_some hf
        refine kWi (rV (C := RX7) [.int l5_71j, .int r_83, .int r_89] [.ref h_this] S (c_X7_attempt l dC dI cI cJ cZ h_a3_rows h_a3_rows_rowOf h_a3_rows_placeOf H.size c_a3_rows_rung_71j c_a3_rows_rowOf_71j c_a3_rows_placeOf_71j l5_71j r_83 r_89 r_92 c_a3_rows_rung_92 c_a3_rows_rowOf_92 c_a3_rows_placeOf_92 hv_92) (cwV 3 hts gX6_play_X7_attempt rfl rfl rfl (by decide +kernel) ⟨Nat.le_of_ble_eq_true rfl, Nat.le_of_ble_eq_true rfl⟩) (va_recv hK hP (ci := 7) (q0 := 22) rfl rfl) hP hD hK hN [22, 23, 24] rfl (by decide +kernel) rfl hl.1 rfl (Nat.le_of_ble_eq_true rfl) dX6_play_92 ⟨Nat.le_of_ble_eq_true rfl, Nat.le_of_ble_eq_true rfl⟩) hP hD hS hA [22, 23, 24] rfl rfl [none, none, none, none, none, none, none, none, none, none, none, none, none, none, none, none, none, none, none, none, none, none, some 0, some 1, some 2, none, none, none, none, none, none] (by decide +kernel) rfl (fun H locs hP hD hS => ?_)
        have hP : va_P (dC, dI) vwCl (w_X6_play cI cJ cZ h_this h_a1 h_a1_signs h_a2 h_a2_widths h_a2_keys h_a2_cells h_a2_delays h_a2_rows h_a2_rows_rowOf h_a2_rows_placeOf h_a2_rules h_a2_rules_firsts h_a2_rules_seconds h_a2_sights h_a2_sights_firsts h_a2_sights_seconds h_a3 h_a3_widths h_a3_keys h_a3_cells h_a3_delays h_a3_rows h_a3_rows_rowOf h_a3_rows_placeOf h_a3_rules h_a3_rules_firsts h_a3_rules_seconds h_a3_sights h_a3_sights_firsts h_a3_sights_seconds c_acts_71j c_why_71j c_a1_count c_a1_signs c_a2_widths c_a2_keys c_a2_cells c_a2_delays c_a2_rows_rung c_a2_rows_rowOf c_a2_rows_placeOf c_a2_rules_count c_a2_rules_firsts c_a2_rules_seconds c_a2_sights_count c_a2_sights_firsts c_a2_sights_seconds c_a3_widths_25 c_a3_keys_25 c_a3_cells_25 c_a3_delays_25 c_a3_rows_rung_92 c_a3_rows_rowOf_92 c_a3_rows_placeOf_92 c_a3_rules_count_25 c_a3_rules_firsts_25 c_a3_rules_seconds_25 c_a3_sights_count_25 c_a3_sights_firsts_25 c_a3_sights_seconds_25) H := hP
        have hD : va_D A (w_X6_play cI cJ cZ h_this h_a1 h_a1_signs h_a2 h_a2_widths h_a2_keys h_a2_cells h_a2_delays h_a2_rows h_a2_rows_rowOf h_a2_rows_placeOf h_a2_rules h_a2_rules_firsts h_a2_rules_seconds h_a2_sights h_a2_sights_firsts h_a2_sights_seconds h_a3 h_a3_widths h_a3_keys h_a3_cells h_a3_delays h_a3_rows h_a3_rows_rowOf h_a3_rows_placeOf h_a3_rules h_a3_rules_firsts h_a3_rules_seconds h_a3_sights h_a3_sights_firsts h_a3_sights_seconds c_acts_71j c_why_71j c_a1_count c_a1_signs c_a2_widths c_a2_keys c_a2_cells c_a2_delays c_a2_rows_rung c_a2_rows_rowOf c_a2_rows_placeOf c_a2_rules_count c_a2_rules_firsts c_a2_rules_seconds c_a2_sights_count c_a2_sights_firsts c_a2_sights_seconds c_a3_widths_25 c_a3_keys_25 c_a3_cells_25 c_a3_delays_25 c_a3_rows_rung_92 c_a3_rows_rowOf_92 c_a3_rows_placeOf_92 c_a3_rules_count_25 c_a3_rules_firsts_25 c_a3_rules_seconds_25 c_a3_sights_count_25 c_a3_sights_firsts_25 c_a3_sights_seconds_25) := hD
        refine va_put (D := (dC, dI)) (ci := 6) (v := .int r_92) (ty := .int) (C := RX6) (T := TX6) (N := 2) hx hb hts in_X6_play_X6 tyX6 tyX6_ok nmX6 hown hK hP hD hS 0 rfl rfl 1 (by decide) (hts _ m_X6_play_f13) (fun _ h9 => h9) rfl (by decide +kernel) rfl rfl (Nat.le_of_ble_eq_true rfl) dX6_play_95 (fun H locs hP hD hS => ?_)
        have hP : va_P (dC, dI) vwCl (w_X6_play cI cJ cZ h_this h_a1 h_a1_signs h_a2 h_a2_widths h_a2_keys h_a2_cells h_a2_delays h_a2_rows h_a2_rows_rowOf h_a2_rows_placeOf h_a2_rules h_a2_rules_firsts h_a2_rules_seconds h_a2_sights h_a2_sights_firsts h_a2_sights_seconds h_a3 h_a3_widths h_a3_keys h_a3_cells h_a3_delays h_a3_rows h_a3_rows_rowOf h_a3_rows_placeOf h_a3_rules h_a3_rules_firsts h_a3_rules_seconds h_a3_sights h_a3_sights_firsts h_a3_sights_seconds c_acts_71j r_92 c_a1_count c_a1_signs c_a2_widths c_a2_keys c_a2_cells c_a2_delays c_a2_rows_rung c_a2_rows_rowOf c_a2_rows_placeOf c_a2_rules_count c_a2_rules_firsts c_a2_rules_seconds c_a2_sights_count c_a2_sights_firsts c_a2_sights_seconds c_a3_widths_25 c_a3_keys_25 c_a3_cells_25 c_a3_delays_25 c_a3_rows_rung_92 c_a3_rows_rowOf_92 c_a3_rows_placeOf_92 c_a3_rules_count_25 c_a3_rules_firsts_25 c_a3_rules_seconds_25 c_a3_sights_count_25 c_a3_sights_firsts_25 c_a3_sights_seconds_25) H := hP
        have hD : va_D A (w_X6_play cI cJ cZ h_this h_a1 h_a1_signs h_a2 h_a2_widths h_a2_keys h_a2_cells h_a2_delays h_a2_rows h_a2_rows_rowOf h_a2_rows_placeOf h_a2_rules h_a2_rules_firsts h_a2_rules_seconds h_a2_sights h_a2_sights_firsts h_a2_sights_seconds h_a3 h_a3_widths h_a3_keys h_a3_cells h_a3_delays h_a3_rows h_a3_rows_rowOf h_a3_rows_placeOf h_a3_rules h_a3_rules_firsts h_a3_rules_seconds h_a3_sights h_a3_sights_firsts h_a3_sights_seconds c_acts_71j r_92 c_a1_count c_a1_signs c_a2_widths c_a2_keys c_a2_cells c_a2_delays c_a2_rows_rung c_a2_rows_rowOf c_a2_rows_placeOf c_a2_rules_count c_a2_rules_firsts c_a2_rules_seconds c_a2_sights_count c_a2_sights_firsts c_a2_sights_seconds c_a3_widths_25 c_a3_keys_25 c_a3_cells_25 c_a3_delays_25 c_a3_rows_rung_92 c_a3_rows_rowOf_92 c_a3_rows_placeOf_92 c_a3_rules_count_25 c_a3_rules_firsts_25 c_a3_rules_seconds_25 c_a3_sights_count_25 c_a3_sights_firsts_25 c_a3_sights_seconds_25) := hD
        refine lv_aload_n hx hb dX6_play_98 rfl (lv_at hl 1 rfl) ?_
        refine va_get (D := (dC, dI)) (ci := 6) (v := .int r_92) (C := RX6) (T := TX6) (N := 2) hx hb hts in_X6_play_X6 hown hK hP 0 rfl rfl 1 (by decide) (hts _ m_X6_play_f13) (fun _ h9 => h9) rfl dX6_play_99 ?_
        refine lv_if_eq (tgt := 106) hx hb dX6_play_102 (by decide) (fun k_102 => ?_) (fun k_102 => ?_)
        · have hf := ite_t hf k_102
          refine lv_aload_n hx hb dX6_play_106 rfl (lv_at hl 1 rfl) ?_
          refine lv_dup hx hb dX6_play_107 rfl ?_
          refine va_get (D := (dC, dI)) (ci := 6) (v := .int c_acts_71j) (C := RX6) (T := TX6) (N := 2) hx hb hts in_X6_play_X6 hown hK hP 0 rfl rfl 0 (by decide) (hts _ m_X6_play_f7) (fun _ h9 => h9) rfl dX6_play_108 ?_
          refine lv_iconst (v := 1) hx hb dX6_play_111 (by decide) ?_
          refine lv_iadd hx hb dX6_play_112 ?_
          refine va_put (D := (dC, dI)) (ci := 6) (v := .int (c_acts_71j + 1)) (ty := .int) (C := RX6) (T := TX6) (N := 2) hx hb hts in_X6_play_X6 tyX6 tyX6_ok nmX6 hown hK hP hD hS 0 rfl rfl 0 (by decide) (hts _ m_X6_play_f7) (fun _ h9 => h9) rfl (by decide +kernel) rfl rfl (Nat.le_of_ble_eq_true rfl) dX6_play_113 (fun H locs hP hD hS => ?_)
          have hP : va_P (dC, dI) vwCl (w_X6_play cI cJ cZ h_this h_a1 h_a1_signs h_a2 h_a2_widths h_a2_keys h_a2_cells h_a2_delays h_a2_rows h_a2_rows_rowOf h_a2_rows_placeOf h_a2_rules h_a2_rules_firsts h_a2_rules_seconds h_a2_sights h_a2_sights_firsts h_a2_sights_seconds h_a3 h_a3_widths h_a3_keys h_a3_cells h_a3_delays h_a3_rows h_a3_rows_rowOf h_a3_rows_placeOf h_a3_rules h_a3_rules_firsts h_a3_rules_seconds h_a3_sights h_a3_sights_firsts h_a3_sights_seconds (c_acts_71j + 1) r_92 c_a1_count c_a1_signs c_a2_widths c_a2_keys c_a2_cells c_a2_delays c_a2_rows_rung c_a2_rows_rowOf c_a2_rows_placeOf c_a2_rules_count c_a2_rules_firsts c_a2_rules_seconds c_a2_sights_count c_a2_sights_firsts c_a2_sights_seconds c_a3_widths_25 c_a3_keys_25 c_a3_cells_25 c_a3_delays_25 c_a3_rows_rung_92 c_a3_rows_rowOf_92 c_a3_rows_placeOf_92 c_a3_rules_count_25 c_a3_rules_firsts_25 c_a3_rules_seconds_25 c_a3_sights_count_25 c_a3_sights_firsts_25 c_a3_sights_seconds_25) H := hP
          have hD : va_D A (w_X6_play cI cJ cZ h_this h_a1 h_a1_signs h_a2 h_a2_widths h_a2_keys h_a2_cells h_a2_delays h_a2_rows h_a2_rows_rowOf h_a2_rows_placeOf h_a2_rules h_a2_rules_firsts h_a2_rules_seconds h_a2_sights h_a2_sights_firsts h_a2_sights_seconds h_a3 h_a3_widths h_a3_keys h_a3_cells h_a3_delays h_a3_rows h_a3_rows_rowOf h_a3_rows_placeOf h_a3_rules h_a3_rules_firsts h_a3_rules_seconds h_a3_sights h_a3_sights_firsts h_a3_sights_seconds (c_acts_71j + 1) r_92 c_a1_count c_a1_signs c_a2_widths c_a2_keys c_a2_cells c_a2_delays c_a2_rows_rung c_a2_rows_rowOf c_a2_rows_placeOf c_a2_rules_count c_a2_rules_firsts c_a2_rules_seconds c_a2_sights_count c_a2_sights_firsts c_a2_sights_seconds c_a3_widths_25 c_a3_keys_25 c_a3_cells_25 c_a3_delays_25 c_a3_rows_rung_92 c_a3_rows_rowOf_92 c_a3_rows_placeOf_92 c_a3_rules_count_25 c_a3_rules_firsts_25 c_a3_rules_seconds_25 c_a3_sights_count_25 c_a3_sights_firsts_25 c_a3_sights_seconds_25) := hD
          refine lv_iinc (v := (l4_71j + 1)) (lv' := [(4, .int (l4_71j + 1)), (6, .int s0_71j), (0, .ref h_this), (1, .ref h_a1), (3, .ref h_a3), (5, .int l5_71j)]) hx hb dX6_play_116 hl (k := 4) rfl rfl (by decide) rfl (fun ls hl => ?_)
          refine lv_goto (tgt := 31) hx hb dX6_play_119 (by decide) ?_
          exact ih_31 (l4_71j + 1) (c_acts_71j + 1) r_92 c_a3_rows_rung_92 c_a3_rows_rowOf_92 c_a3_rows_placeOf_92 H locs ls hP hD hS (lv_sub hl [2, 3, 4, 0] rfl) (ho1_31 _ (Option.some.inj hf).symm)
        · have hf := ite_f hf k_102
          have e_f := (hqb_31 _ (ho2_31 _ (Option.some.inj hf).symm).symm)
          cases e_f
          exact hret hP hD hS dX6_play_105
      refine lv_iload hx hb dX6_play_31 (lv_at hl 3 rfl) ?_
      refine lv_aload_n hx hb dX6_play_33 rfl (lv_at hl 1 rfl) ?_
      refine va_getN (D := (dC, dI)) (ci := 4) (v := .int c_a1_count) (C := RX4) (T := TX4) (N := 2) hx hb hts in_X6_play_X4 hown hK hP 1 rfl rfl 1 (by decide) (hN.f 28 rfl) (fun _ h9 => h9) rfl dX6_play_34 ?_
      refine lv_icmp_ge (tgt := 122) hx hb dX6_play_37 (by decide) (fun k_37 => ?_) (fun k_37 => ?_)
      · have hf := ite_t hf k_37
        exact K_31 l4_31 c_acts_31 c_why_31 c_a3_rows_rung_31 c_a3_rows_rowOf_31 c_a3_rows_placeOf_31 (ho2_31 _ (Option.some.inj hf).symm).symm H locs ls hP hD hS (lv_sub hl [] rfl)
      · have hf := ite_f hf k_37
        refine lv_aload_n hx hb dX6_play_40 rfl (lv_at hl 1 rfl) ?_
        refine lv_iload hx hb dX6_play_41 (lv_at hl 3 rfl) ?_
        obtain ⟨r_43, hv_43, hf⟩ := bd1_some hf
        refine kSi (rV (C := RX4) [.int l4_31] [] S (c_X4_kindEndingAt l dC dI cI cJ cZ h_a1 h_a1_signs H.size c_a1_count c_a1_signs l4_31 r_43 hv_43) (cwV 1 hts gX6_play_X4_kindEndingAt rfl rfl rfl (by decide +kernel) ⟨Nat.le_of_ble_eq_true rfl, Nat.le_of_ble_eq_true rfl⟩) (va_recv hK hP (ci := 4) (q0 := 1) rfl rfl) hP hD hK hN [1, 2] rfl (by decide +kernel) rfl hl.1 rfl (Nat.le_of_ble_eq_true rfl) dX6_play_43 ⟨Nat.le_of_ble_eq_true rfl, Nat.le_of_ble_eq_true rfl⟩) ?_
        refine lv_istore (lv' := [(5, .int r_43), (0, .ref h_this), (1, .ref h_a1), (3, .ref h_a3), (4, .int l4_31)]) hx hb dX6_play_46 hl (by decide) rfl (fun ls hl => ?_)
        refine lv_iload hx hb dX6_play_48 (lv_at hl 0 rfl) ?_
        refine lv_if_eq (tgt := 116) hx hb dX6_play_50 (by decide) (fun k_50 => ?_) (fun k_50 => ?_)
        · have hf := ite_t hf k_50
          refine lv_iinc (v := (l4_31 + 1)) (lv' := [(4, .int (l4_31 + 1)), (5, .int r_43), (0, .ref h_this), (1, .ref h_a1), (3, .ref h_a3)]) hx hb dX6_play_116 hl (k := 4) rfl rfl (by decide) rfl (fun ls hl => ?_)
          refine lv_goto (tgt := 31) hx hb dX6_play_119 (by decide) ?_
          exact ih_31 (l4_31 + 1) c_acts_31 c_why_31 c_a3_rows_rung_31 c_a3_rows_rowOf_31 c_a3_rows_placeOf_31 H locs ls hP hD hS (lv_sub hl [2, 3, 4, 0] rfl) (ho1_31 _ (Option.some.inj hf).symm)
        · have hf := ite_f hf k_50
          refine lv_iload hx hb dX6_play_53 (lv_at hl 0 rfl) ?_
          refine lv_bipush (v := 120) hx hb dX6_play_55 (by decide) ?_
          refine lv_icmp_ne (tgt := 67) hx hb dX6_play_57 (by decide) (fun k_57 => ?_) (fun k_57 => ?_)
          · have hf := ite_f hf k_57
            refine lv_iload hx hb dX6_play_67 (lv_at hl 4 rfl) ?_
            refine lv_iconst (v := 1) hx hb dX6_play_69 (by decide) ?_
            refine lv_isub hx hb dX6_play_70 ?_
            exact J_71 l4_31 r_43 (l4_31 - 1) c_acts_31 c_why_31 c_a3_rows_rung_31 c_a3_rows_rowOf_31 c_a3_rows_placeOf_31 H locs ls hP hD hS (lv_sub hl [1, 2, 3, 4, 0] rfl) hf
          · have hf := ite_t hf k_57
            refine lv_iload hx hb dX6_play_60 (lv_at hl 4 rfl) ?_
            refine lv_iconst (v := 2) hx hb dX6_play_62 (by decide) ?_
            refine lv_isub hx hb dX6_play_63 ?_
            refine lv_goto (tgt := 71) hx hb dX6_play_64 (by decide) ?_
            exact J_71 l4_31 r_43 (l4_31 - 2) c_acts_31 c_why_31 c_a3_rows_rung_31 c_a3_rows_rowOf_31 c_a3_rows_placeOf_31 H locs ls hP hD hS (lv_sub hl [1, 2, 3, 4, 0] rfl) hf
  exact L_31 FU 0 0 0 c_a3_rows_rung_25 c_a3_rows_rowOf_25 c_a3_rows_placeOf_25 H locs ls hP hD hS (lv_sub hl [1, 2, 4, 0] rfl) hq_31
abbrev w_X1_noteClash (cI cJ cZ : ClassId) (h_this : Nat) (c_twos : Int32) (c_clashes : Int32) (c_first : Int32) (c_where : Int32) (c_firstTurn : Int32) : va_W := [(h_this, .inr (1, [.int c_twos, .int c_clashes, .int c_first, .int c_where, .int c_firstTurn]))]
abbrev rm_X1_noteClash : Room := { frames := 0, cells := 0, slots := 0, locals := 0 }
theorem m_X1_noteClash_f15 : (.fieldLink RX1 15 "WovenRows$Meetings" "clashes" "I" : Cond) ∈ wsX1_noteClash := by decide +kernel
theorem in_X1_noteClash_X1 : ∀ w ∈ u_ws RX1 TX1 5, w ∈ wsX1_noteClash := by decide +kernel
theorem m_X1_noteClash_f18 : (.fieldLink RX1 18 "WovenRows$Meetings" "first" "I" : Cond) ∈ wsX1_noteClash := by decide +kernel
theorem m_X1_noteClash_f21 : (.fieldLink RX1 21 "WovenRows$Meetings" "where" "I" : Cond) ∈ wsX1_noteClash := by decide +kernel
theorem m_X1_noteClash_f24 : (.fieldLink RX1 24 "WovenRows$Meetings" "firstTurn" "I" : Cond) ∈ wsX1_noteClash := by decide +kernel
set_option maxRecDepth 100000 in
set_option maxHeartbeats 4000000 in
theorem c_X1_noteClash (l : Launch) (dC : Nat → ClassId) (dI : Nat → Nat → Nat) (cI cJ cZ : ClassId) (h_this : Nat) (sz : Nat) (c_twos : Int32) (c_clashes : Int32) (c_first : Int32) (c_where : Int32) (c_firstTurn : Int32) (l1 : Int32) (l2 : Int32) (l3 : Int32) (z_clashes : Int32) (z_first : Int32) (z_where : Int32) (z_firstTurn : Int32) (hf : f_X1_noteClash c_clashes c_first c_where c_firstTurn l1 l2 l3 = some (z_clashes, z_first, z_where, z_firstTurn)) : Met l yX1_noteClash wsX1_noteClash rm_X1_noteClash (va_Pc [.ref h_this, .int l1, .int l2, .int l3] (PRE (dC, dI) (TY cI cJ cZ) sz (w_X1_noteClash cI cJ cZ h_this c_twos c_clashes c_first c_where c_firstTurn))) (va_Qv (fun _ : Unit => True) (POW (dC, dI) (va_A (w_X1_noteClash cI cJ cZ h_this c_twos c_clashes c_first c_where c_firstTurn) sz) (w_X1_noteClash cI cJ cZ h_this c_twos z_clashes z_first z_where z_firstTurn)) (va_A (w_X1_noteClash cI cJ cZ h_this c_twos c_clashes c_first c_where c_firstTurn) sz)) 0 0 (va_A (w_X1_noteClash cI cJ cZ h_this c_twos c_clashes c_first c_where c_firstTurn) sz) := by
  refine ofWv (by decide +kernel) rfl (Nat.le_of_ble_eq_true rfl) ?_
  intro p e s m args below meth c Z A ls S hP hD hK hN hA hl hret
  obtain ⟨hx, hb, hml, hown, hts⟩ := id S
  have hown : s.vm.findClass RX1 = some m.cls := hown
  have hS : va_S A s.heap s.heap [] := va_S.rf
  have hl : lv_has ls 4 [(0, .ref h_this), (1, .int l1), (2, .int l2), (3, .int l3)] := hl
  unfold f_X1_noteClash at hf
  have J_30 : ∀ (c_clashes_30j : Int32) (c_first_30j : Int32) (c_where_30j : Int32) (c_firstTurn_30j : Int32) (H : Heap) (locs : List Loc) (ls : Array Slot), va_P (dC, dI) vwCl (w_X1_noteClash cI cJ cZ h_this c_twos c_clashes_30j c_first_30j c_where_30j c_firstTurn_30j) H → va_D A (w_X1_noteClash cI cJ cZ h_this c_twos c_clashes_30j c_first_30j c_where_30j c_firstTurn_30j) → va_S A s.heap H locs → lv_has ls 4 [(0, .ref h_this)] → f_X1_noteClash_j30 c_clashes_30j c_first_30j c_where_30j c_firstTurn_30j = some (z_clashes, z_first, z_where, z_firstTurn) → W p l e rm_X1_noteClash s m args below meth c H locs 0 0 Z (F0 m 30 ls []) := by
    intro c_clashes_30j c_first_30j c_where_30j c_firstTurn_30j H locs ls hP hD hS hl hf
    unfold f_X1_noteClash_j30 at hf
    refine lv_aload_n hx hb dX1_noteClash_30 rfl (lv_at hl 0 rfl) ?_
    refine lv_dup hx hb dX1_noteClash_31 rfl ?_
    refine va_get (D := (dC, dI)) (ci := 1) (v := .int c_clashes_30j) (C := RX1) (T := TX1) (N := 5) hx hb hts in_X1_noteClash_X1 hown hK hP 0 rfl rfl 1 (by decide) (hts _ m_X1_noteClash_f15) (fun _ h9 => h9) rfl dX1_noteClash_32 ?_
    refine lv_iconst (v := 1) hx hb dX1_noteClash_35 (by decide) ?_
    refine lv_iadd hx hb dX1_noteClash_36 ?_
    refine va_put (D := (dC, dI)) (ci := 1) (v := .int (c_clashes_30j + 1)) (ty := .int) (C := RX1) (T := TX1) (N := 5) hx hb hts in_X1_noteClash_X1 tyX1 tyX1_ok nmX1 hown hK hP hD hS 0 rfl rfl 1 (by decide) (hts _ m_X1_noteClash_f15) (fun _ h9 => h9) rfl (by decide +kernel) rfl rfl (Nat.le_of_ble_eq_true rfl) dX1_noteClash_37 (fun H locs hP hD hS => ?_)
    have hP : va_P (dC, dI) vwCl (w_X1_noteClash cI cJ cZ h_this c_twos (c_clashes_30j + 1) c_first_30j c_where_30j c_firstTurn_30j) H := hP
    have hD : va_D A (w_X1_noteClash cI cJ cZ h_this c_twos (c_clashes_30j + 1) c_first_30j c_where_30j c_firstTurn_30j) := hD
    have e_f := Option.some.inj hf
    cases e_f
    exact hret hP hD hS dX1_noteClash_40
  have J_15 : ∀ (c_clashes_15j : Int32) (c_first_15j : Int32) (c_where_15j : Int32) (c_firstTurn_15j : Int32) (H : Heap) (locs : List Loc) (ls : Array Slot), va_P (dC, dI) vwCl (w_X1_noteClash cI cJ cZ h_this c_twos c_clashes_15j c_first_15j c_where_15j c_firstTurn_15j) H → va_D A (w_X1_noteClash cI cJ cZ h_this c_twos c_clashes_15j c_first_15j c_where_15j c_firstTurn_15j) → va_S A s.heap H locs → lv_has ls 4 [(0, .ref h_this), (1, .int l1), (2, .int l2), (3, .int l3)] → f_X1_noteClash_j15 l1 l2 l3 c_clashes_15j = some (z_clashes, z_first, z_where, z_firstTurn) → W p l e rm_X1_noteClash s m args below meth c H locs 0 0 Z (F0 m 15 ls []) := by
    intro c_clashes_15j c_first_15j c_where_15j c_firstTurn_15j H locs ls hP hD hS hl hf
    unfold f_X1_noteClash_j15 at hf
    refine lv_aload_n hx hb dX1_noteClash_15 rfl (lv_at hl 0 rfl) ?_
    refine lv_iload_n hx hb dX1_noteClash_16 rfl (lv_at hl 1 rfl) ?_
    refine va_put (D := (dC, dI)) (ci := 1) (v := .int l1) (ty := .int) (C := RX1) (T := TX1) (N := 5) hx hb hts in_X1_noteClash_X1 tyX1 tyX1_ok nmX1 hown hK hP hD hS 0 rfl rfl 2 (by decide) (hts _ m_X1_noteClash_f18) (fun _ h9 => h9) rfl (by decide +kernel) rfl rfl (Nat.le_of_ble_eq_true rfl) dX1_noteClash_17 (fun H locs hP hD hS => ?_)
    have hP : va_P (dC, dI) vwCl (w_X1_noteClash cI cJ cZ h_this c_twos c_clashes_15j l1 c_where_15j c_firstTurn_15j) H := hP
    have hD : va_D A (w_X1_noteClash cI cJ cZ h_this c_twos c_clashes_15j l1 c_where_15j c_firstTurn_15j) := hD
    refine lv_aload_n hx hb dX1_noteClash_20 rfl (lv_at hl 0 rfl) ?_
    refine lv_iload_n hx hb dX1_noteClash_21 rfl (lv_at hl 2 rfl) ?_
    refine va_put (D := (dC, dI)) (ci := 1) (v := .int l2) (ty := .int) (C := RX1) (T := TX1) (N := 5) hx hb hts in_X1_noteClash_X1 tyX1 tyX1_ok nmX1 hown hK hP hD hS 0 rfl rfl 3 (by decide) (hts _ m_X1_noteClash_f21) (fun _ h9 => h9) rfl (by decide +kernel) rfl rfl (Nat.le_of_ble_eq_true rfl) dX1_noteClash_22 (fun H locs hP hD hS => ?_)
    have hP : va_P (dC, dI) vwCl (w_X1_noteClash cI cJ cZ h_this c_twos c_clashes_15j l1 l2 c_firstTurn_15j) H := hP
    have hD : va_D A (w_X1_noteClash cI cJ cZ h_this c_twos c_clashes_15j l1 l2 c_firstTurn_15j) := hD
    refine lv_aload_n hx hb dX1_noteClash_25 rfl (lv_at hl 0 rfl) ?_
    refine lv_iload_n hx hb dX1_noteClash_26 rfl (lv_at hl 3 rfl) ?_
    refine va_put (D := (dC, dI)) (ci := 1) (v := .int l3) (ty := .int) (C := RX1) (T := TX1) (N := 5) hx hb hts in_X1_noteClash_X1 tyX1 tyX1_ok nmX1 hown hK hP hD hS 0 rfl rfl 4 (by decide) (hts _ m_X1_noteClash_f24) (fun _ h9 => h9) rfl (by decide +kernel) rfl rfl (Nat.le_of_ble_eq_true rfl) dX1_noteClash_27 (fun H locs hP hD hS => ?_)
    have hP : va_P (dC, dI) vwCl (w_X1_noteClash cI cJ cZ h_this c_twos c_clashes_15j l1 l2 l3) H := hP
    have hD : va_D A (w_X1_noteClash cI cJ cZ h_this c_twos c_clashes_15j l1 l2 l3) := hD
    exact J_30 c_clashes_15j l1 l2 l3 H locs ls hP hD hS (lv_sub hl [0] rfl) hf
  refine lv_aload_n hx hb dX1_noteClash_0 rfl (lv_at hl 0 rfl) ?_
  refine va_get (D := (dC, dI)) (ci := 1) (v := .int c_clashes) (C := RX1) (T := TX1) (N := 5) hx hb hts in_X1_noteClash_X1 hown hK hP 0 rfl rfl 1 (by decide) (hts _ m_X1_noteClash_f15) (fun _ h9 => h9) rfl dX1_noteClash_1 ?_
  refine lv_if_eq (tgt := 15) hx hb dX1_noteClash_4 (by decide) (fun k_4 => ?_) (fun k_4 => ?_)
  · have hf := ite_t hf k_4
    exact J_15 c_clashes c_first c_where c_firstTurn s.heap [] ls hP hD hS (lv_sub hl [0, 1, 2, 3] rfl) hf
  · have hf := ite_f hf k_4
    refine lv_iload_n hx hb dX1_noteClash_7 rfl (lv_at hl 3 rfl) ?_
    refine lv_aload_n hx hb dX1_noteClash_8 rfl (lv_at hl 0 rfl) ?_
    refine va_get (D := (dC, dI)) (ci := 1) (v := .int c_firstTurn) (C := RX1) (T := TX1) (N := 5) hx hb hts in_X1_noteClash_X1 hown hK hP 0 rfl rfl 4 (by decide) (hts _ m_X1_noteClash_f24) (fun _ h9 => h9) rfl dX1_noteClash_9 ?_
    refine lv_icmp_ge (tgt := 30) hx hb dX1_noteClash_12 (by decide) (fun k_12 => ?_) (fun k_12 => ?_)
    · have hf := ite_t hf k_12
      exact J_30 c_clashes c_first c_where c_firstTurn s.heap [] ls hP hD hS (lv_sub hl [0] rfl) hf
    · have hf := ite_f hf k_12
      exact J_15 c_clashes c_first c_where c_firstTurn s.heap [] ls hP hD hS (lv_sub hl [0, 1, 2, 3] rfl) hf
abbrev w_X1_countOf (cI cJ cZ : ClassId) (h_this h_a1 h_a1_widths h_a1_cells h_a1_delays h_a1_rows h_a1_rows_rowOf h_a1_rows_placeOf g_a1_keys g_a1_rules g_a1_sights : Nat) (c_twos : Int32) (c_clashes : Int32) (c_first : Int32) (c_where : Int32) (c_firstTurn : Int32) (c_a1_widths : Nat → Int32) (c_a1_cells : Nat → Int32) (c_a1_delays : Nat → Int32) (c_a1_rows_rung : Int32) (c_a1_rows_rowOf : Nat → Int32) (c_a1_rows_placeOf : Nat → Int32) : va_W := [(h_this, .inr (1, [.int c_twos, .int c_clashes, .int c_first, .int c_where, .int c_firstTurn])), (h_a1, .inr (8, [.ref h_a1_widths, .ref g_a1_keys, .ref h_a1_cells, .ref h_a1_delays, .ref h_a1_rows, .ref g_a1_rules, .ref g_a1_sights])), (h_a1_widths, .inl (cI, 10, .inl c_a1_widths)), (h_a1_cells, .inl (cI, 17, .inl c_a1_cells)), (h_a1_delays, .inl (cI, 2, .inl c_a1_delays)), (h_a1_rows, .inr (7, [.ref h_a1_rows_rowOf, .ref h_a1_rows_placeOf, .int c_a1_rows_rung])), (h_a1_rows_rowOf, .inl (cI, 10, .inl c_a1_rows_rowOf)), (h_a1_rows_placeOf, .inl (cI, 10, .inl c_a1_rows_placeOf))]
abbrev rm_X1_countOf : Room := { frames := 2, cells := 0, slots := 0, locals := 45 }
theorem in_X1_countOf_X8 : ∀ w ∈ u_ws RX8 TX8 7, w ∈ wsX1_countOf := by decide +kernel
theorem in_X1_countOf_X7 : ∀ w ∈ u_ws RX7 TX7 3, w ∈ wsX1_countOf := by decide +kernel
theorem m_X1_countOf_f9 : (.fieldLink RX1 9 "WovenRows$Meetings" "twos" "I" : Cond) ∈ wsX1_countOf := by decide +kernel
theorem in_X1_countOf_X1 : ∀ w ∈ u_ws RX1 TX1 5, w ∈ wsX1_countOf := by decide +kernel
theorem m_X1_countOf_iX10 : (.initialized RX10 : Cond) ∈ wsX1_countOf := by decide +kernel
theorem m_X1_countOf_st_X10_at : (.static yX10_at : Cond) ∈ wsX1_countOf := by decide +kernel
set_option maxRecDepth 100000 in
set_option maxHeartbeats 4000000 in
theorem c_X1_countOf (l : Launch) (dC : Nat → ClassId) (dI : Nat → Nat → Nat) (cI cJ cZ : ClassId) (h_this h_a1 h_a1_widths h_a1_cells h_a1_delays h_a1_rows h_a1_rows_rowOf h_a1_rows_placeOf g_a1_keys g_a1_rules g_a1_sights : Nat) (sz : Nat) (c_twos : Int32) (c_clashes : Int32) (c_first : Int32) (c_where : Int32) (c_firstTurn : Int32) (c_a1_widths : Nat → Int32) (c_a1_cells : Nat → Int32) (c_a1_delays : Nat → Int32) (c_a1_rows_rung : Int32) (c_a1_rows_rowOf : Nat → Int32) (c_a1_rows_placeOf : Nat → Int32) (l2 : Int32) (z_twos : Int32) (z_clashes : Int32) (z_first : Int32) (z_where : Int32) (z_firstTurn : Int32) (hf : f_X1_countOf c_twos c_clashes c_first c_where c_firstTurn c_a1_widths c_a1_cells c_a1_delays c_a1_rows_rowOf c_a1_rows_placeOf l2 = some (z_twos, z_clashes, z_first, z_where, z_firstTurn)) : Met l yX1_countOf wsX1_countOf rm_X1_countOf (va_Pc [.ref h_this, .ref h_a1, .int l2] (PRE (dC, dI) (TY cI cJ cZ) sz (w_X1_countOf cI cJ cZ h_this h_a1 h_a1_widths h_a1_cells h_a1_delays h_a1_rows h_a1_rows_rowOf h_a1_rows_placeOf g_a1_keys g_a1_rules g_a1_sights c_twos c_clashes c_first c_where c_firstTurn c_a1_widths c_a1_cells c_a1_delays c_a1_rows_rung c_a1_rows_rowOf c_a1_rows_placeOf))) (va_Qv (fun _ : Unit => True) (POW (dC, dI) (va_A (w_X1_countOf cI cJ cZ h_this h_a1 h_a1_widths h_a1_cells h_a1_delays h_a1_rows h_a1_rows_rowOf h_a1_rows_placeOf g_a1_keys g_a1_rules g_a1_sights c_twos c_clashes c_first c_where c_firstTurn c_a1_widths c_a1_cells c_a1_delays c_a1_rows_rung c_a1_rows_rowOf c_a1_rows_placeOf) sz) (w_X1_countOf cI cJ cZ h_this h_a1 h_a1_widths h_a1_cells h_a1_delays h_a1_rows h_a1_rows_rowOf h_a1_rows_placeOf g_a1_keys g_a1_rules g_a1_sights z_twos z_clashes z_first z_where z_firstTurn c_a1_widths c_a1_cells c_a1_delays c_a1_rows_rung c_a1_rows_rowOf c_a1_rows_placeOf)) (va_A (w_X1_countOf cI cJ cZ h_this h_a1 h_a1_widths h_a1_cells h_a1_delays h_a1_rows h_a1_rows_rowOf h_a1_rows_placeOf g_a1_keys g_a1_rules g_a1_sights c_twos c_clashes c_first c_where c_firstTurn c_a1_widths c_a1_cells c_a1_delays c_a1_rows_rung c_a1_rows_rowOf c_a1_rows_placeOf) sz)) 0 0 (va_A (w_X1_countOf cI cJ cZ h_this h_a1 h_a1_widths h_a1_cells h_a1_delays h_a1_rows h_a1_rows_rowOf h_a1_rows_placeOf g_a1_keys g_a1_rules g_a1_sights c_twos c_clashes c_first c_where c_firstTurn c_a1_widths c_a1_cells c_a1_delays c_a1_rows_rung c_a1_rows_rowOf c_a1_rows_placeOf) sz) := by
  refine ofWv (by decide +kernel) rfl (Nat.le_of_ble_eq_true rfl) ?_
  intro p e s m args below meth c Z A ls S hP hD hK hN hA hl hret
  obtain ⟨hx, hb, hml, hown, hts⟩ := id S
  have hown : s.vm.findClass RX1 = some m.cls := hown
  have hS : va_S A s.heap s.heap [] := va_S.rf
  have hl : lv_has ls 7 [(0, .ref h_this), (1, .ref h_a1), (2, .int l2)] := hl
  unfold f_X1_countOf at hf
  refine lv_aload_n hx hb dX1_countOf_0 rfl (lv_at hl 1 rfl) ?_
  refine lv_iload_n hx hb dX1_countOf_1 rfl (lv_at hl 2 rfl) ?_
  obtain ⟨r_2, hv_2, hf⟩ := bd1_some hf
  refine kSi (rV (C := RX8) [.int l2] [] S (c_X8_startOf l dC dI cI cJ cZ h_a1 h_a1_delays h_a1_rows h_a1_rows_rowOf h_a1_rows_placeOf h_a1_widths g_a1_keys h_a1_cells g_a1_rules g_a1_sights s.heap.size c_a1_delays c_a1_rows_rung c_a1_rows_rowOf c_a1_rows_placeOf l2 r_2 hv_2) (cwV 1 hts gX1_countOf_X8_startOf rfl rfl rfl (by decide +kernel) ⟨Nat.le_of_ble_eq_true rfl, Nat.le_of_ble_eq_true rfl⟩) (va_recv hK hP (ci := 8) (q0 := 1) rfl rfl) hP hD hK hN [1, 4, 5, 6, 7] rfl (by decide +kernel) rfl hl.1 rfl (Nat.le_of_ble_eq_true rfl) dX1_countOf_2 ⟨Nat.le_of_ble_eq_true rfl, Nat.le_of_ble_eq_true rfl⟩) ?_
  refine lv_istore_n (lv' := [(3, .int r_2), (0, .ref h_this), (1, .ref h_a1), (2, .int l2)]) hx hb dX1_countOf_5 rfl hl (by decide) rfl (fun ls hl => ?_)
  refine lv_iconst (v := 0) hx hb dX1_countOf_6 (by decide) ?_
  refine lv_istore (lv' := [(4, .int 0), (3, .int r_2), (0, .ref h_this), (1, .ref h_a1), (2, .int l2)]) hx hb dX1_countOf_7 hl (by decide) rfl (fun ls hl => ?_)
  obtain ⟨l4_9x, c_twos_9x, c_clashes_9x, c_first_9x, c_where_9x, c_firstTurn_9x, hq_9, hf⟩ := bd6_some hf
  have K_9 : ∀ (H : Heap) (locs : List Loc) (ls : Array Slot), va_P (dC, dI) vwCl (w_X1_countOf cI cJ cZ h_this h_a1 h_a1_widths h_a1_cells h_a1_delays h_a1_rows h_a1_rows_rowOf h_a1_rows_placeOf g_a1_keys g_a1_rules g_a1_sights c_twos_9x c_clashes_9x c_first_9x c_where_9x c_firstTurn_9x c_a1_widths c_a1_cells c_a1_delays c_a1_rows_rung c_a1_rows_rowOf c_a1_rows_placeOf) H → va_D A (w_X1_countOf cI cJ cZ h_this h_a1 h_a1_widths h_a1_cells h_a1_delays h_a1_rows h_a1_rows_rowOf h_a1_rows_placeOf g_a1_keys g_a1_rules g_a1_sights c_twos_9x c_clashes_9x c_first_9x c_where_9x c_firstTurn_9x c_a1_widths c_a1_cells c_a1_delays c_a1_rows_rung c_a1_rows_rowOf c_a1_rows_placeOf) → va_S A s.heap H locs → lv_has ls 7 [] → W p l e rm_X1_countOf s m args below meth c H locs 0 0 Z (F0 m 122 ls []) := by
    intro H locs ls hP hD hS hl
    have e_f := Option.some.inj hf
    cases e_f
    exact hret hP hD hS dX1_countOf_122
  have L_9 : ∀ (n : Nat) (l4_9 : Int32) (c_twos_9 : Int32) (c_clashes_9 : Int32) (c_first_9 : Int32) (c_where_9 : Int32) (c_firstTurn_9 : Int32) (H : Heap) (locs : List Loc) (ls : Array Slot), va_P (dC, dI) vwCl (w_X1_countOf cI cJ cZ h_this h_a1 h_a1_widths h_a1_cells h_a1_delays h_a1_rows h_a1_rows_rowOf h_a1_rows_placeOf g_a1_keys g_a1_rules g_a1_sights c_twos_9 c_clashes_9 c_first_9 c_where_9 c_firstTurn_9 c_a1_widths c_a1_cells c_a1_delays c_a1_rows_rung c_a1_rows_rowOf c_a1_rows_placeOf) H → va_D A (w_X1_countOf cI cJ cZ h_this h_a1 h_a1_widths h_a1_cells h_a1_delays h_a1_rows h_a1_rows_rowOf h_a1_rows_placeOf g_a1_keys g_a1_rules g_a1_sights c_twos_9 c_clashes_9 c_first_9 c_where_9 c_firstTurn_9 c_a1_widths c_a1_cells c_a1_delays c_a1_rows_rung c_a1_rows_rowOf c_a1_rows_placeOf) → va_S A s.heap H locs → lv_has ls 7 [(0, .ref h_this), (1, .ref h_a1), (2, .int l2), (3, .int r_2), (4, .int l4_9)] → loopN (fun (q : Int32 × Int32 × Int32 × Int32 × Int32 × Int32) => f_X1_countOf_b9 c_a1_widths c_a1_cells c_a1_delays c_a1_rows_rowOf c_a1_rows_placeOf l2 r_2 q.1 q.2.1 q.2.2.1 q.2.2.2.1 q.2.2.2.2.1 q.2.2.2.2.2) n (l4_9, c_twos_9, c_clashes_9, c_first_9, c_where_9, c_firstTurn_9) = some (l4_9x, c_twos_9x, c_clashes_9x, c_first_9x, c_where_9x, c_firstTurn_9x) → W p l e rm_X1_countOf s m args below meth c H locs 0 0 Z (F0 m 9 ls []) := by
    intro n
    induction n with
    | zero => intro l4_9 c_twos_9 c_clashes_9 c_first_9 c_where_9 c_firstTurn_9 H locs ls hP hD hS hl hq; exact (loopN_zero hq).elim
    | succ n ih_9 =>
      intro l4_9 c_twos_9 c_clashes_9 c_first_9 c_where_9 c_firstTurn_9 H locs ls hP hD hS hl hq
      obtain ⟨o_9, hf, ho1_9, ho2_9⟩ := loopN_step hq
      have hf : f_X1_countOf_b9 c_a1_widths c_a1_cells c_a1_delays c_a1_rows_rowOf c_a1_rows_placeOf l2 r_2 l4_9 c_twos_9 c_clashes_9 c_first_9 c_where_9 c_firstTurn_9 = some o_9 := hf
      unfold f_X1_countOf_b9 at hf
      have J_64 : ∀ (l4_64j : Int32) (l5_64j : Int32) (c_twos_64j : Int32) (c_clashes_64j : Int32) (c_first_64j : Int32) (c_where_64j : Int32) (c_firstTurn_64j : Int32) (H : Heap) (locs : List Loc) (ls : Array Slot), va_P (dC, dI) vwCl (w_X1_countOf cI cJ cZ h_this h_a1 h_a1_widths h_a1_cells h_a1_delays h_a1_rows h_a1_rows_rowOf h_a1_rows_placeOf g_a1_keys g_a1_rules g_a1_sights c_twos_64j c_clashes_64j c_first_64j c_where_64j c_firstTurn_64j c_a1_widths c_a1_cells c_a1_delays c_a1_rows_rung c_a1_rows_rowOf c_a1_rows_placeOf) H → va_D A (w_X1_countOf cI cJ cZ h_this h_a1 h_a1_widths h_a1_cells h_a1_delays h_a1_rows h_a1_rows_rowOf h_a1_rows_placeOf g_a1_keys g_a1_rules g_a1_sights c_twos_64j c_clashes_64j c_first_64j c_where_64j c_firstTurn_64j c_a1_widths c_a1_cells c_a1_delays c_a1_rows_rung c_a1_rows_rowOf c_a1_rows_placeOf) → va_S A s.heap H locs → lv_has ls 7 [(0, .ref h_this), (1, .ref h_a1), (2, .int l2), (3, .int r_2), (4, .int l4_64j), (5, .int l5_64j)] → f_X1_countOf_j64 c_a1_widths c_a1_cells c_a1_delays c_a1_rows_rowOf c_a1_rows_placeOf l2 r_2 l4_64j l5_64j c_twos_64j c_clashes_64j c_first_64j c_where_64j c_firstTurn_64j = some o_9 → W p l e rm_X1_countOf s m args below meth c H locs 0 0 Z (F0 m 64 ls []) := by
        intro l4_64j l5_64j c_twos_64j c_clashes_64j c_first_64j c_where_64j c_firstTurn_64j H locs ls hP hD hS hl hf
        unfold f_X1_countOf_j64 at hf
        refine lv_aload_n hx hb dX1_countOf_64 rfl (lv_at hl 1 rfl) ?_
        refine lv_iload hx hb dX1_countOf_65 (lv_at hl 5 rfl) ?_
        refine lv_iload_n hx hb dX1_countOf_67 rfl (lv_at hl 2 rfl) ?_
        refine lv_iload hx hb dX1_countOf_68 (lv_at hl 4 rfl) ?_
        obtain ⟨r_70, hv_70, hf⟩ := bd1_some hf
        refine kSi (rV (C := RX8) [.int l5_64j, .int l2, .int l4_64j] [] S (c_X8_clash l dC dI cI cJ cZ h_a1 h_a1_widths h_a1_cells g_a1_keys h_a1_delays h_a1_rows g_a1_rules g_a1_sights H.size c_a1_widths c_a1_cells l5_64j l2 l4_64j r_70 hv_70) (cwV 3 hts gX1_countOf_X8_clash rfl rfl rfl (by decide +kernel) ⟨Nat.le_of_ble_eq_true rfl, Nat.le_of_ble_eq_true rfl⟩) (va_recv hK hP (ci := 8) (q0 := 1) rfl rfl) hP hD hK hN [1, 2, 3] rfl (by decide +kernel) rfl hl.1 rfl (Nat.le_of_ble_eq_true rfl) dX1_countOf_70 ⟨Nat.le_of_ble_eq_true rfl, Nat.le_of_ble_eq_true rfl⟩) ?_
        refine lv_if_eq (tgt := 116) hx hb dX1_countOf_73 (by decide) (fun k_73 => ?_) (fun k_73 => ?_)
        · have hf := ite_t hf k_73
          refine lv_iinc (v := (l4_64j + 1)) (lv' := [(4, .int (l4_64j + 1)), (0, .ref h_this), (1, .ref h_a1), (2, .int l2), (3, .int r_2), (5, .int l5_64j)]) hx hb dX1_countOf_116 hl (k := 4) rfl rfl (by decide) rfl (fun ls hl => ?_)
          refine lv_goto (tgt := 9) hx hb dX1_countOf_119 (by decide) ?_
          exact ih_9 (l4_64j + 1) c_twos_64j c_clashes_64j c_first_64j c_where_64j c_firstTurn_64j H locs ls hP hD hS (lv_sub hl [1, 2, 3, 4, 0] rfl) (ho1_9 _ (Option.some.inj hf).symm)
        · have hf := ite_f hf k_73
          refine lv_iload_n hx hb dX1_countOf_76 rfl (lv_at hl 3 rfl) ?_
          refine lv_aload_n hx hb dX1_countOf_77 rfl (lv_at hl 1 rfl) ?_
          refine lv_iload hx hb dX1_countOf_78 (lv_at hl 4 rfl) ?_
          obtain ⟨r_80, hv_80, hf⟩ := bd1_some hf
          refine kSi (rV (C := RX8) [.int l4_64j] [.int r_2] S (c_X8_startOf l dC dI cI cJ cZ h_a1 h_a1_delays h_a1_rows h_a1_rows_rowOf h_a1_rows_placeOf h_a1_widths g_a1_keys h_a1_cells g_a1_rules g_a1_sights H.size c_a1_delays c_a1_rows_rung c_a1_rows_rowOf c_a1_rows_placeOf l4_64j r_80 hv_80) (cwV 1 hts gX1_countOf_X8_startOf rfl rfl rfl (by decide +kernel) ⟨Nat.le_of_ble_eq_true rfl, Nat.le_of_ble_eq_true rfl⟩) (va_recv hK hP (ci := 8) (q0 := 1) rfl rfl) hP hD hK hN [1, 4, 5, 6, 7] rfl (by decide +kernel) rfl hl.1 rfl (Nat.le_of_ble_eq_true rfl) dX1_countOf_80 ⟨Nat.le_of_ble_eq_true rfl, Nat.le_of_ble_eq_true rfl⟩) ?_
          refine lv_iadd hx hb dX1_countOf_83 ?_
          refine lv_bipush (v := 6) hx hb dX1_countOf_84 (by decide) ?_
          refine lv_imul hx hb dX1_countOf_86 ?_
          refine lv_aload_n hx hb dX1_countOf_87 rfl (lv_at hl 1 rfl) ?_
          refine va_getN (D := (dC, dI)) (ci := 8) (v := .ref h_a1_rows) (C := RX8) (T := TX8) (N := 7) hx hb hts in_X1_countOf_X8 hown hK hP 1 rfl rfl 4 (by decide) (hN.f 22 rfl) (fun _ h9 => h9) rfl dX1_countOf_88 ?_
          refine va_getN (D := (dC, dI)) (ci := 7) (v := .ref h_a1_rows_placeOf) (C := RX7) (T := TX7) (N := 3) hx hb hts in_X1_countOf_X7 hown hK hP 5 rfl rfl 1 (by decide) (hN.f 6 rfl) (fun _ h9 => h9) rfl dX1_countOf_91 ?_
          refine lv_iload_n hx hb dX1_countOf_94 rfl (lv_at hl 2 rfl) ?_
          obtain ⟨r_95, hv_95, hf⟩ := bd1_some hf
          refine kSi (rSN (host := "WovenRows") [.ref h_a1_rows_placeOf, .int l2] [.int ((r_2 + r_80) * 6)] S (c_X10_at l dC dI cI cJ cZ h_a1_rows_placeOf H.size 10 c_a1_rows_placeOf l2 r_95 hv_95) ⟨va_cnB 2 hts gX1_countOf_X10_at_n39 rfl rfl rfl (hN.m 16 rfl) (hts _ m_X1_countOf_iX10) (by decide +kernel) ⟨Nat.le_of_ble_eq_true rfl, Nat.le_of_ble_eq_true rfl⟩, hts _ m_X1_countOf_st_X10_at, trivial⟩ hP hD hK hN [7] rfl (by decide +kernel) rfl hl.1 rfl (Nat.le_of_ble_eq_true rfl) dX1_countOf_95 ⟨Nat.le_of_ble_eq_true rfl, Nat.le_of_ble_eq_true rfl⟩) ?_
          refine lv_iadd hx hb dX1_countOf_98 ?_
          refine lv_istore (lv' := [(6, .int (((r_2 + r_80) * 6) + r_95)), (0, .ref h_this), (1, .ref h_a1), (2, .int l2), (3, .int r_2), (4, .int l4_64j), (5, .int l5_64j)]) hx hb dX1_countOf_99 hl (by decide) rfl (fun ls hl => ?_)
          refine lv_aload_n hx hb dX1_countOf_101 rfl (lv_at hl 1 rfl) ?_
          refine lv_bipush (v := 10) hx hb dX1_countOf_102 (by decide) ?_
          refine lv_iload_n hx hb dX1_countOf_104 rfl (lv_at hl 3 rfl) ?_
          refine lv_imul hx hb dX1_countOf_105 ?_
          refine lv_iload hx hb dX1_countOf_106 (lv_at hl 5 rfl) ?_
          refine lv_iadd hx hb dX1_countOf_108 ?_
          refine lv_iload hx hb dX1_countOf_109 (lv_at hl 6 rfl) ?_
          refine lv_iload hx hb dX1_countOf_111 (lv_at hl 0 rfl) ?_
          obtain ⟨c_clashes_113, c_first_113, c_where_113, c_firstTurn_113, hv_113, hf⟩ := bd4_some hf
          refine kWv (rV (C := RX1) [.int ((10 * l2) + l4_64j), .int l5_64j, .int (((r_2 + r_80) * 6) + r_95)] [] S (c_X1_noteClash l dC dI cI cJ cZ h_this H.size c_twos_64j c_clashes_64j c_first_64j c_where_64j c_firstTurn_64j ((10 * l2) + l4_64j) l5_64j (((r_2 + r_80) * 6) + r_95) c_clashes_113 c_first_113 c_where_113 c_firstTurn_113 hv_113) (cwV 3 hts gX1_countOf_X1_noteClash rfl rfl rfl (by decide +kernel) ⟨Nat.le_of_ble_eq_true rfl, Nat.le_of_ble_eq_true rfl⟩) (va_recv hK hP (ci := 1) (q0 := 0) rfl rfl) hP hD hK hN [0] rfl (by decide +kernel) rfl hl.1 rfl (Nat.le_of_ble_eq_true rfl) dX1_countOf_113 ⟨Nat.le_of_ble_eq_true rfl, Nat.le_of_ble_eq_true rfl⟩) hP hD hS hA [0] rfl rfl [some 0, none, none, none, none, none, none, none] (by decide +kernel) rfl (fun H locs hP hD hS => ?_)
          have hP : va_P (dC, dI) vwCl (w_X1_countOf cI cJ cZ h_this h_a1 h_a1_widths h_a1_cells h_a1_delays h_a1_rows h_a1_rows_rowOf h_a1_rows_placeOf g_a1_keys g_a1_rules g_a1_sights c_twos_64j c_clashes_113 c_first_113 c_where_113 c_firstTurn_113 c_a1_widths c_a1_cells c_a1_delays c_a1_rows_rung c_a1_rows_rowOf c_a1_rows_placeOf) H := hP
          have hD : va_D A (w_X1_countOf cI cJ cZ h_this h_a1 h_a1_widths h_a1_cells h_a1_delays h_a1_rows h_a1_rows_rowOf h_a1_rows_placeOf g_a1_keys g_a1_rules g_a1_sights c_twos_64j c_clashes_113 c_first_113 c_where_113 c_firstTurn_113 c_a1_widths c_a1_cells c_a1_delays c_a1_rows_rung c_a1_rows_rowOf c_a1_rows_placeOf) := hD
          refine lv_iinc (v := (l4_64j + 1)) (lv' := [(4, .int (l4_64j + 1)), (6, .int (((r_2 + r_80) * 6) + r_95)), (0, .ref h_this), (1, .ref h_a1), (2, .int l2), (3, .int r_2), (5, .int l5_64j)]) hx hb dX1_countOf_116 hl (k := 5) rfl rfl (by decide) rfl (fun ls hl => ?_)
          refine lv_goto (tgt := 9) hx hb dX1_countOf_119 (by decide) ?_
          exact ih_9 (l4_64j + 1) c_twos_64j c_clashes_113 c_first_113 c_where_113 c_firstTurn_113 H locs ls hP hD hS (lv_sub hl [2, 3, 4, 5, 0] rfl) (ho1_9 _ (Option.some.inj hf).symm)
      refine lv_iload hx hb dX1_countOf_9 (lv_at hl 4 rfl) ?_
      refine lv_bipush (v := 10) hx hb dX1_countOf_11 (by decide) ?_
      refine lv_icmp_ge (tgt := 122) hx hb dX1_countOf_13 (by decide) (fun k_13 => ?_) (fun k_13 => ?_)
      · have hf := ite_t hf k_13
        have e_9 := ho2_9 _ (Option.some.inj hf).symm
        cases e_9
        exact K_9 H locs ls hP hD hS (lv_sub hl [] rfl)
      · have hf := ite_f hf k_13
        refine lv_aload_n hx hb dX1_countOf_16 rfl (lv_at hl 1 rfl) ?_
        refine va_getN (D := (dC, dI)) (ci := 8) (v := .ref h_a1_rows) (C := RX8) (T := TX8) (N := 7) hx hb hts in_X1_countOf_X8 hown hK hP 1 rfl rfl 4 (by decide) (hN.f 22 rfl) (fun _ h9 => h9) rfl dX1_countOf_17 ?_
        refine va_getN (D := (dC, dI)) (ci := 7) (v := .ref h_a1_rows_rowOf) (C := RX7) (T := TX7) (N := 3) hx hb hts in_X1_countOf_X7 hown hK hP 5 rfl rfl 0 (by decide) (hN.f 2 rfl) (fun _ h9 => h9) rfl dX1_countOf_20 ?_
        refine lv_iload hx hb dX1_countOf_23 (lv_at hl 4 rfl) ?_
        obtain ⟨r_25, hv_25, hf⟩ := bd1_some hf
        refine kSi (rSN (host := "WovenRows") [.ref h_a1_rows_rowOf, .int l4_9] [] S (c_X10_at l dC dI cI cJ cZ h_a1_rows_rowOf H.size 10 c_a1_rows_rowOf l4_9 r_25 hv_25) ⟨va_cnB 2 hts gX1_countOf_X10_at_n39 rfl rfl rfl (hN.m 16 rfl) (hts _ m_X1_countOf_iX10) (by decide +kernel) ⟨Nat.le_of_ble_eq_true rfl, Nat.le_of_ble_eq_true rfl⟩, hts _ m_X1_countOf_st_X10_at, trivial⟩ hP hD hK hN [6] rfl (by decide +kernel) rfl hl.1 rfl (Nat.le_of_ble_eq_true rfl) dX1_countOf_25 ⟨Nat.le_of_ble_eq_true rfl, Nat.le_of_ble_eq_true rfl⟩) ?_
        refine lv_iconst (v := 1) hx hb dX1_countOf_28 (by decide) ?_
        refine lv_icmp_eq (tgt := 35) hx hb dX1_countOf_29 (by decide) (fun k_29 => ?_) (fun k_29 => ?_)
        · have hf := ite_t hf k_29
          refine lv_iload_n hx hb dX1_countOf_35 rfl (lv_at hl 3 rfl) ?_
          refine lv_aload_n hx hb dX1_countOf_36 rfl (lv_at hl 1 rfl) ?_
          refine lv_iload hx hb dX1_countOf_37 (lv_at hl 4 rfl) ?_
          obtain ⟨r_39, hv_39, hf⟩ := bd1_some hf
          refine kSi (rV (C := RX8) [.int l4_9] [.int r_2] S (c_X8_startOf l dC dI cI cJ cZ h_a1 h_a1_delays h_a1_rows h_a1_rows_rowOf h_a1_rows_placeOf h_a1_widths g_a1_keys h_a1_cells g_a1_rules g_a1_sights H.size c_a1_delays c_a1_rows_rung c_a1_rows_rowOf c_a1_rows_placeOf l4_9 r_39 hv_39) (cwV 1 hts gX1_countOf_X8_startOf rfl rfl rfl (by decide +kernel) ⟨Nat.le_of_ble_eq_true rfl, Nat.le_of_ble_eq_true rfl⟩) (va_recv hK hP (ci := 8) (q0 := 1) rfl rfl) hP hD hK hN [1, 4, 5, 6, 7] rfl (by decide +kernel) rfl hl.1 rfl (Nat.le_of_ble_eq_true rfl) dX1_countOf_39 ⟨Nat.le_of_ble_eq_true rfl, Nat.le_of_ble_eq_true rfl⟩) ?_
          obtain ⟨r_42, hv_42, hf⟩ := bd1_some hf
          refine kSi (rS [.int r_2, .int r_39] [] S (c_X8_spotOf l dC dI cI cJ cZ H.size r_2 r_39 r_42 hv_42) (va_cwS 2 hts gX1_countOf_X8_spotOf rfl rfl rfl (by decide +kernel) ⟨Nat.le_of_ble_eq_true rfl, Nat.le_of_ble_eq_true rfl⟩) hP hD hK hN [] rfl (by decide +kernel) rfl hl.1 rfl (Nat.le_of_ble_eq_true rfl) dX1_countOf_42 ⟨Nat.le_of_ble_eq_true rfl, Nat.le_of_ble_eq_true rfl⟩) ?_
          refine lv_istore (lv' := [(5, .int r_42), (0, .ref h_this), (1, .ref h_a1), (2, .int l2), (3, .int r_2), (4, .int l4_9)]) hx hb dX1_countOf_45 hl (by decide) rfl (fun ls hl => ?_)
          refine lv_iload hx hb dX1_countOf_47 (lv_at hl 0 rfl) ?_
          refine lv_bipush (v := (-6)) hx hb dX1_countOf_49 (by decide) ?_
          refine lv_icmp_eq (tgt := 64) hx hb dX1_countOf_51 (by decide) (fun k_51 => ?_) (fun k_51 => ?_)
          · have hf := ite_t hf k_51
            exact J_64 l4_9 r_42 c_twos_9 c_clashes_9 c_first_9 c_where_9 c_firstTurn_9 H locs ls hP hD hS (lv_sub hl [1, 2, 3, 4, 5, 0] rfl) hf
          · have hf := ite_f hf k_51
            refine lv_aload_n hx hb dX1_countOf_54 rfl (lv_at hl 1 rfl) ?_
            refine lv_dup hx hb dX1_countOf_55 rfl ?_
            refine va_get (D := (dC, dI)) (ci := 1) (v := .int c_twos_9) (C := RX1) (T := TX1) (N := 5) hx hb hts in_X1_countOf_X1 hown hK hP 0 rfl rfl 0 (by decide) (hts _ m_X1_countOf_f9) (fun _ h9 => h9) rfl dX1_countOf_56 ?_
            refine lv_iconst (v := 1) hx hb dX1_countOf_59 (by decide) ?_
            refine lv_iadd hx hb dX1_countOf_60 ?_
            refine va_put (D := (dC, dI)) (ci := 1) (v := .int (c_twos_9 + 1)) (ty := .int) (C := RX1) (T := TX1) (N := 5) hx hb hts in_X1_countOf_X1 tyX1 tyX1_ok nmX1 hown hK hP hD hS 0 rfl rfl 0 (by decide) (hts _ m_X1_countOf_f9) (fun _ h9 => h9) rfl (by decide +kernel) rfl rfl (Nat.le_of_ble_eq_true rfl) dX1_countOf_61 (fun H locs hP hD hS => ?_)
            have hP : va_P (dC, dI) vwCl (w_X1_countOf cI cJ cZ h_this h_a1 h_a1_widths h_a1_cells h_a1_delays h_a1_rows h_a1_rows_rowOf h_a1_rows_placeOf g_a1_keys g_a1_rules g_a1_sights (c_twos_9 + 1) c_clashes_9 c_first_9 c_where_9 c_firstTurn_9 c_a1_widths c_a1_cells c_a1_delays c_a1_rows_rung c_a1_rows_rowOf c_a1_rows_placeOf) H := hP
            have hD : va_D A (w_X1_countOf cI cJ cZ h_this h_a1 h_a1_widths h_a1_cells h_a1_delays h_a1_rows h_a1_rows_rowOf h_a1_rows_placeOf g_a1_keys g_a1_rules g_a1_sights (c_twos_9 + 1) c_clashes_9 c_first_9 c_where_9 c_firstTurn_9 c_a1_widths c_a1_cells c_a1_delays c_a1_rows_rung c_a1_rows_rowOf c_a1_rows_placeOf) := hD
            exact J_64 l4_9 r_42 (c_twos_9 + 1) c_clashes_9 c_first_9 c_where_9 c_firstTurn_9 H locs ls hP hD hS (lv_sub hl [1, 2, 3, 4, 5, 0] rfl) hf
        · have hf := ite_f hf k_29
          refine lv_goto (tgt := 116) hx hb dX1_countOf_32 (by decide) ?_
          refine lv_iinc (v := (l4_9 + 1)) (lv' := [(4, .int (l4_9 + 1)), (0, .ref h_this), (1, .ref h_a1), (2, .int l2), (3, .int r_2)]) hx hb dX1_countOf_116 hl (k := 4) rfl rfl (by decide) rfl (fun ls hl => ?_)
          refine lv_goto (tgt := 9) hx hb dX1_countOf_119 (by decide) ?_
          exact ih_9 (l4_9 + 1) c_twos_9 c_clashes_9 c_first_9 c_where_9 c_firstTurn_9 H locs ls hP hD hS (lv_sub hl [1, 2, 3, 4, 0] rfl) (ho1_9 _ (Option.some.inj hf).symm)
  exact L_9 FU 0 c_twos c_clashes c_first c_where c_firstTurn s.heap [] ls hP hD hS (lv_sub hl [2, 3, 4, 1, 0] rfl) hq_9
abbrev w_X1_count (cI cJ cZ : ClassId) (h_this h_a1 h_a1_widths h_a1_cells h_a1_delays h_a1_rows h_a1_rows_rowOf h_a1_rows_placeOf g_a1_keys g_a1_rules g_a1_sights : Nat) (c_twos : Int32) (c_clashes : Int32) (c_first : Int32) (c_where : Int32) (c_firstTurn : Int32) (c_a1_widths : Nat → Int32) (c_a1_cells : Nat → Int32) (c_a1_delays : Nat → Int32) (c_a1_rows_rung : Int32) (c_a1_rows_rowOf : Nat → Int32) (c_a1_rows_placeOf : Nat → Int32) : va_W := [(h_this, .inr (1, [.int c_twos, .int c_clashes, .int c_first, .int c_where, .int c_firstTurn])), (h_a1, .inr (8, [.ref h_a1_widths, .ref g_a1_keys, .ref h_a1_cells, .ref h_a1_delays, .ref h_a1_rows, .ref g_a1_rules, .ref g_a1_sights])), (h_a1_widths, .inl (cI, 10, .inl c_a1_widths)), (h_a1_cells, .inl (cI, 17, .inl c_a1_cells)), (h_a1_delays, .inl (cI, 2, .inl c_a1_delays)), (h_a1_rows, .inr (7, [.ref h_a1_rows_rowOf, .ref h_a1_rows_placeOf, .int c_a1_rows_rung])), (h_a1_rows_rowOf, .inl (cI, 10, .inl c_a1_rows_rowOf)), (h_a1_rows_placeOf, .inl (cI, 10, .inl c_a1_rows_placeOf))]
abbrev rm_X1_count : Room := { frames := 3, cells := 0, slots := 0, locals := 71 }
theorem m_X1_count_f9 : (.fieldLink RX1 9 "WovenRows$Meetings" "twos" "I" : Cond) ∈ wsX1_count := by decide +kernel
theorem in_X1_count_X1 : ∀ w ∈ u_ws RX1 TX1 5, w ∈ wsX1_count := by decide +kernel
theorem m_X1_count_f15 : (.fieldLink RX1 15 "WovenRows$Meetings" "clashes" "I" : Cond) ∈ wsX1_count := by decide +kernel
theorem m_X1_count_f18 : (.fieldLink RX1 18 "WovenRows$Meetings" "first" "I" : Cond) ∈ wsX1_count := by decide +kernel
theorem m_X1_count_f21 : (.fieldLink RX1 21 "WovenRows$Meetings" "where" "I" : Cond) ∈ wsX1_count := by decide +kernel
theorem in_X1_count_X8 : ∀ w ∈ u_ws RX8 TX8 7, w ∈ wsX1_count := by decide +kernel
theorem in_X1_count_X7 : ∀ w ∈ u_ws RX7 TX7 3, w ∈ wsX1_count := by decide +kernel
theorem m_X1_count_iX10 : (.initialized RX10 : Cond) ∈ wsX1_count := by decide +kernel
theorem m_X1_count_st_X10_at : (.static yX10_at : Cond) ∈ wsX1_count := by decide +kernel
set_option maxRecDepth 100000 in
set_option maxHeartbeats 4000000 in
theorem c_X1_count (l : Launch) (dC : Nat → ClassId) (dI : Nat → Nat → Nat) (cI cJ cZ : ClassId) (h_this h_a1 h_a1_widths h_a1_cells h_a1_delays h_a1_rows h_a1_rows_rowOf h_a1_rows_placeOf g_a1_keys g_a1_rules g_a1_sights : Nat) (sz : Nat) (c_twos : Int32) (c_clashes : Int32) (c_first : Int32) (c_where : Int32) (c_firstTurn : Int32) (c_a1_widths : Nat → Int32) (c_a1_cells : Nat → Int32) (c_a1_delays : Nat → Int32) (c_a1_rows_rung : Int32) (c_a1_rows_rowOf : Nat → Int32) (c_a1_rows_placeOf : Nat → Int32) (z_twos : Int32) (z_clashes : Int32) (z_first : Int32) (z_where : Int32) (z_firstTurn : Int32) (hf : f_X1_count c_firstTurn c_a1_widths c_a1_cells c_a1_delays c_a1_rows_rowOf c_a1_rows_placeOf = some (z_twos, z_clashes, z_first, z_where, z_firstTurn)) : Met l yX1_count wsX1_count rm_X1_count (va_Pc [.ref h_this, .ref h_a1] (PRE (dC, dI) (TY cI cJ cZ) sz (w_X1_count cI cJ cZ h_this h_a1 h_a1_widths h_a1_cells h_a1_delays h_a1_rows h_a1_rows_rowOf h_a1_rows_placeOf g_a1_keys g_a1_rules g_a1_sights c_twos c_clashes c_first c_where c_firstTurn c_a1_widths c_a1_cells c_a1_delays c_a1_rows_rung c_a1_rows_rowOf c_a1_rows_placeOf))) (va_Qv (fun _ : Unit => True) (POW (dC, dI) (va_A (w_X1_count cI cJ cZ h_this h_a1 h_a1_widths h_a1_cells h_a1_delays h_a1_rows h_a1_rows_rowOf h_a1_rows_placeOf g_a1_keys g_a1_rules g_a1_sights c_twos c_clashes c_first c_where c_firstTurn c_a1_widths c_a1_cells c_a1_delays c_a1_rows_rung c_a1_rows_rowOf c_a1_rows_placeOf) sz) (w_X1_count cI cJ cZ h_this h_a1 h_a1_widths h_a1_cells h_a1_delays h_a1_rows h_a1_rows_rowOf h_a1_rows_placeOf g_a1_keys g_a1_rules g_a1_sights z_twos z_clashes z_first z_where z_firstTurn c_a1_widths c_a1_cells c_a1_delays c_a1_rows_rung c_a1_rows_rowOf c_a1_rows_placeOf)) (va_A (w_X1_count cI cJ cZ h_this h_a1 h_a1_widths h_a1_cells h_a1_delays h_a1_rows h_a1_rows_rowOf h_a1_rows_placeOf g_a1_keys g_a1_rules g_a1_sights c_twos c_clashes c_first c_where c_firstTurn c_a1_widths c_a1_cells c_a1_delays c_a1_rows_rung c_a1_rows_rowOf c_a1_rows_placeOf) sz)) 0 0 (va_A (w_X1_count cI cJ cZ h_this h_a1 h_a1_widths h_a1_cells h_a1_delays h_a1_rows h_a1_rows_rowOf h_a1_rows_placeOf g_a1_keys g_a1_rules g_a1_sights c_twos c_clashes c_first c_where c_firstTurn c_a1_widths c_a1_cells c_a1_delays c_a1_rows_rung c_a1_rows_rowOf c_a1_rows_placeOf) sz) := by
  refine ofWv (by decide +kernel) rfl (Nat.le_of_ble_eq_true rfl) ?_
  intro p e s m args below meth c Z A ls S hP hD hK hN hA hl hret
  obtain ⟨hx, hb, hml, hown, hts⟩ := id S
  have hown : s.vm.findClass RX1 = some m.cls := hown
  have hS : va_S A s.heap s.heap [] := va_S.rf
  have hl : lv_has ls 3 [(0, .ref h_this), (1, .ref h_a1)] := hl
  unfold f_X1_count at hf
  refine lv_aload_n hx hb dX1_count_0 rfl (lv_at hl 0 rfl) ?_
  refine lv_iconst (v := 0) hx hb dX1_count_1 (by decide) ?_
  refine va_put (D := (dC, dI)) (ci := 1) (v := .int 0) (ty := .int) (C := RX1) (T := TX1) (N := 5) hx hb hts in_X1_count_X1 tyX1 tyX1_ok nmX1 hown hK hP hD hS 0 rfl rfl 0 (by decide) (hts _ m_X1_count_f9) (fun _ h9 => h9) rfl (by decide +kernel) rfl rfl (Nat.le_of_ble_eq_true rfl) dX1_count_2 (fun H locs hP hD hS => ?_)
  have hP : va_P (dC, dI) vwCl (w_X1_count cI cJ cZ h_this h_a1 h_a1_widths h_a1_cells h_a1_delays h_a1_rows h_a1_rows_rowOf h_a1_rows_placeOf g_a1_keys g_a1_rules g_a1_sights 0 c_clashes c_first c_where c_firstTurn c_a1_widths c_a1_cells c_a1_delays c_a1_rows_rung c_a1_rows_rowOf c_a1_rows_placeOf) H := hP
  have hD : va_D A (w_X1_count cI cJ cZ h_this h_a1 h_a1_widths h_a1_cells h_a1_delays h_a1_rows h_a1_rows_rowOf h_a1_rows_placeOf g_a1_keys g_a1_rules g_a1_sights 0 c_clashes c_first c_where c_firstTurn c_a1_widths c_a1_cells c_a1_delays c_a1_rows_rung c_a1_rows_rowOf c_a1_rows_placeOf) := hD
  refine lv_aload_n hx hb dX1_count_5 rfl (lv_at hl 0 rfl) ?_
  refine lv_iconst (v := 0) hx hb dX1_count_6 (by decide) ?_
  refine va_put (D := (dC, dI)) (ci := 1) (v := .int 0) (ty := .int) (C := RX1) (T := TX1) (N := 5) hx hb hts in_X1_count_X1 tyX1 tyX1_ok nmX1 hown hK hP hD hS 0 rfl rfl 1 (by decide) (hts _ m_X1_count_f15) (fun _ h9 => h9) rfl (by decide +kernel) rfl rfl (Nat.le_of_ble_eq_true rfl) dX1_count_7 (fun H locs hP hD hS => ?_)
  have hP : va_P (dC, dI) vwCl (w_X1_count cI cJ cZ h_this h_a1 h_a1_widths h_a1_cells h_a1_delays h_a1_rows h_a1_rows_rowOf h_a1_rows_placeOf g_a1_keys g_a1_rules g_a1_sights 0 0 c_first c_where c_firstTurn c_a1_widths c_a1_cells c_a1_delays c_a1_rows_rung c_a1_rows_rowOf c_a1_rows_placeOf) H := hP
  have hD : va_D A (w_X1_count cI cJ cZ h_this h_a1 h_a1_widths h_a1_cells h_a1_delays h_a1_rows h_a1_rows_rowOf h_a1_rows_placeOf g_a1_keys g_a1_rules g_a1_sights 0 0 c_first c_where c_firstTurn c_a1_widths c_a1_cells c_a1_delays c_a1_rows_rung c_a1_rows_rowOf c_a1_rows_placeOf) := hD
  refine lv_aload_n hx hb dX1_count_10 rfl (lv_at hl 0 rfl) ?_
  refine lv_bipush (v := (-6)) hx hb dX1_count_11 (by decide) ?_
  refine va_put (D := (dC, dI)) (ci := 1) (v := .int (-6)) (ty := .int) (C := RX1) (T := TX1) (N := 5) hx hb hts in_X1_count_X1 tyX1 tyX1_ok nmX1 hown hK hP hD hS 0 rfl rfl 2 (by decide) (hts _ m_X1_count_f18) (fun _ h9 => h9) rfl (by decide +kernel) rfl rfl (Nat.le_of_ble_eq_true rfl) dX1_count_13 (fun H locs hP hD hS => ?_)
  have hP : va_P (dC, dI) vwCl (w_X1_count cI cJ cZ h_this h_a1 h_a1_widths h_a1_cells h_a1_delays h_a1_rows h_a1_rows_rowOf h_a1_rows_placeOf g_a1_keys g_a1_rules g_a1_sights 0 0 (-6) c_where c_firstTurn c_a1_widths c_a1_cells c_a1_delays c_a1_rows_rung c_a1_rows_rowOf c_a1_rows_placeOf) H := hP
  have hD : va_D A (w_X1_count cI cJ cZ h_this h_a1 h_a1_widths h_a1_cells h_a1_delays h_a1_rows h_a1_rows_rowOf h_a1_rows_placeOf g_a1_keys g_a1_rules g_a1_sights 0 0 (-6) c_where c_firstTurn c_a1_widths c_a1_cells c_a1_delays c_a1_rows_rung c_a1_rows_rowOf c_a1_rows_placeOf) := hD
  refine lv_aload_n hx hb dX1_count_16 rfl (lv_at hl 0 rfl) ?_
  refine lv_bipush (v := (-6)) hx hb dX1_count_17 (by decide) ?_
  refine va_put (D := (dC, dI)) (ci := 1) (v := .int (-6)) (ty := .int) (C := RX1) (T := TX1) (N := 5) hx hb hts in_X1_count_X1 tyX1 tyX1_ok nmX1 hown hK hP hD hS 0 rfl rfl 3 (by decide) (hts _ m_X1_count_f21) (fun _ h9 => h9) rfl (by decide +kernel) rfl rfl (Nat.le_of_ble_eq_true rfl) dX1_count_19 (fun H locs hP hD hS => ?_)
  have hP : va_P (dC, dI) vwCl (w_X1_count cI cJ cZ h_this h_a1 h_a1_widths h_a1_cells h_a1_delays h_a1_rows h_a1_rows_rowOf h_a1_rows_placeOf g_a1_keys g_a1_rules g_a1_sights 0 0 (-6) (-6) c_firstTurn c_a1_widths c_a1_cells c_a1_delays c_a1_rows_rung c_a1_rows_rowOf c_a1_rows_placeOf) H := hP
  have hD : va_D A (w_X1_count cI cJ cZ h_this h_a1 h_a1_widths h_a1_cells h_a1_delays h_a1_rows h_a1_rows_rowOf h_a1_rows_placeOf g_a1_keys g_a1_rules g_a1_sights 0 0 (-6) (-6) c_firstTurn c_a1_widths c_a1_cells c_a1_delays c_a1_rows_rung c_a1_rows_rowOf c_a1_rows_placeOf) := hD
  refine lv_aload_n hx hb dX1_count_22 rfl (lv_at hl 1 rfl) ?_
  refine lv_ifnonnull (tgt := 27) hx hb dX1_count_23 (by decide) ?_
  refine lv_iconst (v := 0) hx hb dX1_count_27 (by decide) ?_
  refine lv_istore_n (lv' := [(2, .int 0), (0, .ref h_this), (1, .ref h_a1)]) hx hb dX1_count_28 rfl hl (by decide) rfl (fun ls hl => ?_)
  obtain ⟨l2_29x, c_twos_29x, c_clashes_29x, c_first_29x, c_where_29x, c_firstTurn_29x, hq_29, hf⟩ := bd6_some hf
  have K_29 : ∀ (H : Heap) (locs : List Loc) (ls : Array Slot), va_P (dC, dI) vwCl (w_X1_count cI cJ cZ h_this h_a1 h_a1_widths h_a1_cells h_a1_delays h_a1_rows h_a1_rows_rowOf h_a1_rows_placeOf g_a1_keys g_a1_rules g_a1_sights c_twos_29x c_clashes_29x c_first_29x c_where_29x c_firstTurn_29x c_a1_widths c_a1_cells c_a1_delays c_a1_rows_rung c_a1_rows_rowOf c_a1_rows_placeOf) H → va_D A (w_X1_count cI cJ cZ h_this h_a1 h_a1_widths h_a1_cells h_a1_delays h_a1_rows h_a1_rows_rowOf h_a1_rows_placeOf g_a1_keys g_a1_rules g_a1_sights c_twos_29x c_clashes_29x c_first_29x c_where_29x c_firstTurn_29x c_a1_widths c_a1_cells c_a1_delays c_a1_rows_rung c_a1_rows_rowOf c_a1_rows_placeOf) → va_S A s.heap H locs → lv_has ls 3 [] → W p l e rm_X1_count s m args below meth c H locs 0 0 Z (F0 m 61 ls []) := by
    intro H locs ls hP hD hS hl
    have e_f := Option.some.inj hf
    cases e_f
    exact hret hP hD hS dX1_count_61
  have L_29 : ∀ (n : Nat) (l2_29 : Int32) (c_twos_29 : Int32) (c_clashes_29 : Int32) (c_first_29 : Int32) (c_where_29 : Int32) (c_firstTurn_29 : Int32) (H : Heap) (locs : List Loc) (ls : Array Slot), va_P (dC, dI) vwCl (w_X1_count cI cJ cZ h_this h_a1 h_a1_widths h_a1_cells h_a1_delays h_a1_rows h_a1_rows_rowOf h_a1_rows_placeOf g_a1_keys g_a1_rules g_a1_sights c_twos_29 c_clashes_29 c_first_29 c_where_29 c_firstTurn_29 c_a1_widths c_a1_cells c_a1_delays c_a1_rows_rung c_a1_rows_rowOf c_a1_rows_placeOf) H → va_D A (w_X1_count cI cJ cZ h_this h_a1 h_a1_widths h_a1_cells h_a1_delays h_a1_rows h_a1_rows_rowOf h_a1_rows_placeOf g_a1_keys g_a1_rules g_a1_sights c_twos_29 c_clashes_29 c_first_29 c_where_29 c_firstTurn_29 c_a1_widths c_a1_cells c_a1_delays c_a1_rows_rung c_a1_rows_rowOf c_a1_rows_placeOf) → va_S A s.heap H locs → lv_has ls 3 [(0, .ref h_this), (1, .ref h_a1), (2, .int l2_29)] → loopN (fun (q : Int32 × Int32 × Int32 × Int32 × Int32 × Int32) => f_X1_count_b29 c_a1_widths c_a1_cells c_a1_delays c_a1_rows_rowOf c_a1_rows_placeOf q.1 q.2.1 q.2.2.1 q.2.2.2.1 q.2.2.2.2.1 q.2.2.2.2.2) n (l2_29, c_twos_29, c_clashes_29, c_first_29, c_where_29, c_firstTurn_29) = some (l2_29x, c_twos_29x, c_clashes_29x, c_first_29x, c_where_29x, c_firstTurn_29x) → W p l e rm_X1_count s m args below meth c H locs 0 0 Z (F0 m 29 ls []) := by
    intro n
    induction n with
    | zero => intro l2_29 c_twos_29 c_clashes_29 c_first_29 c_where_29 c_firstTurn_29 H locs ls hP hD hS hl hq; exact (loopN_zero hq).elim
    | succ n ih_29 =>
      intro l2_29 c_twos_29 c_clashes_29 c_first_29 c_where_29 c_firstTurn_29 H locs ls hP hD hS hl hq
      obtain ⟨o_29, hf, ho1_29, ho2_29⟩ := loopN_step hq
      have hf : f_X1_count_b29 c_a1_widths c_a1_cells c_a1_delays c_a1_rows_rowOf c_a1_rows_placeOf l2_29 c_twos_29 c_clashes_29 c_first_29 c_where_29 c_firstTurn_29 = some o_29 := hf
      unfold f_X1_count_b29 at hf
      refine lv_iload_n hx hb dX1_count_29 rfl (lv_at hl 2 rfl) ?_
      refine lv_bipush (v := 10) hx hb dX1_count_30 (by decide) ?_
      refine lv_icmp_ge (tgt := 61) hx hb dX1_count_32 (by decide) (fun k_32 => ?_) (fun k_32 => ?_)
      · have hf := ite_t hf k_32
        have e_29 := ho2_29 _ (Option.some.inj hf).symm
        cases e_29
        exact K_29 H locs ls hP hD hS (lv_sub hl [] rfl)
      · have hf := ite_f hf k_32
        refine lv_aload_n hx hb dX1_count_35 rfl (lv_at hl 1 rfl) ?_
        refine va_getN (D := (dC, dI)) (ci := 8) (v := .ref h_a1_rows) (C := RX8) (T := TX8) (N := 7) hx hb hts in_X1_count_X8 hown hK hP 1 rfl rfl 4 (by decide) (hN.f 22 rfl) (fun _ h9 => h9) rfl dX1_count_36 ?_
        refine va_getN (D := (dC, dI)) (ci := 7) (v := .ref h_a1_rows_rowOf) (C := RX7) (T := TX7) (N := 3) hx hb hts in_X1_count_X7 hown hK hP 5 rfl rfl 0 (by decide) (hN.f 2 rfl) (fun _ h9 => h9) rfl dX1_count_39 ?_
        refine lv_iload_n hx hb dX1_count_42 rfl (lv_at hl 2 rfl) ?_
        obtain ⟨r_43, hv_43, hf⟩ := bd1_some hf
        refine kSi (rSN (host := "WovenRows") [.ref h_a1_rows_rowOf, .int l2_29] [] S (c_X10_at l dC dI cI cJ cZ h_a1_rows_rowOf H.size 10 c_a1_rows_rowOf l2_29 r_43 hv_43) ⟨va_cnB 2 hts gX1_count_X10_at_n39 rfl rfl rfl (hN.m 16 rfl) (hts _ m_X1_count_iX10) (by decide +kernel) ⟨Nat.le_of_ble_eq_true rfl, Nat.le_of_ble_eq_true rfl⟩, hts _ m_X1_count_st_X10_at, trivial⟩ hP hD hK hN [6] rfl (by decide +kernel) rfl hl.1 rfl (Nat.le_of_ble_eq_true rfl) dX1_count_43 ⟨Nat.le_of_ble_eq_true rfl, Nat.le_of_ble_eq_true rfl⟩) ?_
        refine lv_if_ne (tgt := 55) hx hb dX1_count_46 (by decide) (fun k_46 => ?_) (fun k_46 => ?_)
        · have hf := ite_f hf k_46
          refine lv_iinc (v := (l2_29 + 1)) (lv' := [(2, .int (l2_29 + 1)), (0, .ref h_this), (1, .ref h_a1)]) hx hb dX1_count_55 hl (k := 2) rfl rfl (by decide) rfl (fun ls hl => ?_)
          refine lv_goto (tgt := 29) hx hb dX1_count_58 (by decide) ?_
          exact ih_29 (l2_29 + 1) c_twos_29 c_clashes_29 c_first_29 c_where_29 c_firstTurn_29 H locs ls hP hD hS (lv_sub hl [1, 2, 0] rfl) (ho1_29 _ (Option.some.inj hf).symm)
        · have hf := ite_t hf k_46
          refine lv_aload_n hx hb dX1_count_49 rfl (lv_at hl 0 rfl) ?_
          refine lv_aload_n hx hb dX1_count_50 rfl (lv_at hl 1 rfl) ?_
          refine lv_iload_n hx hb dX1_count_51 rfl (lv_at hl 2 rfl) ?_
          obtain ⟨c_twos_52, c_clashes_52, c_first_52, c_where_52, c_firstTurn_52, hv_52, hf⟩ := bd5_some hf
          refine kWv (rV (C := RX1) [.ref h_a1, .int l2_29] [] S (c_X1_countOf l dC dI cI cJ cZ h_this h_a1 h_a1_widths h_a1_cells h_a1_delays h_a1_rows h_a1_rows_rowOf h_a1_rows_placeOf g_a1_keys g_a1_rules g_a1_sights H.size c_twos_29 c_clashes_29 c_first_29 c_where_29 c_firstTurn_29 c_a1_widths c_a1_cells c_a1_delays c_a1_rows_rung c_a1_rows_rowOf c_a1_rows_placeOf l2_29 c_twos_52 c_clashes_52 c_first_52 c_where_52 c_firstTurn_52 hv_52) (cwV 2 hts gX1_count_X1_countOf rfl rfl rfl (by decide +kernel) ⟨Nat.le_of_ble_eq_true rfl, Nat.le_of_ble_eq_true rfl⟩) (va_recv hK hP (ci := 1) (q0 := 0) rfl rfl) hP hD hK hN [0, 1, 2, 3, 4, 5, 6, 7] rfl (by decide +kernel) rfl hl.1 rfl (Nat.le_of_ble_eq_true rfl) dX1_count_52 ⟨Nat.le_of_ble_eq_true rfl, Nat.le_of_ble_eq_true rfl⟩) hP hD hS hA [0, 1, 2, 3, 4, 5, 6, 7] rfl rfl [some 0, some 1, some 2, some 3, some 4, some 5, some 6, some 7] (by decide +kernel) rfl (fun H locs hP hD hS => ?_)
          have hP : va_P (dC, dI) vwCl (w_X1_count cI cJ cZ h_this h_a1 h_a1_widths h_a1_cells h_a1_delays h_a1_rows h_a1_rows_rowOf h_a1_rows_placeOf g_a1_keys g_a1_rules g_a1_sights c_twos_52 c_clashes_52 c_first_52 c_where_52 c_firstTurn_52 c_a1_widths c_a1_cells c_a1_delays c_a1_rows_rung c_a1_rows_rowOf c_a1_rows_placeOf) H := hP
          have hD : va_D A (w_X1_count cI cJ cZ h_this h_a1 h_a1_widths h_a1_cells h_a1_delays h_a1_rows h_a1_rows_rowOf h_a1_rows_placeOf g_a1_keys g_a1_rules g_a1_sights c_twos_52 c_clashes_52 c_first_52 c_where_52 c_firstTurn_52 c_a1_widths c_a1_cells c_a1_delays c_a1_rows_rung c_a1_rows_rowOf c_a1_rows_placeOf) := hD
          refine lv_iinc (v := (l2_29 + 1)) (lv' := [(2, .int (l2_29 + 1)), (0, .ref h_this), (1, .ref h_a1)]) hx hb dX1_count_55 hl (k := 2) rfl rfl (by decide) rfl (fun ls hl => ?_)
          refine lv_goto (tgt := 29) hx hb dX1_count_58 (by decide) ?_
          exact ih_29 (l2_29 + 1) c_twos_52 c_clashes_52 c_first_52 c_where_52 c_firstTurn_52 H locs ls hP hD hS (lv_sub hl [1, 2, 0] rfl) (ho1_29 _ (Option.some.inj hf).symm)
  exact L_29 FU 0 0 0 (-6) (-6) c_firstTurn H locs ls hP hD hS (lv_sub hl [1, 2, 0] rfl) hq_29
abbrev w_X1_gratingWith (cI cJ cZ : ClassId) (h_a0 h_a0_keys h_a0_delays h_a0_rows h_a0_rows_rowOf h_a0_rows_placeOf g_a0_widths g_a0_cells g_a0_rules g_a0_sights : Nat) (c_a0_keys : Nat → Int32) (c_a0_delays : Nat → Int32) (c_a0_rows_rung : Int32) (c_a0_rows_rowOf : Nat → Int32) (c_a0_rows_placeOf : Nat → Int32) : va_W := [(h_a0, .inr (8, [.ref g_a0_widths, .ref h_a0_keys, .ref g_a0_cells, .ref h_a0_delays, .ref h_a0_rows, .ref g_a0_rules, .ref g_a0_sights])), (h_a0_keys, .inl (cI, 10, .inl c_a0_keys)), (h_a0_delays, .inl (cI, 2, .inl c_a0_delays)), (h_a0_rows, .inr (7, [.ref h_a0_rows_rowOf, .ref h_a0_rows_placeOf, .int c_a0_rows_rung])), (h_a0_rows_rowOf, .inl (cI, 10, .inl c_a0_rows_rowOf)), (h_a0_rows_placeOf, .inl (cI, 10, .inl c_a0_rows_placeOf))]
abbrev rm_X1_gratingWith : Room := { frames := 2, cells := 0, slots := 0, locals := 44 }
theorem in_X1_gratingWith_X8 : ∀ w ∈ u_ws RX8 TX8 7, w ∈ wsX1_gratingWith := by decide +kernel
theorem in_X1_gratingWith_X7 : ∀ w ∈ u_ws RX7 TX7 3, w ∈ wsX1_gratingWith := by decide +kernel
theorem m_X1_gratingWith_iX10 : (.initialized RX10 : Cond) ∈ wsX1_gratingWith := by decide +kernel
theorem m_X1_gratingWith_st_X10_at : (.static yX10_at : Cond) ∈ wsX1_gratingWith := by decide +kernel
theorem m_X1_gratingWith_ml73 : (.methodLink RX1 73 Lib.Math.abs.name : Cond) ∈ wsX1_gratingWith := by decide +kernel
theorem m_X1_gratingWith_st_abs : (.static Lib.Math.abs.name : Cond) ∈ wsX1_gratingWith := by decide +kernel
theorem m_X1_gratingWith_iM : (.initialized "java/lang/Math" : Cond) ∈ wsX1_gratingWith := by decide +kernel
theorem m_X1_gratingWith_co_abs : (.code Lib.Math.abs.name Lib.Math.abs.code 1 (some .int) : Cond) ∈ wsX1_gratingWith := by decide +kernel
set_option maxRecDepth 100000 in
set_option maxHeartbeats 4000000 in
theorem c_X1_gratingWith (l : Launch) (dC : Nat → ClassId) (dI : Nat → Nat → Nat) (cI cJ cZ : ClassId) (h_a0 h_a0_keys h_a0_delays h_a0_rows h_a0_rows_rowOf h_a0_rows_placeOf g_a0_widths g_a0_cells g_a0_rules g_a0_sights : Nat) (sz : Nat) (c_a0_keys : Nat → Int32) (c_a0_delays : Nat → Int32) (c_a0_rows_rung : Int32) (c_a0_rows_rowOf : Nat → Int32) (c_a0_rows_placeOf : Nat → Int32) (l1 : Int32) (l2 : Int32) (r : Int32) (hf : f_X1_gratingWith c_a0_keys c_a0_delays c_a0_rows_rowOf c_a0_rows_placeOf l1 l2 = some r) : Met l yX1_gratingWith wsX1_gratingWith rm_X1_gratingWith (va_Pc [.ref h_a0, .int l1, .int l2] (PRE (dC, dI) (TY cI cJ cZ) sz (w_X1_gratingWith cI cJ cZ h_a0 h_a0_keys h_a0_delays h_a0_rows h_a0_rows_rowOf h_a0_rows_placeOf g_a0_widths g_a0_cells g_a0_rules g_a0_sights c_a0_keys c_a0_delays c_a0_rows_rung c_a0_rows_rowOf c_a0_rows_placeOf))) (vp_Si (fun r' => r' = r)) 0 0 (fun _ => False) := by
  refine ofSi (ty := .int) (by decide +kernel) rfl (Nat.le_of_ble_eq_true rfl) ?_
  intro p e s m args below meth c Z ls S hP hD hK hN hl hret
  obtain ⟨hx, hb, hml, hown, hts⟩ := id S
  have hown : s.vm.findClass RX1 = some m.cls := hown
  have hl : lv_has ls 6 [(0, .ref h_a0), (1, .int l1), (2, .int l2)] := hl
  unfold f_X1_gratingWith at hf
  refine lv_iconst (v := 0) hx hb dX1_gratingWith_0 (by decide) ?_
  refine lv_istore_n (lv' := [(3, .int 0), (0, .ref h_a0), (1, .int l1), (2, .int l2)]) hx hb dX1_gratingWith_1 rfl hl (by decide) rfl (fun ls hl => ?_)
  refine lv_iconst (v := 0) hx hb dX1_gratingWith_2 (by decide) ?_
  refine lv_istore (lv' := [(4, .int 0), (3, .int 0), (0, .ref h_a0), (1, .int l1), (2, .int l2)]) hx hb dX1_gratingWith_3 hl (by decide) rfl (fun ls hl => ?_)
  obtain ⟨l3_5x, l4_5x, hq_5, hf⟩ := bd2_some hf
  have K_5 : ∀ (ls : Array Slot), lv_has ls 6 [(3, .int l3_5x)] → W p l e rm_X1_gratingWith s m args below meth c s.heap [] 0 0 Z (F0 m 124 ls []) := by
    intro ls hl
    refine lv_iload_n hx hb dX1_gratingWith_124 rfl (lv_at hl 0 rfl) ?_
    have e_f := Option.some.inj hf
    cases e_f
    exact hret rfl dX1_gratingWith_125
  have L_5 : ∀ (n : Nat) (l3_5 : Int32) (l4_5 : Int32) (ls : Array Slot), lv_has ls 6 [(0, .ref h_a0), (1, .int l1), (2, .int l2), (3, .int l3_5), (4, .int l4_5)] → loopN (fun (q : Int32 × Int32) => f_X1_gratingWith_b5 c_a0_keys c_a0_delays c_a0_rows_rowOf c_a0_rows_placeOf l1 l2 q.1 q.2) n (l3_5, l4_5) = some (l3_5x, l4_5x) → W p l e rm_X1_gratingWith s m args below meth c s.heap [] 0 0 Z (F0 m 5 ls []) := by
    intro n
    induction n with
    | zero => intro l3_5 l4_5 ls hl hq; exact (loopN_zero hq).elim
    | succ n ih_5 =>
      intro l3_5 l4_5 ls hl hq
      obtain ⟨o_5, hf, ho1_5, ho2_5⟩ := loopN_step hq
      have hf : f_X1_gratingWith_b5 c_a0_keys c_a0_delays c_a0_rows_rowOf c_a0_rows_placeOf l1 l2 l3_5 l4_5 = some o_5 := hf
      unfold f_X1_gratingWith_b5 at hf
      have J_115 : ∀ (l3_115j : Int32) (l4_115j : Int32) (ls : Array Slot), lv_has ls 6 [(0, .ref h_a0), (1, .int l1), (2, .int l2), (3, .int l3_115j), (4, .int l4_115j)] → f_X1_gratingWith_j115 l3_115j l4_115j = some o_5 → W p l e rm_X1_gratingWith s m args below meth c s.heap [] 0 0 Z (F0 m 115 ls []) := by
        intro l3_115j l4_115j ls hl hf
        unfold f_X1_gratingWith_j115 at hf
        refine lv_iinc (v := (l3_115j + 1)) (lv' := [(3, .int (l3_115j + 1)), (0, .ref h_a0), (1, .int l1), (2, .int l2), (4, .int l4_115j)]) hx hb dX1_gratingWith_115 hl (k := 3) rfl rfl (by decide) rfl (fun ls hl => ?_)
        refine lv_iinc (v := (l4_115j + 1)) (lv' := [(4, .int (l4_115j + 1)), (3, .int (l3_115j + 1)), (0, .ref h_a0), (1, .int l1), (2, .int l2)]) hx hb dX1_gratingWith_118 hl (k := 4) rfl rfl (by decide) rfl (fun ls hl => ?_)
        refine lv_goto (tgt := 5) hx hb dX1_gratingWith_121 (by decide) ?_
        exact ih_5 (l3_115j + 1) (l4_115j + 1) ls (lv_sub hl [2, 3, 4, 1, 0] rfl) (ho1_5 _ (Option.some.inj hf).symm)
      refine lv_iload hx hb dX1_gratingWith_5 (lv_at hl 4 rfl) ?_
      refine lv_bipush (v := 10) hx hb dX1_gratingWith_7 (by decide) ?_
      refine lv_icmp_ge (tgt := 124) hx hb dX1_gratingWith_9 (by decide) (fun k_9 => ?_) (fun k_9 => ?_)
      · have hf := ite_t hf k_9
        have e_5 := ho2_5 _ (Option.some.inj hf).symm
        cases e_5
        exact K_5 ls (lv_sub hl [3] rfl)
      · have hf := ite_f hf k_9
        refine lv_aload_n hx hb dX1_gratingWith_12 rfl (lv_at hl 0 rfl) ?_
        refine va_getN (D := (dC, dI)) (ci := 8) (v := .ref h_a0_rows) (C := RX8) (T := TX8) (N := 7) hx hb hts in_X1_gratingWith_X8 hown hK hP 0 rfl rfl 4 (by decide) (hN.f 22 rfl) (fun _ h9 => h9) rfl dX1_gratingWith_13 ?_
        refine va_getN (D := (dC, dI)) (ci := 7) (v := .ref h_a0_rows_rowOf) (C := RX7) (T := TX7) (N := 3) hx hb hts in_X1_gratingWith_X7 hown hK hP 3 rfl rfl 0 (by decide) (hN.f 2 rfl) (fun _ h9 => h9) rfl dX1_gratingWith_16 ?_
        refine lv_iload hx hb dX1_gratingWith_19 (lv_at hl 4 rfl) ?_
        obtain ⟨r_21, hv_21, hf⟩ := bd1_some hf
        refine kSi (rSN (host := "WovenRows") [.ref h_a0_rows_rowOf, .int l4_5] [] S (c_X10_at l dC dI cI cJ cZ h_a0_rows_rowOf s.heap.size 10 c_a0_rows_rowOf l4_5 r_21 hv_21) ⟨va_cnB 2 hts gX1_gratingWith_X10_at_n39 rfl rfl rfl (hN.m 16 rfl) (hts _ m_X1_gratingWith_iX10) (by decide +kernel) ⟨Nat.le_of_ble_eq_true rfl, Nat.le_of_ble_eq_true rfl⟩, hts _ m_X1_gratingWith_st_X10_at, trivial⟩ hP hD hK hN [4] rfl (by decide +kernel) rfl hl.1 rfl (Nat.le_of_ble_eq_true rfl) dX1_gratingWith_21 ⟨Nat.le_of_ble_eq_true rfl, Nat.le_of_ble_eq_true rfl⟩) ?_
        refine lv_iconst (v := 1) hx hb dX1_gratingWith_24 (by decide) ?_
        refine lv_icmp_ne (tgt := 118) hx hb dX1_gratingWith_25 (by decide) (fun k_25 => ?_) (fun k_25 => ?_)
        · have hf := ite_f hf k_25
          refine lv_iinc (v := (l4_5 + 1)) (lv' := [(4, .int (l4_5 + 1)), (0, .ref h_a0), (1, .int l1), (2, .int l2), (3, .int l3_5)]) hx hb dX1_gratingWith_118 hl (k := 4) rfl rfl (by decide) rfl (fun ls hl => ?_)
          refine lv_goto (tgt := 5) hx hb dX1_gratingWith_121 (by decide) ?_
          exact ih_5 l3_5 (l4_5 + 1) ls (lv_sub hl [1, 2, 3, 4, 0] rfl) (ho1_5 _ (Option.some.inj hf).symm)
        · have hf := ite_t hf k_25
          refine lv_aload_n hx hb dX1_gratingWith_28 rfl (lv_at hl 0 rfl) ?_
          refine va_getN (D := (dC, dI)) (ci := 8) (v := .ref h_a0_keys) (C := RX8) (T := TX8) (N := 7) hx hb hts in_X1_gratingWith_X8 hown hK hP 0 rfl rfl 1 (by decide) (hN.f 18 rfl) (fun _ h9 => h9) rfl dX1_gratingWith_29 ?_
          refine lv_iload hx hb dX1_gratingWith_32 (lv_at hl 4 rfl) ?_
          obtain ⟨r_34, hv_34, hf⟩ := bd1_some hf
          refine kSi (rSN (host := "WovenRows") [.ref h_a0_keys, .int l4_5] [] S (c_X10_at l dC dI cI cJ cZ h_a0_keys s.heap.size 10 c_a0_keys l4_5 r_34 hv_34) ⟨va_cnB 2 hts gX1_gratingWith_X10_at_n39 rfl rfl rfl (hN.m 16 rfl) (hts _ m_X1_gratingWith_iX10) (by decide +kernel) ⟨Nat.le_of_ble_eq_true rfl, Nat.le_of_ble_eq_true rfl⟩, hts _ m_X1_gratingWith_st_X10_at, trivial⟩ hP hD hK hN [1] rfl (by decide +kernel) rfl hl.1 rfl (Nat.le_of_ble_eq_true rfl) dX1_gratingWith_34 ⟨Nat.le_of_ble_eq_true rfl, Nat.le_of_ble_eq_true rfl⟩) ?_
          refine lv_bipush (v := 12) hx hb dX1_gratingWith_37 (by decide) ?_
          refine lv_icmp_ne (tgt := 45) hx hb dX1_gratingWith_39 (by decide) (fun k_39 => ?_) (fun k_39 => ?_)
          · have hf := ite_f hf k_39
            refine lv_aload_n hx hb dX1_gratingWith_45 rfl (lv_at hl 0 rfl) ?_
            refine lv_iload_n hx hb dX1_gratingWith_46 rfl (lv_at hl 1 rfl) ?_
            obtain ⟨r_47, hv_47, hf⟩ := bd1_some hf
            refine kSi (rV (C := RX8) [.int l1] [] S (c_X8_startOf l dC dI cI cJ cZ h_a0 h_a0_delays h_a0_rows h_a0_rows_rowOf h_a0_rows_placeOf g_a0_widths h_a0_keys g_a0_cells g_a0_rules g_a0_sights s.heap.size c_a0_delays c_a0_rows_rung c_a0_rows_rowOf c_a0_rows_placeOf l1 r_47 hv_47) (cwV 1 hts gX1_gratingWith_X8_startOf rfl rfl rfl (by decide +kernel) ⟨Nat.le_of_ble_eq_true rfl, Nat.le_of_ble_eq_true rfl⟩) (va_recv hK hP (ci := 8) (q0 := 0) rfl rfl) hP hD hK hN [0, 2, 3, 4, 5] rfl (by decide +kernel) rfl hl.1 rfl (Nat.le_of_ble_eq_true rfl) dX1_gratingWith_47 ⟨Nat.le_of_ble_eq_true rfl, Nat.le_of_ble_eq_true rfl⟩) ?_
            refine lv_aload_n hx hb dX1_gratingWith_50 rfl (lv_at hl 0 rfl) ?_
            refine lv_iload hx hb dX1_gratingWith_51 (lv_at hl 4 rfl) ?_
            obtain ⟨r_53, hv_53, hf⟩ := bd1_some hf
            refine kSi (rV (C := RX8) [.int l4_5] [.int r_47] S (c_X8_startOf l dC dI cI cJ cZ h_a0 h_a0_delays h_a0_rows h_a0_rows_rowOf h_a0_rows_placeOf g_a0_widths h_a0_keys g_a0_cells g_a0_rules g_a0_sights s.heap.size c_a0_delays c_a0_rows_rung c_a0_rows_rowOf c_a0_rows_placeOf l4_5 r_53 hv_53) (cwV 1 hts gX1_gratingWith_X8_startOf rfl rfl rfl (by decide +kernel) ⟨Nat.le_of_ble_eq_true rfl, Nat.le_of_ble_eq_true rfl⟩) (va_recv hK hP (ci := 8) (q0 := 0) rfl rfl) hP hD hK hN [0, 2, 3, 4, 5] rfl (by decide +kernel) rfl hl.1 rfl (Nat.le_of_ble_eq_true rfl) dX1_gratingWith_53 ⟨Nat.le_of_ble_eq_true rfl, Nat.le_of_ble_eq_true rfl⟩) ?_
            obtain ⟨r_56, hv_56, hf⟩ := bd1_some hf
            refine kSi (rS [.int r_47, .int r_53] [] S (c_X8_spotOf l dC dI cI cJ cZ s.heap.size r_47 r_53 r_56 hv_56) (va_cwS 2 hts gX1_gratingWith_X8_spotOf rfl rfl rfl (by decide +kernel) ⟨Nat.le_of_ble_eq_true rfl, Nat.le_of_ble_eq_true rfl⟩) hP hD hK hN [] rfl (by decide +kernel) rfl hl.1 rfl (Nat.le_of_ble_eq_true rfl) dX1_gratingWith_56 ⟨Nat.le_of_ble_eq_true rfl, Nat.le_of_ble_eq_true rfl⟩) ?_
            refine lv_bipush (v := (-6)) hx hb dX1_gratingWith_59 (by decide) ?_
            refine lv_icmp_ne (tgt := 67) hx hb dX1_gratingWith_61 (by decide) (fun k_61 => ?_) (fun k_61 => ?_)
            · have hf := ite_f hf k_61
              refine lv_aload_n hx hb dX1_gratingWith_67 rfl (lv_at hl 0 rfl) ?_
              refine va_getN (D := (dC, dI)) (ci := 8) (v := .ref h_a0_keys) (C := RX8) (T := TX8) (N := 7) hx hb hts in_X1_gratingWith_X8 hown hK hP 0 rfl rfl 1 (by decide) (hN.f 18 rfl) (fun _ h9 => h9) rfl dX1_gratingWith_68 ?_
              refine lv_iload_n hx hb dX1_gratingWith_71 rfl (lv_at hl 1 rfl) ?_
              obtain ⟨r_72, hv_72, hf⟩ := bd1_some hf
              refine kSi (rSN (host := "WovenRows") [.ref h_a0_keys, .int l1] [] S (c_X10_at l dC dI cI cJ cZ h_a0_keys s.heap.size 10 c_a0_keys l1 r_72 hv_72) ⟨va_cnB 2 hts gX1_gratingWith_X10_at_n39 rfl rfl rfl (hN.m 16 rfl) (hts _ m_X1_gratingWith_iX10) (by decide +kernel) ⟨Nat.le_of_ble_eq_true rfl, Nat.le_of_ble_eq_true rfl⟩, hts _ m_X1_gratingWith_st_X10_at, trivial⟩ hP hD hK hN [1] rfl (by decide +kernel) rfl hl.1 rfl (Nat.le_of_ble_eq_true rfl) dX1_gratingWith_72 ⟨Nat.le_of_ble_eq_true rfl, Nat.le_of_ble_eq_true rfl⟩) ?_
              refine lv_aload_n hx hb dX1_gratingWith_75 rfl (lv_at hl 0 rfl) ?_
              refine va_getN (D := (dC, dI)) (ci := 8) (v := .ref h_a0_keys) (C := RX8) (T := TX8) (N := 7) hx hb hts in_X1_gratingWith_X8 hown hK hP 0 rfl rfl 1 (by decide) (hN.f 18 rfl) (fun _ h9 => h9) rfl dX1_gratingWith_76 ?_
              refine lv_iload hx hb dX1_gratingWith_79 (lv_at hl 4 rfl) ?_
              obtain ⟨r_81, hv_81, hf⟩ := bd1_some hf
              refine kSi (rSN (host := "WovenRows") [.ref h_a0_keys, .int l4_5] [.int r_72] S (c_X10_at l dC dI cI cJ cZ h_a0_keys s.heap.size 10 c_a0_keys l4_5 r_81 hv_81) ⟨va_cnB 2 hts gX1_gratingWith_X10_at_n39 rfl rfl rfl (hN.m 16 rfl) (hts _ m_X1_gratingWith_iX10) (by decide +kernel) ⟨Nat.le_of_ble_eq_true rfl, Nat.le_of_ble_eq_true rfl⟩, hts _ m_X1_gratingWith_st_X10_at, trivial⟩ hP hD hK hN [1] rfl (by decide +kernel) rfl hl.1 rfl (Nat.le_of_ble_eq_true rfl) dX1_gratingWith_81 ⟨Nat.le_of_ble_eq_true rfl, Nat.le_of_ble_eq_true rfl⟩) ?_
              refine lv_iload_n hx hb dX1_gratingWith_84 rfl (lv_at hl 2 rfl) ?_
              refine lv_iadd hx hb dX1_gratingWith_85 ?_
              refine lv_bipush (v := 12) hx hb dX1_gratingWith_86 (by decide) ?_
              refine lv_irem hx hb dX1_gratingWith_88 (by decide) ?_
              refine lv_isub hx hb dX1_gratingWith_89 ?_
              refine va_mabs hx hb (hml.trans hl.1.symm) hown (hts _ m_X1_gratingWith_ml73) (hts _ m_X1_gratingWith_st_abs) (hts _ m_X1_gratingWith_iM) (hts _ m_X1_gratingWith_co_abs) (Nat.le_of_ble_eq_true rfl) (Nat.le_of_ble_eq_true rfl) (Nat.le_of_ble_eq_true rfl) (Nat.le_of_ble_eq_true rfl) dX1_gratingWith_90 ?_
              obtain ⟨l5_93s, e_l5_93s, hf⟩ := nmv_some hf
              refine tpi e_l5_93s ?_
              refine lv_istore (lv' := [(5, .int l5_93s), (0, .ref h_a0), (1, .int l1), (2, .int l2), (3, .int l3_5), (4, .int l4_5)]) hx hb dX1_gratingWith_93 hl (by decide) rfl (fun ls hl => ?_)
              refine lv_iload hx hb dX1_gratingWith_95 (lv_at hl 0 rfl) ?_
              refine lv_iconst (v := 1) hx hb dX1_gratingWith_97 (by decide) ?_
              refine lv_icmp_eq (tgt := 115) hx hb dX1_gratingWith_98 (by decide) (fun k_98 => ?_) (fun k_98 => ?_)
              · have hf := ite_t hf k_98
                exact J_115 l3_5 l4_5 ls (lv_sub hl [1, 2, 3, 4, 5] rfl) hf
              · have hf := ite_f hf k_98
                refine lv_iload hx hb dX1_gratingWith_101 (lv_at hl 0 rfl) ?_
                refine lv_bipush (v := 6) hx hb dX1_gratingWith_103 (by decide) ?_
                refine lv_icmp_eq (tgt := 115) hx hb dX1_gratingWith_105 (by decide) (fun k_105 => ?_) (fun k_105 => ?_)
                · have hf := ite_t hf k_105
                  exact J_115 l3_5 l4_5 ls (lv_sub hl [1, 2, 3, 4, 5] rfl) hf
                · have hf := ite_f hf k_105
                  refine lv_iload hx hb dX1_gratingWith_108 (lv_at hl 0 rfl) ?_
                  refine lv_bipush (v := 11) hx hb dX1_gratingWith_110 (by decide) ?_
                  refine lv_icmp_ne (tgt := 118) hx hb dX1_gratingWith_112 (by decide) (fun k_112 => ?_) (fun k_112 => ?_)
                  · have hf := ite_f hf k_112
                    refine lv_iinc (v := (l4_5 + 1)) (lv' := [(4, .int (l4_5 + 1)), (5, .int l5_93s), (0, .ref h_a0), (1, .int l1), (2, .int l2), (3, .int l3_5)]) hx hb dX1_gratingWith_118 hl (k := 5) rfl rfl (by decide) rfl (fun ls hl => ?_)
                    refine lv_goto (tgt := 5) hx hb dX1_gratingWith_121 (by decide) ?_
                    exact ih_5 l3_5 (l4_5 + 1) ls (lv_sub hl [2, 3, 4, 5, 0] rfl) (ho1_5 _ (Option.some.inj hf).symm)
                  · have hf := ite_t hf k_112
                    exact J_115 l3_5 l4_5 ls (lv_sub hl [1, 2, 3, 4, 5] rfl) hf
            · have hf := ite_t hf k_61
              refine lv_goto (tgt := 118) hx hb dX1_gratingWith_64 (by decide) ?_
              refine lv_iinc (v := (l4_5 + 1)) (lv' := [(4, .int (l4_5 + 1)), (0, .ref h_a0), (1, .int l1), (2, .int l2), (3, .int l3_5)]) hx hb dX1_gratingWith_118 hl (k := 4) rfl rfl (by decide) rfl (fun ls hl => ?_)
              refine lv_goto (tgt := 5) hx hb dX1_gratingWith_121 (by decide) ?_
              exact ih_5 l3_5 (l4_5 + 1) ls (lv_sub hl [1, 2, 3, 4, 0] rfl) (ho1_5 _ (Option.some.inj hf).symm)
          · have hf := ite_t hf k_39
            refine lv_goto (tgt := 118) hx hb dX1_gratingWith_42 (by decide) ?_
            refine lv_iinc (v := (l4_5 + 1)) (lv' := [(4, .int (l4_5 + 1)), (0, .ref h_a0), (1, .int l1), (2, .int l2), (3, .int l3_5)]) hx hb dX1_gratingWith_118 hl (k := 4) rfl rfl (by decide) rfl (fun ls hl => ?_)
            refine lv_goto (tgt := 5) hx hb dX1_gratingWith_121 (by decide) ?_
            exact ih_5 l3_5 (l4_5 + 1) ls (lv_sub hl [1, 2, 3, 4, 0] rfl) (ho1_5 _ (Option.some.inj hf).symm)
  exact L_5 FU 0 0 ls (lv_sub hl [2, 3, 4, 1, 0] rfl) hq_5
abbrev w_X1_grating (cI cJ cZ : ClassId) (h_a1 h_a1_keys h_a1_delays h_a1_rows h_a1_rows_rowOf h_a1_rows_placeOf g_a1_widths g_a1_cells g_a1_rules g_a1_sights g_this : Nat) (c_a1_keys : Nat → Int32) (c_a1_delays : Nat → Int32) (c_a1_rows_rung : Int32) (c_a1_rows_rowOf : Nat → Int32) (c_a1_rows_placeOf : Nat → Int32) : va_W := [(h_a1, .inr (8, [.ref g_a1_widths, .ref h_a1_keys, .ref g_a1_cells, .ref h_a1_delays, .ref h_a1_rows, .ref g_a1_rules, .ref g_a1_sights])), (h_a1_keys, .inl (cI, 10, .inl c_a1_keys)), (h_a1_delays, .inl (cI, 2, .inl c_a1_delays)), (h_a1_rows, .inr (7, [.ref h_a1_rows_rowOf, .ref h_a1_rows_placeOf, .int c_a1_rows_rung])), (h_a1_rows_rowOf, .inl (cI, 10, .inl c_a1_rows_rowOf)), (h_a1_rows_placeOf, .inl (cI, 10, .inl c_a1_rows_placeOf))]
abbrev rm_X1_grating : Room := { frames := 3, cells := 0, slots := 0, locals := 69 }
theorem in_X1_grating_X8 : ∀ w ∈ u_ws RX8 TX8 7, w ∈ wsX1_grating := by decide +kernel
theorem in_X1_grating_X7 : ∀ w ∈ u_ws RX7 TX7 3, w ∈ wsX1_grating := by decide +kernel
theorem m_X1_grating_iX10 : (.initialized RX10 : Cond) ∈ wsX1_grating := by decide +kernel
theorem m_X1_grating_st_X10_at : (.static yX10_at : Cond) ∈ wsX1_grating := by decide +kernel
set_option maxRecDepth 100000 in
set_option maxHeartbeats 4000000 in
theorem c_X1_grating (l : Launch) (dC : Nat → ClassId) (dI : Nat → Nat → Nat) (cI cJ cZ : ClassId) (h_a1 h_a1_keys h_a1_delays h_a1_rows h_a1_rows_rowOf h_a1_rows_placeOf g_a1_widths g_a1_cells g_a1_rules g_a1_sights g_this : Nat) (sz : Nat) (c_a1_keys : Nat → Int32) (c_a1_delays : Nat → Int32) (c_a1_rows_rung : Int32) (c_a1_rows_rowOf : Nat → Int32) (c_a1_rows_placeOf : Nat → Int32) (l2 : Int32) (r : Int32) (hf : f_X1_grating c_a1_keys c_a1_delays c_a1_rows_rowOf c_a1_rows_placeOf l2 = some r) : Met l yX1_grating wsX1_grating rm_X1_grating (va_Pc [.ref g_this, .ref h_a1, .int l2] (PRE (dC, dI) (TY cI cJ cZ) sz (w_X1_grating cI cJ cZ h_a1 h_a1_keys h_a1_delays h_a1_rows h_a1_rows_rowOf h_a1_rows_placeOf g_a1_widths g_a1_cells g_a1_rules g_a1_sights g_this c_a1_keys c_a1_delays c_a1_rows_rung c_a1_rows_rowOf c_a1_rows_placeOf))) (vp_Si (fun r' => r' = r)) 0 0 (fun _ => False) := by
  refine ofSi (ty := .int) (by decide +kernel) rfl (Nat.le_of_ble_eq_true rfl) ?_
  intro p e s m args below meth c Z ls S hP hD hK hN hl hret
  obtain ⟨hx, hb, hml, hown, hts⟩ := id S
  have hown : s.vm.findClass RX1 = some m.cls := hown
  have hl : lv_has ls 5 [(0, .ref g_this), (1, .ref h_a1), (2, .int l2)] := hl
  unfold f_X1_grating at hf
  refine lv_iconst (v := 0) hx hb dX1_grating_0 (by decide) ?_
  refine lv_istore_n (lv' := [(3, .int 0), (0, .ref g_this), (1, .ref h_a1), (2, .int l2)]) hx hb dX1_grating_1 rfl hl (by decide) rfl (fun ls hl => ?_)
  refine lv_aload_n hx hb dX1_grating_2 rfl (lv_at hl 2 rfl) ?_
  refine lv_ifnonnull (tgt := 8) hx hb dX1_grating_3 (by decide) ?_
  refine lv_iconst (v := 0) hx hb dX1_grating_8 (by decide) ?_
  refine lv_istore (lv' := [(4, .int 0), (3, .int 0), (0, .ref g_this), (1, .ref h_a1), (2, .int l2)]) hx hb dX1_grating_9 hl (by decide) rfl (fun ls hl => ?_)
  obtain ⟨l3_11x, l4_11x, hq_11, hf⟩ := bd2_some hf
  have K_11 : ∀ (ls : Array Slot), lv_has ls 5 [(3, .int l3_11x)] → W p l e rm_X1_grating s m args below meth c s.heap [] 0 0 Z (F0 m 63 ls []) := by
    intro ls hl
    refine lv_iload_n hx hb dX1_grating_63 rfl (lv_at hl 0 rfl) ?_
    have e_f := Option.some.inj hf
    cases e_f
    exact hret rfl dX1_grating_64
  have L_11 : ∀ (n : Nat) (l3_11 : Int32) (l4_11 : Int32) (ls : Array Slot), lv_has ls 5 [(1, .ref h_a1), (2, .int l2), (3, .int l3_11), (4, .int l4_11)] → loopN (fun (q : Int32 × Int32) => f_X1_grating_b11 c_a1_keys c_a1_delays c_a1_rows_rowOf c_a1_rows_placeOf l2 q.1 q.2) n (l3_11, l4_11) = some (l3_11x, l4_11x) → W p l e rm_X1_grating s m args below meth c s.heap [] 0 0 Z (F0 m 11 ls []) := by
    intro n
    induction n with
    | zero => intro l3_11 l4_11 ls hl hq; exact (loopN_zero hq).elim
    | succ n ih_11 =>
      intro l3_11 l4_11 ls hl hq
      obtain ⟨o_11, hf, ho1_11, ho2_11⟩ := loopN_step hq
      have hf : f_X1_grating_b11 c_a1_keys c_a1_delays c_a1_rows_rowOf c_a1_rows_placeOf l2 l3_11 l4_11 = some o_11 := hf
      unfold f_X1_grating_b11 at hf
      refine lv_iload hx hb dX1_grating_11 (lv_at hl 3 rfl) ?_
      refine lv_bipush (v := 10) hx hb dX1_grating_13 (by decide) ?_
      refine lv_icmp_ge (tgt := 63) hx hb dX1_grating_15 (by decide) (fun k_15 => ?_) (fun k_15 => ?_)
      · have hf := ite_t hf k_15
        have e_11 := ho2_11 _ (Option.some.inj hf).symm
        cases e_11
        exact K_11 ls (lv_sub hl [2] rfl)
      · have hf := ite_f hf k_15
        refine lv_aload_n hx hb dX1_grating_18 rfl (lv_at hl 0 rfl) ?_
        refine va_getN (D := (dC, dI)) (ci := 8) (v := .ref h_a1_rows) (C := RX8) (T := TX8) (N := 7) hx hb hts in_X1_grating_X8 hown hK hP 0 rfl rfl 4 (by decide) (hN.f 22 rfl) (fun _ h9 => h9) rfl dX1_grating_19 ?_
        refine va_getN (D := (dC, dI)) (ci := 7) (v := .ref h_a1_rows_rowOf) (C := RX7) (T := TX7) (N := 3) hx hb hts in_X1_grating_X7 hown hK hP 3 rfl rfl 0 (by decide) (hN.f 2 rfl) (fun _ h9 => h9) rfl dX1_grating_22 ?_
        refine lv_iload hx hb dX1_grating_25 (lv_at hl 3 rfl) ?_
        obtain ⟨r_27, hv_27, hf⟩ := bd1_some hf
        refine kSi (rSN (host := "WovenRows") [.ref h_a1_rows_rowOf, .int l4_11] [] S (c_X10_at l dC dI cI cJ cZ h_a1_rows_rowOf s.heap.size 10 c_a1_rows_rowOf l4_11 r_27 hv_27) ⟨va_cnB 2 hts gX1_grating_X10_at_n39 rfl rfl rfl (hN.m 16 rfl) (hts _ m_X1_grating_iX10) (by decide +kernel) ⟨Nat.le_of_ble_eq_true rfl, Nat.le_of_ble_eq_true rfl⟩, hts _ m_X1_grating_st_X10_at, trivial⟩ hP hD hK hN [4] rfl (by decide +kernel) rfl hl.1 rfl (Nat.le_of_ble_eq_true rfl) dX1_grating_27 ⟨Nat.le_of_ble_eq_true rfl, Nat.le_of_ble_eq_true rfl⟩) ?_
        refine lv_if_ne (tgt := 57) hx hb dX1_grating_30 (by decide) (fun k_30 => ?_) (fun k_30 => ?_)
        · have hf := ite_f hf k_30
          refine lv_iinc (v := (l4_11 + 1)) (lv' := [(4, .int (l4_11 + 1)), (1, .ref h_a1), (2, .int l2), (3, .int l3_11)]) hx hb dX1_grating_57 hl (k := 3) rfl rfl (by decide) rfl (fun ls hl => ?_)
          refine lv_goto (tgt := 11) hx hb dX1_grating_60 (by decide) ?_
          exact ih_11 l3_11 (l4_11 + 1) ls (lv_sub hl [1, 2, 3, 0] rfl) (ho1_11 _ (Option.some.inj hf).symm)
        · have hf := ite_t hf k_30
          refine lv_aload_n hx hb dX1_grating_33 rfl (lv_at hl 0 rfl) ?_
          refine va_getN (D := (dC, dI)) (ci := 8) (v := .ref h_a1_keys) (C := RX8) (T := TX8) (N := 7) hx hb hts in_X1_grating_X8 hown hK hP 0 rfl rfl 1 (by decide) (hN.f 18 rfl) (fun _ h9 => h9) rfl dX1_grating_34 ?_
          refine lv_iload hx hb dX1_grating_37 (lv_at hl 3 rfl) ?_
          obtain ⟨r_39, hv_39, hf⟩ := bd1_some hf
          refine kSi (rSN (host := "WovenRows") [.ref h_a1_keys, .int l4_11] [] S (c_X10_at l dC dI cI cJ cZ h_a1_keys s.heap.size 10 c_a1_keys l4_11 r_39 hv_39) ⟨va_cnB 2 hts gX1_grating_X10_at_n39 rfl rfl rfl (hN.m 16 rfl) (hts _ m_X1_grating_iX10) (by decide +kernel) ⟨Nat.le_of_ble_eq_true rfl, Nat.le_of_ble_eq_true rfl⟩, hts _ m_X1_grating_st_X10_at, trivial⟩ hP hD hK hN [1] rfl (by decide +kernel) rfl hl.1 rfl (Nat.le_of_ble_eq_true rfl) dX1_grating_39 ⟨Nat.le_of_ble_eq_true rfl, Nat.le_of_ble_eq_true rfl⟩) ?_
          refine lv_bipush (v := 12) hx hb dX1_grating_42 (by decide) ?_
          refine lv_icmp_eq (tgt := 57) hx hb dX1_grating_44 (by decide) (fun k_44 => ?_) (fun k_44 => ?_)
          · have hf := ite_t hf k_44
            refine lv_iinc (v := (l4_11 + 1)) (lv' := [(4, .int (l4_11 + 1)), (1, .ref h_a1), (2, .int l2), (3, .int l3_11)]) hx hb dX1_grating_57 hl (k := 3) rfl rfl (by decide) rfl (fun ls hl => ?_)
            refine lv_goto (tgt := 11) hx hb dX1_grating_60 (by decide) ?_
            exact ih_11 l3_11 (l4_11 + 1) ls (lv_sub hl [1, 2, 3, 0] rfl) (ho1_11 _ (Option.some.inj hf).symm)
          · have hf := ite_f hf k_44
            refine lv_iload_n hx hb dX1_grating_47 rfl (lv_at hl 2 rfl) ?_
            refine lv_aload_n hx hb dX1_grating_48 rfl (lv_at hl 0 rfl) ?_
            refine lv_iload hx hb dX1_grating_49 (lv_at hl 3 rfl) ?_
            refine lv_iload_n hx hb dX1_grating_51 rfl (lv_at hl 1 rfl) ?_
            obtain ⟨r_52, hv_52, hf⟩ := bd1_some hf
            refine kSi (rS [.ref h_a1, .int l4_11, .int l2] [.int l3_11] S (c_X1_gratingWith l dC dI cI cJ cZ h_a1 h_a1_keys h_a1_delays h_a1_rows h_a1_rows_rowOf h_a1_rows_placeOf g_a1_widths g_a1_cells g_a1_rules g_a1_sights s.heap.size c_a1_keys c_a1_delays c_a1_rows_rung c_a1_rows_rowOf c_a1_rows_placeOf l4_11 l2 r_52 hv_52) (va_cwS 3 hts gX1_grating_X1_gratingWith rfl rfl rfl (by decide +kernel) ⟨Nat.le_of_ble_eq_true rfl, Nat.le_of_ble_eq_true rfl⟩) hP hD hK hN [0, 1, 2, 3, 4, 5] rfl (by decide +kernel) rfl hl.1 rfl (Nat.le_of_ble_eq_true rfl) dX1_grating_52 ⟨Nat.le_of_ble_eq_true rfl, Nat.le_of_ble_eq_true rfl⟩) ?_
            refine lv_iadd hx hb dX1_grating_55 ?_
            refine lv_istore_n (lv' := [(3, .int (l3_11 + r_52)), (1, .ref h_a1), (2, .int l2), (4, .int l4_11)]) hx hb dX1_grating_56 rfl hl (by decide) rfl (fun ls hl => ?_)
            refine lv_iinc (v := (l4_11 + 1)) (lv' := [(4, .int (l4_11 + 1)), (3, .int (l3_11 + r_52)), (1, .ref h_a1), (2, .int l2)]) hx hb dX1_grating_57 hl (k := 3) rfl rfl (by decide) rfl (fun ls hl => ?_)
            refine lv_goto (tgt := 11) hx hb dX1_grating_60 (by decide) ?_
            exact ih_11 (l3_11 + r_52) (l4_11 + 1) ls (lv_sub hl [2, 3, 1, 0] rfl) (ho1_11 _ (Option.some.inj hf).symm)
  exact L_11 FU 0 0 ls (lv_sub hl [3, 4, 1, 0] rfl) hq_11
abbrev w_X3_gather (cI cJ cZ : ClassId) (h_this h_this_crowd h_a1 h_a1_rowOf g_this_costs g_this_answers g_a1_placeOf : Nat) (c_size : Int32) (c_crowd : Nat → Int32) (c_a1_rung : Int32) (c_a1_rowOf : Nat → Int32) : va_W := [(h_this, .inr (3, [.ref h_this_crowd, .ref g_this_costs, .ref g_this_answers, .int c_size])), (h_this_crowd, .inl (cI, 6, .inl c_crowd)), (h_a1, .inr (7, [.ref h_a1_rowOf, .ref g_a1_placeOf, .int c_a1_rung])), (h_a1_rowOf, .inl (cI, 10, .inl c_a1_rowOf))]
abbrev rm_X3_gather : Room := { frames := 1, cells := 0, slots := 0, locals := 22 }
theorem m_X3_gather_f21 : (.fieldLink RX3 21 "WovenRows$Orders" "size" "I" : Cond) ∈ wsX3_gather := by decide +kernel
theorem in_X3_gather_X3 : ∀ w ∈ u_ws RX3 TX3 4, w ∈ wsX3_gather := by decide +kernel
theorem in_X3_gather_X7 : ∀ w ∈ u_ws RX7 TX7 3, w ∈ wsX3_gather := by decide +kernel
theorem m_X3_gather_f9 : (.fieldLink RX3 9 "WovenRows$Orders" "crowd" "[I" : Cond) ∈ wsX3_gather := by decide +kernel
theorem m_X3_gather_iX10 : (.initialized RX10 : Cond) ∈ wsX3_gather := by decide +kernel
theorem m_X3_gather_st_X10_at : (.static yX10_at : Cond) ∈ wsX3_gather := by decide +kernel
theorem m_X3_gather_st_X10_put : (.static yX10_put : Cond) ∈ wsX3_gather := by decide +kernel
set_option maxRecDepth 100000 in
set_option maxHeartbeats 4000000 in
theorem c_X3_gather (l : Launch) (dC : Nat → ClassId) (dI : Nat → Nat → Nat) (cI cJ cZ : ClassId) (h_this h_this_crowd h_a1 h_a1_rowOf g_this_costs g_this_answers g_a1_placeOf : Nat) (sz : Nat) (c_size : Int32) (c_crowd : Nat → Int32) (c_a1_rung : Int32) (c_a1_rowOf : Nat → Int32) (l2 : Int32) (z_size : Int32) (z_crowd : Nat → Int32) (hf : f_X3_gather c_crowd c_a1_rowOf l2 = some (z_size, z_crowd)) : Met l yX3_gather wsX3_gather rm_X3_gather (va_Pc [.ref h_this, .ref h_a1, .int l2] (PRE (dC, dI) (TY cI cJ cZ) sz (w_X3_gather cI cJ cZ h_this h_this_crowd h_a1 h_a1_rowOf g_this_costs g_this_answers g_a1_placeOf c_size c_crowd c_a1_rung c_a1_rowOf))) (va_Qv (fun _ : Unit => True) (POW (dC, dI) (va_A (w_X3_gather cI cJ cZ h_this h_this_crowd h_a1 h_a1_rowOf g_this_costs g_this_answers g_a1_placeOf c_size c_crowd c_a1_rung c_a1_rowOf) sz) (w_X3_gather cI cJ cZ h_this h_this_crowd h_a1 h_a1_rowOf g_this_costs g_this_answers g_a1_placeOf z_size z_crowd c_a1_rung c_a1_rowOf)) (va_A (w_X3_gather cI cJ cZ h_this h_this_crowd h_a1 h_a1_rowOf g_this_costs g_this_answers g_a1_placeOf c_size c_crowd c_a1_rung c_a1_rowOf) sz)) 0 0 (va_A (w_X3_gather cI cJ cZ h_this h_this_crowd h_a1 h_a1_rowOf g_this_costs g_this_answers g_a1_placeOf c_size c_crowd c_a1_rung c_a1_rowOf) sz) := by
  refine ofWv (by decide +kernel) rfl (Nat.le_of_ble_eq_true rfl) ?_
  intro p e s m args below meth c Z A ls S hP hD hK hN hA hl hret
  obtain ⟨hx, hb, hml, hown, hts⟩ := id S
  have hown : s.vm.findClass RX3 = some m.cls := hown
  have hS : va_S A s.heap s.heap [] := va_S.rf
  have hl : lv_has ls 4 [(0, .ref h_this), (1, .ref h_a1), (2, .int l2)] := hl
  unfold f_X3_gather at hf
  refine lv_aload_n hx hb dX3_gather_0 rfl (lv_at hl 0 rfl) ?_
  refine lv_iconst (v := 0) hx hb dX3_gather_1 (by decide) ?_
  refine va_put (D := (dC, dI)) (ci := 3) (v := .int 0) (ty := .int) (C := RX3) (T := TX3) (N := 4) hx hb hts in_X3_gather_X3 tyX3 tyX3_ok nmX3 hown hK hP hD hS 0 rfl rfl 3 (by decide) (hts _ m_X3_gather_f21) (fun _ h9 => h9) rfl (by decide +kernel) rfl rfl (Nat.le_of_ble_eq_true rfl) dX3_gather_2 (fun H locs hP hD hS => ?_)
  have hP : va_P (dC, dI) vwCl (w_X3_gather cI cJ cZ h_this h_this_crowd h_a1 h_a1_rowOf g_this_costs g_this_answers g_a1_placeOf 0 c_crowd c_a1_rung c_a1_rowOf) H := hP
  have hD : va_D A (w_X3_gather cI cJ cZ h_this h_this_crowd h_a1 h_a1_rowOf g_this_costs g_this_answers g_a1_placeOf 0 c_crowd c_a1_rung c_a1_rowOf) := hD
  refine lv_aload_n hx hb dX3_gather_5 rfl (lv_at hl 1 rfl) ?_
  refine lv_ifnonnull (tgt := 10) hx hb dX3_gather_6 (by decide) ?_
  refine lv_iconst (v := 0) hx hb dX3_gather_10 (by decide) ?_
  refine lv_istore_n (lv' := [(3, .int 0), (0, .ref h_this), (1, .ref h_a1), (2, .int l2)]) hx hb dX3_gather_11 rfl hl (by decide) rfl (fun ls hl => ?_)
  obtain ⟨l3_12x, c_size_12x, c_crowd_12x, hq_12, hf⟩ := bd3_some hf
  have K_12 : ∀ (H : Heap) (locs : List Loc) (ls : Array Slot), va_P (dC, dI) vwCl (w_X3_gather cI cJ cZ h_this h_this_crowd h_a1 h_a1_rowOf g_this_costs g_this_answers g_a1_placeOf c_size_12x c_crowd_12x c_a1_rung c_a1_rowOf) H → va_D A (w_X3_gather cI cJ cZ h_this h_this_crowd h_a1 h_a1_rowOf g_this_costs g_this_answers g_a1_placeOf c_size_12x c_crowd_12x c_a1_rung c_a1_rowOf) → va_S A s.heap H locs → lv_has ls 4 [] → W p l e rm_X3_gather s m args below meth c H locs 0 0 Z (F0 m 67 ls []) := by
    intro H locs ls hP hD hS hl
    have e_f := Option.some.inj hf
    cases e_f
    exact hret hP hD hS dX3_gather_67
  have L_12 : ∀ (n : Nat) (l3_12 : Int32) (c_size_12 : Int32) (c_crowd_12 : Nat → Int32) (H : Heap) (locs : List Loc) (ls : Array Slot), va_P (dC, dI) vwCl (w_X3_gather cI cJ cZ h_this h_this_crowd h_a1 h_a1_rowOf g_this_costs g_this_answers g_a1_placeOf c_size_12 c_crowd_12 c_a1_rung c_a1_rowOf) H → va_D A (w_X3_gather cI cJ cZ h_this h_this_crowd h_a1 h_a1_rowOf g_this_costs g_this_answers g_a1_placeOf c_size_12 c_crowd_12 c_a1_rung c_a1_rowOf) → va_S A s.heap H locs → lv_has ls 4 [(0, .ref h_this), (1, .ref h_a1), (2, .int l2), (3, .int l3_12)] → loopN (fun (q : Int32 × Int32 × (Nat → Int32)) => f_X3_gather_b12 c_a1_rowOf l2 q.1 q.2.1 q.2.2) n (l3_12, c_size_12, c_crowd_12) = some (l3_12x, c_size_12x, c_crowd_12x) → W p l e rm_X3_gather s m args below meth c H locs 0 0 Z (F0 m 12 ls []) := by
    intro n
    induction n with
    | zero => intro l3_12 c_size_12 c_crowd_12 H locs ls hP hD hS hl hq; exact (loopN_zero hq).elim
    | succ n ih_12 =>
      intro l3_12 c_size_12 c_crowd_12 H locs ls hP hD hS hl hq
      obtain ⟨o_12, hf, ho1_12, ho2_12⟩ := loopN_step hq
      have hf : f_X3_gather_b12 c_a1_rowOf l2 l3_12 c_size_12 c_crowd_12 = some o_12 := hf
      unfold f_X3_gather_b12 at hf
      refine lv_iload_n hx hb dX3_gather_12 rfl (lv_at hl 3 rfl) ?_
      refine lv_bipush (v := 10) hx hb dX3_gather_13 (by decide) ?_
      refine lv_icmp_ge (tgt := 67) hx hb dX3_gather_15 (by decide) (fun k_15 => ?_) (fun k_15 => ?_)
      · have hf := ite_t hf k_15
        have e_12 := ho2_12 _ (Option.some.inj hf).symm
        cases e_12
        exact K_12 H locs ls hP hD hS (lv_sub hl [] rfl)
      · have hf := ite_f hf k_15
        refine lv_aload_n hx hb dX3_gather_18 rfl (lv_at hl 1 rfl) ?_
        refine va_getN (D := (dC, dI)) (ci := 7) (v := .ref h_a1_rowOf) (C := RX7) (T := TX7) (N := 3) hx hb hts in_X3_gather_X7 hown hK hP 2 rfl rfl 0 (by decide) (hN.f 0 rfl) (fun _ h9 => h9) rfl dX3_gather_19 ?_
        refine lv_iload_n hx hb dX3_gather_22 rfl (lv_at hl 3 rfl) ?_
        obtain ⟨r_23, hv_23, hf⟩ := bd1_some hf
        refine kSi (rSN (host := "WovenRows") [.ref h_a1_rowOf, .int l3_12] [] S (c_X10_at l dC dI cI cJ cZ h_a1_rowOf H.size 10 c_a1_rowOf l3_12 r_23 hv_23) ⟨va_cnB 2 hts gX3_gather_X10_at_n30 rfl rfl rfl (hN.m 19 rfl) (hts _ m_X3_gather_iX10) (by decide +kernel) ⟨Nat.le_of_ble_eq_true rfl, Nat.le_of_ble_eq_true rfl⟩, hts _ m_X3_gather_st_X10_at, trivial⟩ hP hD hK hN [3] rfl (by decide +kernel) rfl hl.1 rfl (Nat.le_of_ble_eq_true rfl) dX3_gather_23 ⟨Nat.le_of_ble_eq_true rfl, Nat.le_of_ble_eq_true rfl⟩) ?_
        refine lv_iload_n hx hb dX3_gather_26 rfl (lv_at hl 2 rfl) ?_
        refine lv_icmp_ne (tgt := 61) hx hb dX3_gather_27 (by decide) (fun k_27 => ?_) (fun k_27 => ?_)
        · have hf := ite_f hf k_27
          refine lv_iinc (v := (l3_12 + 1)) (lv' := [(3, .int (l3_12 + 1)), (0, .ref h_this), (1, .ref h_a1), (2, .int l2)]) hx hb dX3_gather_61 hl (k := 3) rfl rfl (by decide) rfl (fun ls hl => ?_)
          refine lv_goto (tgt := 12) hx hb dX3_gather_64 (by decide) ?_
          exact ih_12 (l3_12 + 1) c_size_12 c_crowd_12 H locs ls hP hD hS (lv_sub hl [1, 2, 3, 0] rfl) (ho1_12 _ (Option.some.inj hf).symm)
        · have hf := ite_t hf k_27
          refine lv_aload_n hx hb dX3_gather_30 rfl (lv_at hl 0 rfl) ?_
          refine va_get (D := (dC, dI)) (ci := 3) (v := .int c_size_12) (C := RX3) (T := TX3) (N := 4) hx hb hts in_X3_gather_X3 hown hK hP 0 rfl rfl 3 (by decide) (hts _ m_X3_gather_f21) (fun _ h9 => h9) rfl dX3_gather_31 ?_
          refine lv_bipush (v := 6) hx hb dX3_gather_34 (by decide) ?_
          refine lv_icmp_ge (tgt := 61) hx hb dX3_gather_36 (by decide) (fun k_36 => ?_) (fun k_36 => ?_)
          · have hf := ite_t hf k_36
            refine lv_iinc (v := (l3_12 + 1)) (lv' := [(3, .int (l3_12 + 1)), (0, .ref h_this), (1, .ref h_a1), (2, .int l2)]) hx hb dX3_gather_61 hl (k := 3) rfl rfl (by decide) rfl (fun ls hl => ?_)
            refine lv_goto (tgt := 12) hx hb dX3_gather_64 (by decide) ?_
            exact ih_12 (l3_12 + 1) c_size_12 c_crowd_12 H locs ls hP hD hS (lv_sub hl [1, 2, 3, 0] rfl) (ho1_12 _ (Option.some.inj hf).symm)
          · have hf := ite_f hf k_36
            refine lv_aload_n hx hb dX3_gather_39 rfl (lv_at hl 0 rfl) ?_
            refine va_get (D := (dC, dI)) (ci := 3) (v := .ref h_this_crowd) (C := RX3) (T := TX3) (N := 4) hx hb hts in_X3_gather_X3 hown hK hP 0 rfl rfl 0 (by decide) (hts _ m_X3_gather_f9) (fun _ h9 => h9) rfl dX3_gather_40 ?_
            refine lv_aload_n hx hb dX3_gather_43 rfl (lv_at hl 0 rfl) ?_
            refine va_get (D := (dC, dI)) (ci := 3) (v := .int c_size_12) (C := RX3) (T := TX3) (N := 4) hx hb hts in_X3_gather_X3 hown hK hP 0 rfl rfl 3 (by decide) (hts _ m_X3_gather_f21) (fun _ h9 => h9) rfl dX3_gather_44 ?_
            refine lv_iload_n hx hb dX3_gather_47 rfl (lv_at hl 3 rfl) ?_
            obtain ⟨c_crowd_48, hv_48, hf⟩ := bd1_some hf
            refine kWv (rSN (host := "WovenRows") [.ref h_this_crowd, .int c_size_12, .int l3_12] [] S (c_X10_put l dC dI cI cJ cZ h_this_crowd H.size 6 c_crowd_12 c_size_12 l3_12 c_crowd_48 hv_48) ⟨va_cnB 3 hts gX3_gather_X10_put_n34 rfl rfl rfl (hN.m 20 rfl) (hts _ m_X3_gather_iX10) (by decide +kernel) ⟨Nat.le_of_ble_eq_true rfl, Nat.le_of_ble_eq_true rfl⟩, hts _ m_X3_gather_st_X10_put, trivial⟩ hP hD hK hN [1] rfl (by decide +kernel) rfl hl.1 rfl (Nat.le_of_ble_eq_true rfl) dX3_gather_48 ⟨Nat.le_of_ble_eq_true rfl, Nat.le_of_ble_eq_true rfl⟩) hP hD hS hA [1] rfl rfl [none, some 0, none, none] (by decide +kernel) rfl (fun H locs hP hD hS => ?_)
            have hP : va_P (dC, dI) vwCl (w_X3_gather cI cJ cZ h_this h_this_crowd h_a1 h_a1_rowOf g_this_costs g_this_answers g_a1_placeOf c_size_12 c_crowd_48 c_a1_rung c_a1_rowOf) H := hP
            have hD : va_D A (w_X3_gather cI cJ cZ h_this h_this_crowd h_a1 h_a1_rowOf g_this_costs g_this_answers g_a1_placeOf c_size_12 c_crowd_48 c_a1_rung c_a1_rowOf) := hD
            refine lv_aload_n hx hb dX3_gather_51 rfl (lv_at hl 0 rfl) ?_
            refine lv_dup hx hb dX3_gather_52 rfl ?_
            refine va_get (D := (dC, dI)) (ci := 3) (v := .int c_size_12) (C := RX3) (T := TX3) (N := 4) hx hb hts in_X3_gather_X3 hown hK hP 0 rfl rfl 3 (by decide) (hts _ m_X3_gather_f21) (fun _ h9 => h9) rfl dX3_gather_53 ?_
            refine lv_iconst (v := 1) hx hb dX3_gather_56 (by decide) ?_
            refine lv_iadd hx hb dX3_gather_57 ?_
            refine va_put (D := (dC, dI)) (ci := 3) (v := .int (c_size_12 + 1)) (ty := .int) (C := RX3) (T := TX3) (N := 4) hx hb hts in_X3_gather_X3 tyX3 tyX3_ok nmX3 hown hK hP hD hS 0 rfl rfl 3 (by decide) (hts _ m_X3_gather_f21) (fun _ h9 => h9) rfl (by decide +kernel) rfl rfl (Nat.le_of_ble_eq_true rfl) dX3_gather_58 (fun H locs hP hD hS => ?_)
            have hP : va_P (dC, dI) vwCl (w_X3_gather cI cJ cZ h_this h_this_crowd h_a1 h_a1_rowOf g_this_costs g_this_answers g_a1_placeOf (c_size_12 + 1) c_crowd_48 c_a1_rung c_a1_rowOf) H := hP
            have hD : va_D A (w_X3_gather cI cJ cZ h_this h_this_crowd h_a1 h_a1_rowOf g_this_costs g_this_answers g_a1_placeOf (c_size_12 + 1) c_crowd_48 c_a1_rung c_a1_rowOf) := hD
            refine lv_iinc (v := (l3_12 + 1)) (lv' := [(3, .int (l3_12 + 1)), (0, .ref h_this), (1, .ref h_a1), (2, .int l2)]) hx hb dX3_gather_61 hl (k := 3) rfl rfl (by decide) rfl (fun ls hl => ?_)
            refine lv_goto (tgt := 12) hx hb dX3_gather_64 (by decide) ?_
            exact ih_12 (l3_12 + 1) (c_size_12 + 1) c_crowd_48 H locs ls hP hD hS (lv_sub hl [1, 2, 3, 0] rfl) (ho1_12 _ (Option.some.inj hf).symm)
  exact L_12 FU 0 0 c_crowd H locs ls hP hD hS (lv_sub hl [1, 2, 3, 0] rfl) hq_12
abbrev w_X3_all (cI cJ cZ : ClassId) (h_this g_this_crowd g_this_costs g_this_answers : Nat) (c_size : Int32) : va_W := [(h_this, .inr (3, [.ref g_this_crowd, .ref g_this_costs, .ref g_this_answers, .int c_size]))]
abbrev rm_X3_all : Room := { frames := 0, cells := 0, slots := 0, locals := 0 }
theorem m_X3_all_f21 : (.fieldLink RX3 21 "WovenRows$Orders" "size" "I" : Cond) ∈ wsX3_all := by decide +kernel
theorem in_X3_all_X3 : ∀ w ∈ u_ws RX3 TX3 4, w ∈ wsX3_all := by decide +kernel
set_option maxRecDepth 100000 in
set_option maxHeartbeats 4000000 in
theorem c_X3_all (l : Launch) (dC : Nat → ClassId) (dI : Nat → Nat → Nat) (cI cJ cZ : ClassId) (h_this g_this_crowd g_this_costs g_this_answers : Nat) (sz : Nat) (c_size : Int32) (r : Int32) (hf : f_X3_all c_size = some r) : Met l yX3_all wsX3_all rm_X3_all (va_Pc [.ref h_this] (PRE (dC, dI) (TY cI cJ cZ) sz (w_X3_all cI cJ cZ h_this g_this_crowd g_this_costs g_this_answers c_size))) (vp_Si (fun r' => r' = r)) 0 0 (fun _ => False) := by
  refine ofSi (ty := .int) (by decide +kernel) rfl (Nat.le_of_ble_eq_true rfl) ?_
  intro p e s m args below meth c Z ls S hP hD hK hN hl hret
  obtain ⟨hx, hb, hml, hown, hts⟩ := id S
  have hown : s.vm.findClass RX3 = some m.cls := hown
  have hl : lv_has ls 1 [(0, .ref h_this)] := hl
  unfold f_X3_all at hf
  refine lv_iconst (v := 1) hx hb dX3_all_0 (by decide) ?_
  refine lv_aload_n hx hb dX3_all_1 rfl (lv_at hl 0 rfl) ?_
  refine va_get (D := (dC, dI)) (ci := 3) (v := .int c_size) (C := RX3) (T := TX3) (N := 4) hx hb hts in_X3_all_X3 hown hK hP 0 rfl rfl 3 (by decide) (hts _ m_X3_all_f21) (fun _ h9 => h9) rfl dX3_all_2 ?_
  refine lv_ishl hx hb dX3_all_5 ?_
  refine lv_iconst (v := 1) hx hb dX3_all_6 (by decide) ?_
  refine lv_isub hx hb dX3_all_7 ?_
  have e_f := Option.some.inj hf
  cases e_f
  exact hret rfl dX3_all_8
abbrev w_X3_answerForAll (cI cJ cZ : ClassId) (h_this h_this_answers g_this_crowd g_this_costs : Nat) (c_size : Int32) (c_answers : Nat → Int32) : va_W := [(h_this, .inr (3, [.ref g_this_crowd, .ref g_this_costs, .ref h_this_answers, .int c_size])), (h_this_answers, .inl (cI, 64, .inl c_answers))]
abbrev rm_X3_answerForAll : Room := { frames := 1, cells := 0, slots := 0, locals := 21 }
theorem m_X3_answerForAll_f18 : (.fieldLink RX3 18 "WovenRows$Orders" "answers" "[I" : Cond) ∈ wsX3_answerForAll := by decide +kernel
theorem in_X3_answerForAll_X3 : ∀ w ∈ u_ws RX3 TX3 4, w ∈ wsX3_answerForAll := by decide +kernel
theorem m_X3_answerForAll_iX10 : (.initialized RX10 : Cond) ∈ wsX3_answerForAll := by decide +kernel
theorem m_X3_answerForAll_st_X10_at : (.static yX10_at : Cond) ∈ wsX3_answerForAll := by decide +kernel
set_option maxRecDepth 100000 in
set_option maxHeartbeats 4000000 in
theorem c_X3_answerForAll (l : Launch) (dC : Nat → ClassId) (dI : Nat → Nat → Nat) (cI cJ cZ : ClassId) (h_this h_this_answers g_this_crowd g_this_costs : Nat) (sz : Nat) (c_size : Int32) (c_answers : Nat → Int32) (r : Int32) (hf : f_X3_answerForAll c_size c_answers = some r) : Met l yX3_answerForAll wsX3_answerForAll rm_X3_answerForAll (va_Pc [.ref h_this] (PRE (dC, dI) (TY cI cJ cZ) sz (w_X3_answerForAll cI cJ cZ h_this h_this_answers g_this_crowd g_this_costs c_size c_answers))) (vp_Si (fun r' => r' = r)) 0 0 (fun _ => False) := by
  refine ofSi (ty := .int) (by decide +kernel) rfl (Nat.le_of_ble_eq_true rfl) ?_
  intro p e s m args below meth c Z ls S hP hD hK hN hl hret
  obtain ⟨hx, hb, hml, hown, hts⟩ := id S
  have hown : s.vm.findClass RX3 = some m.cls := hown
  have hl : lv_has ls 1 [(0, .ref h_this)] := hl
  unfold f_X3_answerForAll at hf
  refine lv_aload_n hx hb dX3_answerForAll_0 rfl (lv_at hl 0 rfl) ?_
  refine va_get (D := (dC, dI)) (ci := 3) (v := .ref h_this_answers) (C := RX3) (T := TX3) (N := 4) hx hb hts in_X3_answerForAll_X3 hown hK hP 0 rfl rfl 2 (by decide) (hts _ m_X3_answerForAll_f18) (fun _ h9 => h9) rfl dX3_answerForAll_1 ?_
  refine lv_aload_n hx hb dX3_answerForAll_4 rfl (lv_at hl 0 rfl) ?_
  obtain ⟨r_5, hv_5, hf⟩ := bd1_some hf
  refine kSi (rV (C := RX3) [] [.ref h_this_answers] S (c_X3_all l dC dI cI cJ cZ h_this g_this_crowd g_this_costs h_this_answers s.heap.size c_size r_5 hv_5) (cwV 0 hts gX3_answerForAll_X3_all rfl rfl rfl (by decide +kernel) ⟨Nat.le_of_ble_eq_true rfl, Nat.le_of_ble_eq_true rfl⟩) (va_recv hK hP (ci := 3) (q0 := 0) rfl rfl) hP hD hK hN [0] rfl (by decide +kernel) rfl hl.1 rfl (Nat.le_of_ble_eq_true rfl) dX3_answerForAll_5 ⟨Nat.le_of_ble_eq_true rfl, Nat.le_of_ble_eq_true rfl⟩) ?_
  obtain ⟨r_8, hv_8, hf⟩ := bd1_some hf
  refine kSi (rSN (host := "WovenRows") [.ref h_this_answers, .int r_5] [] S (c_X10_at l dC dI cI cJ cZ h_this_answers s.heap.size 64 c_answers r_5 r_8 hv_8) ⟨va_cnB 2 hts gX3_answerForAll_X10_at_n30 rfl rfl rfl (hN.m 19 rfl) (hts _ m_X3_answerForAll_iX10) (by decide +kernel) ⟨Nat.le_of_ble_eq_true rfl, Nat.le_of_ble_eq_true rfl⟩, hts _ m_X3_answerForAll_st_X10_at, trivial⟩ hP hD hK hN [1] rfl (by decide +kernel) rfl hl.1 rfl (Nat.le_of_ble_eq_true rfl) dX3_answerForAll_8 ⟨Nat.le_of_ble_eq_true rfl, Nat.le_of_ble_eq_true rfl⟩) ?_
  have e_f := Option.some.inj hf
  cases e_f
  exact hret rfl dX3_answerForAll_11
abbrev w_X3_holds : va_W := []
abbrev rm_X3_holds : Room := { frames := 0, cells := 0, slots := 0, locals := 0 }
set_option maxRecDepth 100000 in
set_option maxHeartbeats 4000000 in
theorem c_X3_holds (l : Launch) (dC : Nat → ClassId) (dI : Nat → Nat → Nat) (cI cJ cZ : ClassId) (sz : Nat) (l0 : Int32) (l1 : Int32) (r : Int32) (hf : f_X3_holds l0 l1 = some r) : Met l yX3_holds wsX3_holds rm_X3_holds (va_Pc [.int l0, .int l1] (PRE (dC, dI) (TY cI cJ cZ) sz w_X3_holds)) (vp_Si (fun r' => r' = r)) 0 0 (fun _ => False) := by
  refine ofSi (ty := .boolean) (by decide +kernel) rfl (Nat.le_of_ble_eq_true rfl) ?_
  intro p e s m args below meth c Z ls S hP hD hK hN hl hret
  obtain ⟨hx, hb, hml, hown, hts⟩ := id S
  have hown : s.vm.findClass RX3 = some m.cls := hown
  have hl : lv_has ls 2 [(0, .int l0), (1, .int l1)] := hl
  unfold f_X3_holds at hf
  refine lv_iload_n hx hb dX3_holds_0 rfl (lv_at hl 0 rfl) ?_
  refine lv_iconst (v := 1) hx hb dX3_holds_1 (by decide) ?_
  refine lv_iload_n hx hb dX3_holds_2 rfl (lv_at hl 1 rfl) ?_
  refine lv_ishl hx hb dX3_holds_3 ?_
  refine lv_iand hx hb dX3_holds_4 ?_
  refine lv_if_eq (tgt := 12) hx hb dX3_holds_5 (by decide) (fun k_5 => ?_) (fun k_5 => ?_)
  · have hf := ite_t hf k_5
    refine lv_iconst (v := 0) hx hb dX3_holds_12 (by decide) ?_
    have e_f := Option.some.inj hf
    cases e_f
    exact hret rfl dX3_holds_13
  · have hf := ite_f hf k_5
    refine lv_iconst (v := 1) hx hb dX3_holds_8 (by decide) ?_
    refine lv_goto (tgt := 13) hx hb dX3_holds_9 (by decide) ?_
    have e_f := Option.some.inj hf
    cases e_f
    exact hret rfl dX3_holds_13
abbrev w_X3_without : va_W := []
abbrev rm_X3_without : Room := { frames := 0, cells := 0, slots := 0, locals := 0 }
set_option maxRecDepth 100000 in
set_option maxHeartbeats 4000000 in
theorem c_X3_without (l : Launch) (dC : Nat → ClassId) (dI : Nat → Nat → Nat) (cI cJ cZ : ClassId) (sz : Nat) (l0 : Int32) (l1 : Int32) (r : Int32) (hf : f_X3_without l0 l1 = some r) : Met l yX3_without wsX3_without rm_X3_without (va_Pc [.int l0, .int l1] (PRE (dC, dI) (TY cI cJ cZ) sz w_X3_without)) (vp_Si (fun r' => r' = r)) 0 0 (fun _ => False) := by
  refine ofSi (ty := .int) (by decide +kernel) rfl (Nat.le_of_ble_eq_true rfl) ?_
  intro p e s m args below meth c Z ls S hP hD hK hN hl hret
  obtain ⟨hx, hb, hml, hown, hts⟩ := id S
  have hown : s.vm.findClass RX3 = some m.cls := hown
  have hl : lv_has ls 2 [(0, .int l0), (1, .int l1)] := hl
  unfold f_X3_without at hf
  refine lv_iload_n hx hb dX3_without_0 rfl (lv_at hl 0 rfl) ?_
  refine lv_iconst (v := 1) hx hb dX3_without_1 (by decide) ?_
  refine lv_iload_n hx hb dX3_without_2 rfl (lv_at hl 1 rfl) ?_
  refine lv_ishl hx hb dX3_without_3 ?_
  refine lv_iconst (v := (-1)) hx hb dX3_without_4 (by decide) ?_
  refine lv_ixor hx hb dX3_without_5 ?_
  refine lv_iand hx hb dX3_without_6 ?_
  have e_f := Option.some.inj hf
  cases e_f
  exact hret rfl dX3_without_7
abbrev w_X3_ledBy (cI cJ cZ : ClassId) (h_this h_this_costs h_this_answers g_this_crowd : Nat) (c_size : Int32) (c_costs : Nat → Int32) (c_answers : Nat → Int32) : va_W := [(h_this, .inr (3, [.ref g_this_crowd, .ref h_this_costs, .ref h_this_answers, .int c_size])), (h_this_costs, .inl (cI, 36, .inl c_costs)), (h_this_answers, .inl (cI, 64, .inl c_answers))]
abbrev rm_X3_ledBy : Room := { frames := 1, cells := 0, slots := 0, locals := 21 }
theorem m_X3_ledBy_f21 : (.fieldLink RX3 21 "WovenRows$Orders" "size" "I" : Cond) ∈ wsX3_ledBy := by decide +kernel
theorem in_X3_ledBy_X3 : ∀ w ∈ u_ws RX3 TX3 4, w ∈ wsX3_ledBy := by decide +kernel
theorem m_X3_ledBy_f15 : (.fieldLink RX3 15 "WovenRows$Orders" "costs" "[I" : Cond) ∈ wsX3_ledBy := by decide +kernel
theorem m_X3_ledBy_f18 : (.fieldLink RX3 18 "WovenRows$Orders" "answers" "[I" : Cond) ∈ wsX3_ledBy := by decide +kernel
theorem m_X3_ledBy_iX10 : (.initialized RX10 : Cond) ∈ wsX3_ledBy := by decide +kernel
theorem m_X3_ledBy_st_X10_at : (.static yX10_at : Cond) ∈ wsX3_ledBy := by decide +kernel
set_option maxRecDepth 100000 in
set_option maxHeartbeats 4000000 in
theorem c_X3_ledBy (l : Launch) (dC : Nat → ClassId) (dI : Nat → Nat → Nat) (cI cJ cZ : ClassId) (h_this h_this_costs h_this_answers g_this_crowd : Nat) (sz : Nat) (c_size : Int32) (c_costs : Nat → Int32) (c_answers : Nat → Int32) (l1 : Int32) (l2 : Int32) (r : Int32) (hf : f_X3_ledBy c_size c_costs c_answers l1 l2 = some r) : Met l yX3_ledBy wsX3_ledBy rm_X3_ledBy (va_Pc [.ref h_this, .int l1, .int l2] (PRE (dC, dI) (TY cI cJ cZ) sz (w_X3_ledBy cI cJ cZ h_this h_this_costs h_this_answers g_this_crowd c_size c_costs c_answers))) (vp_Si (fun r' => r' = r)) 0 0 (fun _ => False) := by
  refine ofSi (ty := .int) (by decide +kernel) rfl (Nat.le_of_ble_eq_true rfl) ?_
  intro p e s m args below meth c Z ls S hP hD hK hN hl hret
  obtain ⟨hx, hb, hml, hown, hts⟩ := id S
  have hown : s.vm.findClass RX3 = some m.cls := hown
  have hl : lv_has ls 4 [(0, .ref h_this), (1, .int l1), (2, .int l2)] := hl
  unfold f_X3_ledBy at hf
  refine lv_aload_n hx hb dX3_ledBy_0 rfl (lv_at hl 0 rfl) ?_
  refine va_get (D := (dC, dI)) (ci := 3) (v := .int c_size) (C := RX3) (T := TX3) (N := 4) hx hb hts in_X3_ledBy_X3 hown hK hP 0 rfl rfl 3 (by decide) (hts _ m_X3_ledBy_f21) (fun _ h9 => h9) rfl dX3_ledBy_1 ?_
  refine lv_iload_n hx hb dX3_ledBy_4 rfl (lv_at hl 1 rfl) ?_
  obtain ⟨r_5, hv_5, hf⟩ := bd1_some hf
  refine kSi (rS [.int l1] [.int c_size] S (c_J6_bitCount_0f7a4 l dC dI cI cJ cZ s.heap.size l1 r_5 hv_5) (va_cwS 1 hts gX3_ledBy_J6_bitCount_0f7a4 rfl rfl rfl (by decide +kernel) ⟨Nat.le_of_ble_eq_true rfl, Nat.le_of_ble_eq_true rfl⟩) hP hD hK hN [] rfl (by decide +kernel) rfl hl.1 rfl (Nat.le_of_ble_eq_true rfl) dX3_ledBy_5 ⟨Nat.le_of_ble_eq_true rfl, Nat.le_of_ble_eq_true rfl⟩) ?_
  refine lv_isub hx hb dX3_ledBy_8 ?_
  refine lv_istore_n (lv' := [(3, .int (c_size - r_5)), (0, .ref h_this), (1, .int l1), (2, .int l2)]) hx hb dX3_ledBy_9 rfl hl (by decide) rfl (fun ls hl => ?_)
  refine lv_aload_n hx hb dX3_ledBy_10 rfl (lv_at hl 1 rfl) ?_
  refine va_get (D := (dC, dI)) (ci := 3) (v := .ref h_this_costs) (C := RX3) (T := TX3) (N := 4) hx hb hts in_X3_ledBy_X3 hown hK hP 0 rfl rfl 1 (by decide) (hts _ m_X3_ledBy_f15) (fun _ h9 => h9) rfl dX3_ledBy_11 ?_
  refine lv_iload_n hx hb dX3_ledBy_14 rfl (lv_at hl 3 rfl) ?_
  refine lv_bipush (v := 6) hx hb dX3_ledBy_15 (by decide) ?_
  refine lv_imul hx hb dX3_ledBy_17 ?_
  refine lv_iload_n hx hb dX3_ledBy_18 rfl (lv_at hl 0 rfl) ?_
  refine lv_iadd hx hb dX3_ledBy_19 ?_
  obtain ⟨r_20, hv_20, hf⟩ := bd1_some hf
  refine kSi (rSN (host := "WovenRows") [.ref h_this_costs, .int ((l2 * 6) + (c_size - r_5))] [] S (c_X10_at l dC dI cI cJ cZ h_this_costs s.heap.size 36 c_costs ((l2 * 6) + (c_size - r_5)) r_20 hv_20) ⟨va_cnB 2 hts gX3_ledBy_X10_at_n30 rfl rfl rfl (hN.m 19 rfl) (hts _ m_X3_ledBy_iX10) (by decide +kernel) ⟨Nat.le_of_ble_eq_true rfl, Nat.le_of_ble_eq_true rfl⟩, hts _ m_X3_ledBy_st_X10_at, trivial⟩ hP hD hK hN [1] rfl (by decide +kernel) rfl hl.1 rfl (Nat.le_of_ble_eq_true rfl) dX3_ledBy_20 ⟨Nat.le_of_ble_eq_true rfl, Nat.le_of_ble_eq_true rfl⟩) ?_
  refine lv_aload_n hx hb dX3_ledBy_23 rfl (lv_at hl 1 rfl) ?_
  refine va_get (D := (dC, dI)) (ci := 3) (v := .ref h_this_answers) (C := RX3) (T := TX3) (N := 4) hx hb hts in_X3_ledBy_X3 hown hK hP 0 rfl rfl 2 (by decide) (hts _ m_X3_ledBy_f18) (fun _ h9 => h9) rfl dX3_ledBy_24 ?_
  refine lv_iload_n hx hb dX3_ledBy_27 rfl (lv_at hl 2 rfl) ?_
  refine lv_iload_n hx hb dX3_ledBy_28 rfl (lv_at hl 3 rfl) ?_
  obtain ⟨r_29, hv_29, hf⟩ := bd1_some hf
  refine kSi (rS [.int l1, .int l2] [.ref h_this_answers, .int r_20] S (c_X3_without l dC dI cI cJ cZ s.heap.size l1 l2 r_29 hv_29) (va_cwS 2 hts gX3_ledBy_X3_without rfl rfl rfl (by decide +kernel) ⟨Nat.le_of_ble_eq_true rfl, Nat.le_of_ble_eq_true rfl⟩) hP hD hK hN [] rfl (by decide +kernel) rfl hl.1 rfl (Nat.le_of_ble_eq_true rfl) dX3_ledBy_29 ⟨Nat.le_of_ble_eq_true rfl, Nat.le_of_ble_eq_true rfl⟩) ?_
  obtain ⟨r_32, hv_32, hf⟩ := bd1_some hf
  refine kSi (rSN (host := "WovenRows") [.ref h_this_answers, .int r_29] [.int r_20] S (c_X10_at l dC dI cI cJ cZ h_this_answers s.heap.size 64 c_answers r_29 r_32 hv_32) ⟨va_cnB 2 hts gX3_ledBy_X10_at_n30 rfl rfl rfl (hN.m 19 rfl) (hts _ m_X3_ledBy_iX10) (by decide +kernel) ⟨Nat.le_of_ble_eq_true rfl, Nat.le_of_ble_eq_true rfl⟩, hts _ m_X3_ledBy_st_X10_at, trivial⟩ hP hD hK hN [2] rfl (by decide +kernel) rfl hl.1 rfl (Nat.le_of_ble_eq_true rfl) dX3_ledBy_32 ⟨Nat.le_of_ble_eq_true rfl, Nat.le_of_ble_eq_true rfl⟩) ?_
  refine lv_iadd hx hb dX3_ledBy_35 ?_
  have e_f := Option.some.inj hf
  cases e_f
  exact hret rfl dX3_ledBy_36
abbrev w_X3_fewestOf (cI cJ cZ : ClassId) (h_this h_this_costs h_this_answers g_this_crowd : Nat) (c_size : Int32) (c_costs : Nat → Int32) (c_answers : Nat → Int32) : va_W := [(h_this, .inr (3, [.ref g_this_crowd, .ref h_this_costs, .ref h_this_answers, .int c_size])), (h_this_costs, .inl (cI, 36, .inl c_costs)), (h_this_answers, .inl (cI, 64, .inl c_answers))]
abbrev rm_X3_fewestOf : Room := { frames := 2, cells := 0, slots := 0, locals := 44 }
theorem m_X3_fewestOf_f21 : (.fieldLink RX3 21 "WovenRows$Orders" "size" "I" : Cond) ∈ wsX3_fewestOf := by decide +kernel
theorem in_X3_fewestOf_X3 : ∀ w ∈ u_ws RX3 TX3 4, w ∈ wsX3_fewestOf := by decide +kernel
theorem m_X3_fewestOf_ml60 : (.methodLink RX3 60 Lib.Math.min.name : Cond) ∈ wsX3_fewestOf := by decide +kernel
theorem m_X3_fewestOf_st_min : (.static Lib.Math.min.name : Cond) ∈ wsX3_fewestOf := by decide +kernel
theorem m_X3_fewestOf_iM : (.initialized "java/lang/Math" : Cond) ∈ wsX3_fewestOf := by decide +kernel
theorem m_X3_fewestOf_co_min : (.code Lib.Math.min.name Lib.Math.min.code 2 (some .int) : Cond) ∈ wsX3_fewestOf := by decide +kernel
set_option maxRecDepth 100000 in
set_option maxHeartbeats 4000000 in
theorem c_X3_fewestOf (l : Launch) (dC : Nat → ClassId) (dI : Nat → Nat → Nat) (cI cJ cZ : ClassId) (h_this h_this_costs h_this_answers g_this_crowd : Nat) (sz : Nat) (c_size : Int32) (c_costs : Nat → Int32) (c_answers : Nat → Int32) (l1 : Int32) (r : Int32) (hf : f_X3_fewestOf c_size c_costs c_answers l1 = some r) : Met l yX3_fewestOf wsX3_fewestOf rm_X3_fewestOf (va_Pc [.ref h_this, .int l1] (PRE (dC, dI) (TY cI cJ cZ) sz (w_X3_fewestOf cI cJ cZ h_this h_this_costs h_this_answers g_this_crowd c_size c_costs c_answers))) (vp_Si (fun r' => r' = r)) 0 0 (fun _ => False) := by
  refine ofSi (ty := .int) (by decide +kernel) rfl (Nat.le_of_ble_eq_true rfl) ?_
  intro p e s m args below meth c Z ls S hP hD hK hN hl hret
  obtain ⟨hx, hb, hml, hown, hts⟩ := id S
  have hown : s.vm.findClass RX3 = some m.cls := hown
  have hl : lv_has ls 5 [(0, .ref h_this), (1, .int l1)] := hl
  unfold f_X3_fewestOf at hf
  refine lv_bipush (v := (-6)) hx hb dX3_fewestOf_0 (by decide) ?_
  refine lv_istore_n (lv' := [(2, .int (-6)), (0, .ref h_this), (1, .int l1)]) hx hb dX3_fewestOf_2 rfl hl (by decide) rfl (fun ls hl => ?_)
  refine lv_iconst (v := 0) hx hb dX3_fewestOf_3 (by decide) ?_
  refine lv_istore_n (lv' := [(3, .int 0), (2, .int (-6)), (0, .ref h_this), (1, .int l1)]) hx hb dX3_fewestOf_4 rfl hl (by decide) rfl (fun ls hl => ?_)
  obtain ⟨l2_5x, l3_5x, hq_5, hf⟩ := bd2_some hf
  have K_5 : ∀ (ls : Array Slot), lv_has ls 5 [(2, .int l2_5x)] → W p l e rm_X3_fewestOf s m args below meth c s.heap [] 0 0 Z (F0 m 53 ls []) := by
    intro ls hl
    refine lv_iload_n hx hb dX3_fewestOf_53 rfl (lv_at hl 0 rfl) ?_
    have e_f := Option.some.inj hf
    cases e_f
    exact hret rfl dX3_fewestOf_54
  have L_5 : ∀ (n : Nat) (l2_5 : Int32) (l3_5 : Int32) (ls : Array Slot), lv_has ls 5 [(0, .ref h_this), (1, .int l1), (2, .int l2_5), (3, .int l3_5)] → loopN (fun (q : Int32 × Int32) => f_X3_fewestOf_b5 c_size c_costs c_answers l1 q.1 q.2) n (l2_5, l3_5) = some (l2_5x, l3_5x) → W p l e rm_X3_fewestOf s m args below meth c s.heap [] 0 0 Z (F0 m 5 ls []) := by
    intro n
    induction n with
    | zero => intro l2_5 l3_5 ls hl hq; exact (loopN_zero hq).elim
    | succ n ih_5 =>
      intro l2_5 l3_5 ls hl hq
      obtain ⟨o_5, hf, ho1_5, ho2_5⟩ := loopN_step hq
      have hf : f_X3_fewestOf_b5 c_size c_costs c_answers l1 l2_5 l3_5 = some o_5 := hf
      unfold f_X3_fewestOf_b5 at hf
      have J_46 : ∀ (l3_46j : Int32) (s0_46j : Int32) (ls : Array Slot), lv_has ls 5 [(0, .ref h_this), (1, .int l1), (3, .int l3_46j)] → f_X3_fewestOf_j46 l3_46j s0_46j = some o_5 → W p l e rm_X3_fewestOf s m args below meth c s.heap [] 0 0 Z (F0 m 46 ls [.int s0_46j]) := by
        intro l3_46j s0_46j ls hl hf
        unfold f_X3_fewestOf_j46 at hf
        refine lv_istore_n (lv' := [(2, .int s0_46j), (0, .ref h_this), (1, .int l1), (3, .int l3_46j)]) hx hb dX3_fewestOf_46 rfl hl (by decide) rfl (fun ls hl => ?_)
        refine lv_iinc (v := (l3_46j + 1)) (lv' := [(3, .int (l3_46j + 1)), (2, .int s0_46j), (0, .ref h_this), (1, .int l1)]) hx hb dX3_fewestOf_47 hl (k := 3) rfl rfl (by decide) rfl (fun ls hl => ?_)
        refine lv_goto (tgt := 5) hx hb dX3_fewestOf_50 (by decide) ?_
        exact ih_5 s0_46j (l3_46j + 1) ls (lv_sub hl [2, 3, 1, 0] rfl) (ho1_5 _ (Option.some.inj hf).symm)
      refine lv_iload_n hx hb dX3_fewestOf_5 rfl (lv_at hl 3 rfl) ?_
      refine lv_aload_n hx hb dX3_fewestOf_6 rfl (lv_at hl 0 rfl) ?_
      refine va_get (D := (dC, dI)) (ci := 3) (v := .int c_size) (C := RX3) (T := TX3) (N := 4) hx hb hts in_X3_fewestOf_X3 hown hK hP 0 rfl rfl 3 (by decide) (hts _ m_X3_fewestOf_f21) (fun _ h9 => h9) rfl dX3_fewestOf_7 ?_
      refine lv_icmp_ge (tgt := 53) hx hb dX3_fewestOf_10 (by decide) (fun k_10 => ?_) (fun k_10 => ?_)
      · have hf := ite_t hf k_10
        have e_5 := ho2_5 _ (Option.some.inj hf).symm
        cases e_5
        exact K_5 ls (lv_sub hl [2] rfl)
      · have hf := ite_f hf k_10
        refine lv_iload_n hx hb dX3_fewestOf_13 rfl (lv_at hl 1 rfl) ?_
        refine lv_iload_n hx hb dX3_fewestOf_14 rfl (lv_at hl 3 rfl) ?_
        obtain ⟨r_15, hv_15, hf⟩ := bd1_some hf
        refine kSi (rS [.int l1, .int l3_5] [] S (c_X3_holds l dC dI cI cJ cZ s.heap.size l1 l3_5 r_15 hv_15) (va_cwS 2 hts gX3_fewestOf_X3_holds rfl rfl rfl (by decide +kernel) ⟨Nat.le_of_ble_eq_true rfl, Nat.le_of_ble_eq_true rfl⟩) hP hD hK hN [] rfl (by decide +kernel) rfl hl.1 rfl (Nat.le_of_ble_eq_true rfl) dX3_fewestOf_15 ⟨Nat.le_of_ble_eq_true rfl, Nat.le_of_ble_eq_true rfl⟩) ?_
        refine lv_if_eq (tgt := 47) hx hb dX3_fewestOf_18 (by decide) (fun k_18 => ?_) (fun k_18 => ?_)
        · have hf := ite_t hf k_18
          refine lv_iinc (v := (l3_5 + 1)) (lv' := [(3, .int (l3_5 + 1)), (0, .ref h_this), (1, .int l1), (2, .int l2_5)]) hx hb dX3_fewestOf_47 hl (k := 3) rfl rfl (by decide) rfl (fun ls hl => ?_)
          refine lv_goto (tgt := 5) hx hb dX3_fewestOf_50 (by decide) ?_
          exact ih_5 l2_5 (l3_5 + 1) ls (lv_sub hl [1, 2, 3, 0] rfl) (ho1_5 _ (Option.some.inj hf).symm)
        · have hf := ite_f hf k_18
          refine lv_aload_n hx hb dX3_fewestOf_21 rfl (lv_at hl 0 rfl) ?_
          refine lv_iload_n hx hb dX3_fewestOf_22 rfl (lv_at hl 1 rfl) ?_
          refine lv_iload_n hx hb dX3_fewestOf_23 rfl (lv_at hl 3 rfl) ?_
          obtain ⟨r_24, hv_24, hf⟩ := bd1_some hf
          refine kSi (rV (C := RX3) [.int l1, .int l3_5] [] S (c_X3_ledBy l dC dI cI cJ cZ h_this h_this_costs h_this_answers g_this_crowd s.heap.size c_size c_costs c_answers l1 l3_5 r_24 hv_24) (cwV 2 hts gX3_fewestOf_X3_ledBy rfl rfl rfl (by decide +kernel) ⟨Nat.le_of_ble_eq_true rfl, Nat.le_of_ble_eq_true rfl⟩) (va_recv hK hP (ci := 3) (q0 := 0) rfl rfl) hP hD hK hN [0, 1, 2] rfl (by decide +kernel) rfl hl.1 rfl (Nat.le_of_ble_eq_true rfl) dX3_fewestOf_24 ⟨Nat.le_of_ble_eq_true rfl, Nat.le_of_ble_eq_true rfl⟩) ?_
          refine lv_istore (lv' := [(4, .int r_24), (0, .ref h_this), (1, .int l1), (2, .int l2_5), (3, .int l3_5)]) hx hb dX3_fewestOf_27 hl (by decide) rfl (fun ls hl => ?_)
          refine lv_iload_n hx hb dX3_fewestOf_29 rfl (lv_at hl 3 rfl) ?_
          refine lv_bipush (v := (-6)) hx hb dX3_fewestOf_30 (by decide) ?_
          refine lv_icmp_ne (tgt := 40) hx hb dX3_fewestOf_32 (by decide) (fun k_32 => ?_) (fun k_32 => ?_)
          · have hf := ite_f hf k_32
            refine lv_iload_n hx hb dX3_fewestOf_40 rfl (lv_at hl 3 rfl) ?_
            refine lv_iload hx hb dX3_fewestOf_41 (lv_at hl 0 rfl) ?_
            refine va_mmin hx hb (hml.trans hl.1.symm) hown (hts _ m_X3_fewestOf_ml60) (hts _ m_X3_fewestOf_st_min) (hts _ m_X3_fewestOf_iM) (hts _ m_X3_fewestOf_co_min) (Nat.le_of_ble_eq_true rfl) (Nat.le_of_ble_eq_true rfl) (Nat.le_of_ble_eq_true rfl) (Nat.le_of_ble_eq_true rfl) dX3_fewestOf_43 ?_
            exact J_46 l3_5 (if r_24 < l2_5 then r_24 else l2_5) ls (lv_sub hl [1, 2, 4] rfl) hf
          · have hf := ite_t hf k_32
            refine lv_iload hx hb dX3_fewestOf_35 (lv_at hl 0 rfl) ?_
            refine lv_goto (tgt := 46) hx hb dX3_fewestOf_37 (by decide) ?_
            exact J_46 l3_5 r_24 ls (lv_sub hl [1, 2, 4] rfl) hf
  exact L_5 FU (-6) 0 ls (lv_sub hl [2, 3, 1, 0] rfl) hq_5
abbrev w_X3_countClashes (cI cJ cZ : ClassId) (h_this h_this_crowd h_this_costs h_this_answers h_a1 h_a1_widths h_a1_cells h_a1_delays h_a1_rows h_a1_rows_rowOf h_a1_rows_placeOf g_a1_keys g_a1_rules g_a1_sights : Nat) (c_size : Int32) (c_crowd : Nat → Int32) (c_costs : Nat → Int32) (c_answers : Nat → Int32) (c_a1_widths : Nat → Int32) (c_a1_cells : Nat → Int32) (c_a1_delays : Nat → Int32) (c_a1_rows_rung : Int32) (c_a1_rows_rowOf : Nat → Int32) (c_a1_rows_placeOf : Nat → Int32) : va_W := [(h_this, .inr (3, [.ref h_this_crowd, .ref h_this_costs, .ref h_this_answers, .int c_size])), (h_this_crowd, .inl (cI, 6, .inl c_crowd)), (h_this_costs, .inl (cI, 36, .inl c_costs)), (h_this_answers, .inl (cI, 64, .inl c_answers)), (h_a1, .inr (8, [.ref h_a1_widths, .ref g_a1_keys, .ref h_a1_cells, .ref h_a1_delays, .ref h_a1_rows, .ref g_a1_rules, .ref g_a1_sights])), (h_a1_widths, .inl (cI, 10, .inl c_a1_widths)), (h_a1_cells, .inl (cI, 17, .inl c_a1_cells)), (h_a1_delays, .inl (cI, 2, .inl c_a1_delays)), (h_a1_rows, .inr (7, [.ref h_a1_rows_rowOf, .ref h_a1_rows_placeOf, .int c_a1_rows_rung])), (h_a1_rows_rowOf, .inl (cI, 10, .inl c_a1_rows_rowOf)), (h_a1_rows_placeOf, .inl (cI, 10, .inl c_a1_rows_placeOf))]
abbrev rm_X3_countClashes : Room := { frames := 3, cells := 0, slots := 0, locals := 72 }
theorem m_X3_countClashes_f21 : (.fieldLink RX3 21 "WovenRows$Orders" "size" "I" : Cond) ∈ wsX3_countClashes := by decide +kernel
theorem in_X3_countClashes_X3 : ∀ w ∈ u_ws RX3 TX3 4, w ∈ wsX3_countClashes := by decide +kernel
theorem m_X3_countClashes_f15 : (.fieldLink RX3 15 "WovenRows$Orders" "costs" "[I" : Cond) ∈ wsX3_countClashes := by decide +kernel
theorem m_X3_countClashes_f9 : (.fieldLink RX3 9 "WovenRows$Orders" "crowd" "[I" : Cond) ∈ wsX3_countClashes := by decide +kernel
theorem m_X3_countClashes_f18 : (.fieldLink RX3 18 "WovenRows$Orders" "answers" "[I" : Cond) ∈ wsX3_countClashes := by decide +kernel
theorem m_X3_countClashes_iX10 : (.initialized RX10 : Cond) ∈ wsX3_countClashes := by decide +kernel
theorem m_X3_countClashes_st_X10_put : (.static yX10_put : Cond) ∈ wsX3_countClashes := by decide +kernel
theorem m_X3_countClashes_st_X10_at : (.static yX10_at : Cond) ∈ wsX3_countClashes := by decide +kernel
set_option maxRecDepth 100000 in
set_option maxHeartbeats 4000000 in
theorem c_X3_countClashes (l : Launch) (dC : Nat → ClassId) (dI : Nat → Nat → Nat) (cI cJ cZ : ClassId) (h_this h_this_crowd h_this_costs h_this_answers h_a1 h_a1_widths h_a1_cells h_a1_delays h_a1_rows h_a1_rows_rowOf h_a1_rows_placeOf g_a1_keys g_a1_rules g_a1_sights : Nat) (sz : Nat) (c_size : Int32) (c_crowd : Nat → Int32) (c_costs : Nat → Int32) (c_answers : Nat → Int32) (c_a1_widths : Nat → Int32) (c_a1_cells : Nat → Int32) (c_a1_delays : Nat → Int32) (c_a1_rows_rung : Int32) (c_a1_rows_rowOf : Nat → Int32) (c_a1_rows_placeOf : Nat → Int32) (l2 : Int32) (z_costs : Nat → Int32) (z_answers : Nat → Int32) (hf : f_X3_countClashes c_size c_crowd c_costs c_answers c_a1_widths c_a1_cells c_a1_delays c_a1_rows_rowOf c_a1_rows_placeOf l2 = some (z_costs, z_answers)) : Met l yX3_countClashes wsX3_countClashes rm_X3_countClashes (va_Pc [.ref h_this, .ref h_a1, .int l2] (PRE (dC, dI) (TY cI cJ cZ) sz (w_X3_countClashes cI cJ cZ h_this h_this_crowd h_this_costs h_this_answers h_a1 h_a1_widths h_a1_cells h_a1_delays h_a1_rows h_a1_rows_rowOf h_a1_rows_placeOf g_a1_keys g_a1_rules g_a1_sights c_size c_crowd c_costs c_answers c_a1_widths c_a1_cells c_a1_delays c_a1_rows_rung c_a1_rows_rowOf c_a1_rows_placeOf))) (va_Qv (fun _ : Unit => True) (POW (dC, dI) (va_A (w_X3_countClashes cI cJ cZ h_this h_this_crowd h_this_costs h_this_answers h_a1 h_a1_widths h_a1_cells h_a1_delays h_a1_rows h_a1_rows_rowOf h_a1_rows_placeOf g_a1_keys g_a1_rules g_a1_sights c_size c_crowd c_costs c_answers c_a1_widths c_a1_cells c_a1_delays c_a1_rows_rung c_a1_rows_rowOf c_a1_rows_placeOf) sz) (w_X3_countClashes cI cJ cZ h_this h_this_crowd h_this_costs h_this_answers h_a1 h_a1_widths h_a1_cells h_a1_delays h_a1_rows h_a1_rows_rowOf h_a1_rows_placeOf g_a1_keys g_a1_rules g_a1_sights c_size c_crowd z_costs z_answers c_a1_widths c_a1_cells c_a1_delays c_a1_rows_rung c_a1_rows_rowOf c_a1_rows_placeOf)) (va_A (w_X3_countClashes cI cJ cZ h_this h_this_crowd h_this_costs h_this_answers h_a1 h_a1_widths h_a1_cells h_a1_delays h_a1_rows h_a1_rows_rowOf h_a1_rows_placeOf g_a1_keys g_a1_rules g_a1_sights c_size c_crowd c_costs c_answers c_a1_widths c_a1_cells c_a1_delays c_a1_rows_rung c_a1_rows_rowOf c_a1_rows_placeOf) sz)) 0 0 (va_A (w_X3_countClashes cI cJ cZ h_this h_this_crowd h_this_costs h_this_answers h_a1 h_a1_widths h_a1_cells h_a1_delays h_a1_rows h_a1_rows_rowOf h_a1_rows_placeOf g_a1_keys g_a1_rules g_a1_sights c_size c_crowd c_costs c_answers c_a1_widths c_a1_cells c_a1_delays c_a1_rows_rung c_a1_rows_rowOf c_a1_rows_placeOf) sz) := by
  refine ofWv (by decide +kernel) rfl (Nat.le_of_ble_eq_true rfl) ?_
  intro p e s m args below meth c Z A ls S hP hD hK hN hA hl hret
  obtain ⟨hx, hb, hml, hown, hts⟩ := id S
  have hown : s.vm.findClass RX3 = some m.cls := hown
  have hS : va_S A s.heap s.heap [] := va_S.rf
  have hl : lv_has ls 5 [(0, .ref h_this), (1, .ref h_a1), (2, .int l2)] := hl
  unfold f_X3_countClashes at hf
  refine lv_aload_n hx hb dX3_countClashes_0 rfl (lv_at hl 1 rfl) ?_
  refine lv_ifnonnull (tgt := 5) hx hb dX3_countClashes_1 (by decide) ?_
  refine lv_iconst (v := 0) hx hb dX3_countClashes_5 (by decide) ?_
  refine lv_istore_n (lv' := [(3, .int 0), (0, .ref h_this), (1, .ref h_a1), (2, .int l2)]) hx hb dX3_countClashes_6 rfl hl (by decide) rfl (fun ls hl => ?_)
  obtain ⟨l3_7x, c_costs_7x, hq_7, hf⟩ := bd2_some hf
  have K_7 : ∀ (H : Heap) (locs : List Loc) (ls : Array Slot), va_P (dC, dI) vwCl (w_X3_countClashes cI cJ cZ h_this h_this_crowd h_this_costs h_this_answers h_a1 h_a1_widths h_a1_cells h_a1_delays h_a1_rows h_a1_rows_rowOf h_a1_rows_placeOf g_a1_keys g_a1_rules g_a1_sights c_size c_crowd c_costs_7x c_answers c_a1_widths c_a1_cells c_a1_delays c_a1_rows_rung c_a1_rows_rowOf c_a1_rows_placeOf) H → va_D A (w_X3_countClashes cI cJ cZ h_this h_this_crowd h_this_costs h_this_answers h_a1 h_a1_widths h_a1_cells h_a1_delays h_a1_rows h_a1_rows_rowOf h_a1_rows_placeOf g_a1_keys g_a1_rules g_a1_sights c_size c_crowd c_costs_7x c_answers c_a1_widths c_a1_cells c_a1_delays c_a1_rows_rung c_a1_rows_rowOf c_a1_rows_placeOf) → va_S A s.heap H locs → lv_has ls 5 [(0, .ref h_this)] → W p l e rm_X3_countClashes s m args below meth c H locs 0 0 Z (F0 m 68 ls []) := by
    intro H locs ls hP hD hS hl
    refine lv_aload_n hx hb dX3_countClashes_68 rfl (lv_at hl 0 rfl) ?_
    obtain ⟨r_69, hv_69, hf⟩ := bd1_some hf
    refine kSi (rV (C := RX3) [] [] S (c_X3_all l dC dI cI cJ cZ h_this h_this_crowd h_this_costs h_this_answers H.size c_size r_69 hv_69) (cwV 0 hts gX3_countClashes_X3_all rfl rfl rfl (by decide +kernel) ⟨Nat.le_of_ble_eq_true rfl, Nat.le_of_ble_eq_true rfl⟩) (va_recv hK hP (ci := 3) (q0 := 0) rfl rfl) hP hD hK hN [0] rfl (by decide +kernel) rfl hl.1 rfl (Nat.le_of_ble_eq_true rfl) dX3_countClashes_69 ⟨Nat.le_of_ble_eq_true rfl, Nat.le_of_ble_eq_true rfl⟩) ?_
    refine lv_istore_n (lv' := [(3, .int r_69), (0, .ref h_this)]) hx hb dX3_countClashes_72 rfl hl (by decide) rfl (fun ls hl => ?_)
    refine lv_aload_n hx hb dX3_countClashes_73 rfl (lv_at hl 1 rfl) ?_
    refine va_get (D := (dC, dI)) (ci := 3) (v := .ref h_this_answers) (C := RX3) (T := TX3) (N := 4) hx hb hts in_X3_countClashes_X3 hown hK hP 0 rfl rfl 2 (by decide) (hts _ m_X3_countClashes_f18) (fun _ h9 => h9) rfl dX3_countClashes_74 ?_
    refine lv_iconst (v := 0) hx hb dX3_countClashes_77 (by decide) ?_
    refine lv_iconst (v := 0) hx hb dX3_countClashes_78 (by decide) ?_
    obtain ⟨c_answers_79, hv_79, hf⟩ := bd1_some hf
    refine kWv (rSN (host := "WovenRows") [.ref h_this_answers, .int 0, .int 0] [] S (c_X10_put l dC dI cI cJ cZ h_this_answers H.size 64 c_answers 0 0 c_answers_79 hv_79) ⟨va_cnB 3 hts gX3_countClashes_X10_put_n34 rfl rfl rfl (hN.m 20 rfl) (hts _ m_X3_countClashes_iX10) (by decide +kernel) ⟨Nat.le_of_ble_eq_true rfl, Nat.le_of_ble_eq_true rfl⟩, hts _ m_X3_countClashes_st_X10_put, trivial⟩ hP hD hK hN [3] rfl (by decide +kernel) rfl hl.1 rfl (Nat.le_of_ble_eq_true rfl) dX3_countClashes_79 ⟨Nat.le_of_ble_eq_true rfl, Nat.le_of_ble_eq_true rfl⟩) hP hD hS hA [3] rfl rfl [none, none, none, some 0, none, none, none, none, none, none, none] (by decide +kernel) rfl (fun H locs hP hD hS => ?_)
    have hP : va_P (dC, dI) vwCl (w_X3_countClashes cI cJ cZ h_this h_this_crowd h_this_costs h_this_answers h_a1 h_a1_widths h_a1_cells h_a1_delays h_a1_rows h_a1_rows_rowOf h_a1_rows_placeOf g_a1_keys g_a1_rules g_a1_sights c_size c_crowd c_costs_7x c_answers_79 c_a1_widths c_a1_cells c_a1_delays c_a1_rows_rung c_a1_rows_rowOf c_a1_rows_placeOf) H := hP
    have hD : va_D A (w_X3_countClashes cI cJ cZ h_this h_this_crowd h_this_costs h_this_answers h_a1 h_a1_widths h_a1_cells h_a1_delays h_a1_rows h_a1_rows_rowOf h_a1_rows_placeOf g_a1_keys g_a1_rules g_a1_sights c_size c_crowd c_costs_7x c_answers_79 c_a1_widths c_a1_cells c_a1_delays c_a1_rows_rung c_a1_rows_rowOf c_a1_rows_placeOf) := hD
    refine lv_iconst (v := 1) hx hb dX3_countClashes_82 (by decide) ?_
    refine lv_istore (lv' := [(4, .int 1), (3, .int r_69), (0, .ref h_this)]) hx hb dX3_countClashes_83 hl (by decide) rfl (fun ls hl => ?_)
    obtain ⟨l4_85x, c_answers_85x, hq_85, hf⟩ := bd2_some hf
    have K_85 : ∀ (H : Heap) (locs : List Loc) (ls : Array Slot), va_P (dC, dI) vwCl (w_X3_countClashes cI cJ cZ h_this h_this_crowd h_this_costs h_this_answers h_a1 h_a1_widths h_a1_cells h_a1_delays h_a1_rows h_a1_rows_rowOf h_a1_rows_placeOf g_a1_keys g_a1_rules g_a1_sights c_size c_crowd c_costs_7x c_answers_85x c_a1_widths c_a1_cells c_a1_delays c_a1_rows_rung c_a1_rows_rowOf c_a1_rows_placeOf) H → va_D A (w_X3_countClashes cI cJ cZ h_this h_this_crowd h_this_costs h_this_answers h_a1 h_a1_widths h_a1_cells h_a1_delays h_a1_rows h_a1_rows_rowOf h_a1_rows_placeOf g_a1_keys g_a1_rules g_a1_sights c_size c_crowd c_costs_7x c_answers_85x c_a1_widths c_a1_cells c_a1_delays c_a1_rows_rung c_a1_rows_rowOf c_a1_rows_placeOf) → va_S A s.heap H locs → lv_has ls 5 [] → W p l e rm_X3_countClashes s m args below meth c H locs 0 0 Z (F0 m 112 ls []) := by
      intro H locs ls hP hD hS hl
      have e_f := Option.some.inj hf
      cases e_f
      exact hret hP hD hS dX3_countClashes_112
    have L_85 : ∀ (n : Nat) (l4_85 : Int32) (c_answers_85 : Nat → Int32) (H : Heap) (locs : List Loc) (ls : Array Slot), va_P (dC, dI) vwCl (w_X3_countClashes cI cJ cZ h_this h_this_crowd h_this_costs h_this_answers h_a1 h_a1_widths h_a1_cells h_a1_delays h_a1_rows h_a1_rows_rowOf h_a1_rows_placeOf g_a1_keys g_a1_rules g_a1_sights c_size c_crowd c_costs_7x c_answers_85 c_a1_widths c_a1_cells c_a1_delays c_a1_rows_rung c_a1_rows_rowOf c_a1_rows_placeOf) H → va_D A (w_X3_countClashes cI cJ cZ h_this h_this_crowd h_this_costs h_this_answers h_a1 h_a1_widths h_a1_cells h_a1_delays h_a1_rows h_a1_rows_rowOf h_a1_rows_placeOf g_a1_keys g_a1_rules g_a1_sights c_size c_crowd c_costs_7x c_answers_85 c_a1_widths c_a1_cells c_a1_delays c_a1_rows_rung c_a1_rows_rowOf c_a1_rows_placeOf) → va_S A s.heap H locs → lv_has ls 5 [(0, .ref h_this), (3, .int r_69), (4, .int l4_85)] → loopN (fun (q : Int32 × (Nat → Int32)) => f_X3_countClashes_b85 c_size c_costs_7x r_69 q.1 q.2) n (l4_85, c_answers_85) = some (l4_85x, c_answers_85x) → W p l e rm_X3_countClashes s m args below meth c H locs 0 0 Z (F0 m 85 ls []) := by
      intro n
      induction n with
      | zero => intro l4_85 c_answers_85 H locs ls hP hD hS hl hq; exact (loopN_zero hq).elim
      | succ n ih_85 =>
        intro l4_85 c_answers_85 H locs ls hP hD hS hl hq
        obtain ⟨o_85, hf, ho1_85, ho2_85⟩ := loopN_step hq
        have hf : f_X3_countClashes_b85 c_size c_costs_7x r_69 l4_85 c_answers_85 = some o_85 := hf
        unfold f_X3_countClashes_b85 at hf
        refine lv_iload hx hb dX3_countClashes_85 (lv_at hl 2 rfl) ?_
        refine lv_iload_n hx hb dX3_countClashes_87 rfl (lv_at hl 1 rfl) ?_
        refine lv_icmp_gt (tgt := 112) hx hb dX3_countClashes_88 (by decide) (fun k_88 => ?_) (fun k_88 => ?_)
        · have hf := ite_t hf k_88
          have e_85 := ho2_85 _ (Option.some.inj hf).symm
          cases e_85
          exact K_85 H locs ls hP hD hS (lv_sub hl [] rfl)
        · have hf := ite_f hf k_88
          refine lv_aload_n hx hb dX3_countClashes_91 rfl (lv_at hl 0 rfl) ?_
          refine va_get (D := (dC, dI)) (ci := 3) (v := .ref h_this_answers) (C := RX3) (T := TX3) (N := 4) hx hb hts in_X3_countClashes_X3 hown hK hP 0 rfl rfl 2 (by decide) (hts _ m_X3_countClashes_f18) (fun _ h9 => h9) rfl dX3_countClashes_92 ?_
          refine lv_iload hx hb dX3_countClashes_95 (lv_at hl 2 rfl) ?_
          refine lv_aload_n hx hb dX3_countClashes_97 rfl (lv_at hl 0 rfl) ?_
          refine lv_iload hx hb dX3_countClashes_98 (lv_at hl 2 rfl) ?_
          obtain ⟨r_100, hv_100, hf⟩ := bd1_some hf
          refine kSi (rV (C := RX3) [.int l4_85] [.int l4_85, .ref h_this_answers] S (c_X3_fewestOf l dC dI cI cJ cZ h_this h_this_costs h_this_answers h_this_crowd H.size c_size c_costs_7x c_answers_85 l4_85 r_100 hv_100) (cwV 1 hts gX3_countClashes_X3_fewestOf rfl rfl rfl (by decide +kernel) ⟨Nat.le_of_ble_eq_true rfl, Nat.le_of_ble_eq_true rfl⟩) (va_recv hK hP (ci := 3) (q0 := 0) rfl rfl) hP hD hK hN [0, 2, 3] rfl (by decide +kernel) rfl hl.1 rfl (Nat.le_of_ble_eq_true rfl) dX3_countClashes_100 ⟨Nat.le_of_ble_eq_true rfl, Nat.le_of_ble_eq_true rfl⟩) ?_
          obtain ⟨c_answers_103, hv_103, hf⟩ := bd1_some hf
          refine kWv (rSN (host := "WovenRows") [.ref h_this_answers, .int l4_85, .int r_100] [] S (c_X10_put l dC dI cI cJ cZ h_this_answers H.size 64 c_answers_85 l4_85 r_100 c_answers_103 hv_103) ⟨va_cnB 3 hts gX3_countClashes_X10_put_n34 rfl rfl rfl (hN.m 20 rfl) (hts _ m_X3_countClashes_iX10) (by decide +kernel) ⟨Nat.le_of_ble_eq_true rfl, Nat.le_of_ble_eq_true rfl⟩, hts _ m_X3_countClashes_st_X10_put, trivial⟩ hP hD hK hN [3] rfl (by decide +kernel) rfl hl.1 rfl (Nat.le_of_ble_eq_true rfl) dX3_countClashes_103 ⟨Nat.le_of_ble_eq_true rfl, Nat.le_of_ble_eq_true rfl⟩) hP hD hS hA [3] rfl rfl [none, none, none, some 0, none, none, none, none, none, none, none] (by decide +kernel) rfl (fun H locs hP hD hS => ?_)
          have hP : va_P (dC, dI) vwCl (w_X3_countClashes cI cJ cZ h_this h_this_crowd h_this_costs h_this_answers h_a1 h_a1_widths h_a1_cells h_a1_delays h_a1_rows h_a1_rows_rowOf h_a1_rows_placeOf g_a1_keys g_a1_rules g_a1_sights c_size c_crowd c_costs_7x c_answers_103 c_a1_widths c_a1_cells c_a1_delays c_a1_rows_rung c_a1_rows_rowOf c_a1_rows_placeOf) H := hP
          have hD : va_D A (w_X3_countClashes cI cJ cZ h_this h_this_crowd h_this_costs h_this_answers h_a1 h_a1_widths h_a1_cells h_a1_delays h_a1_rows h_a1_rows_rowOf h_a1_rows_placeOf g_a1_keys g_a1_rules g_a1_sights c_size c_crowd c_costs_7x c_answers_103 c_a1_widths c_a1_cells c_a1_delays c_a1_rows_rung c_a1_rows_rowOf c_a1_rows_placeOf) := hD
          refine lv_iinc (v := (l4_85 + 1)) (lv' := [(4, .int (l4_85 + 1)), (0, .ref h_this), (3, .int r_69)]) hx hb dX3_countClashes_106 hl (k := 2) rfl rfl (by decide) rfl (fun ls hl => ?_)
          refine lv_goto (tgt := 85) hx hb dX3_countClashes_109 (by decide) ?_
          exact ih_85 (l4_85 + 1) c_answers_103 H locs ls hP hD hS (lv_sub hl [1, 2, 0] rfl) (ho1_85 _ (Option.some.inj hf).symm)
    exact L_85 FU 1 c_answers_79 H locs ls hP hD hS (lv_sub hl [2, 1, 0] rfl) hq_85
  have L_7 : ∀ (n : Nat) (l3_7 : Int32) (c_costs_7 : Nat → Int32) (H : Heap) (locs : List Loc) (ls : Array Slot), va_P (dC, dI) vwCl (w_X3_countClashes cI cJ cZ h_this h_this_crowd h_this_costs h_this_answers h_a1 h_a1_widths h_a1_cells h_a1_delays h_a1_rows h_a1_rows_rowOf h_a1_rows_placeOf g_a1_keys g_a1_rules g_a1_sights c_size c_crowd c_costs_7 c_answers c_a1_widths c_a1_cells c_a1_delays c_a1_rows_rung c_a1_rows_rowOf c_a1_rows_placeOf) H → va_D A (w_X3_countClashes cI cJ cZ h_this h_this_crowd h_this_costs h_this_answers h_a1 h_a1_widths h_a1_cells h_a1_delays h_a1_rows h_a1_rows_rowOf h_a1_rows_placeOf g_a1_keys g_a1_rules g_a1_sights c_size c_crowd c_costs_7 c_answers c_a1_widths c_a1_cells c_a1_delays c_a1_rows_rung c_a1_rows_rowOf c_a1_rows_placeOf) → va_S A s.heap H locs → lv_has ls 5 [(0, .ref h_this), (1, .ref h_a1), (2, .int l2), (3, .int l3_7)] → loopN (fun (q : Int32 × (Nat → Int32)) => f_X3_countClashes_b7 c_size c_crowd c_a1_widths c_a1_cells c_a1_delays c_a1_rows_rowOf c_a1_rows_placeOf l2 q.1 q.2) n (l3_7, c_costs_7) = some (l3_7x, c_costs_7x) → W p l e rm_X3_countClashes s m args below meth c H locs 0 0 Z (F0 m 7 ls []) := by
    intro n
    induction n with
    | zero => intro l3_7 c_costs_7 H locs ls hP hD hS hl hq; exact (loopN_zero hq).elim
    | succ n ih_7 =>
      intro l3_7 c_costs_7 H locs ls hP hD hS hl hq
      obtain ⟨o_7, hf, ho1_7, ho2_7⟩ := loopN_step hq
      have hf : f_X3_countClashes_b7 c_size c_crowd c_a1_widths c_a1_cells c_a1_delays c_a1_rows_rowOf c_a1_rows_placeOf l2 l3_7 c_costs_7 = some o_7 := hf
      unfold f_X3_countClashes_b7 at hf
      refine lv_iload_n hx hb dX3_countClashes_7 rfl (lv_at hl 3 rfl) ?_
      refine lv_aload_n hx hb dX3_countClashes_8 rfl (lv_at hl 0 rfl) ?_
      refine va_get (D := (dC, dI)) (ci := 3) (v := .int c_size) (C := RX3) (T := TX3) (N := 4) hx hb hts in_X3_countClashes_X3 hown hK hP 0 rfl rfl 3 (by decide) (hts _ m_X3_countClashes_f21) (fun _ h9 => h9) rfl dX3_countClashes_9 ?_
      refine lv_icmp_ge (tgt := 68) hx hb dX3_countClashes_12 (by decide) (fun k_12 => ?_) (fun k_12 => ?_)
      · have hf := ite_t hf k_12
        have e_7 := ho2_7 _ (Option.some.inj hf).symm
        cases e_7
        exact K_7 H locs ls hP hD hS (lv_sub hl [0] rfl)
      · have hf := ite_f hf k_12
        refine lv_iconst (v := 0) hx hb dX3_countClashes_15 (by decide) ?_
        refine lv_istore (lv' := [(4, .int 0), (0, .ref h_this), (1, .ref h_a1), (2, .int l2), (3, .int l3_7)]) hx hb dX3_countClashes_16 hl (by decide) rfl (fun ls hl => ?_)
        obtain ⟨l4_18x, c_costs_18x, hq_18, hf⟩ := bd2_some hf
        have K_18 : ∀ (H : Heap) (locs : List Loc) (ls : Array Slot), va_P (dC, dI) vwCl (w_X3_countClashes cI cJ cZ h_this h_this_crowd h_this_costs h_this_answers h_a1 h_a1_widths h_a1_cells h_a1_delays h_a1_rows h_a1_rows_rowOf h_a1_rows_placeOf g_a1_keys g_a1_rules g_a1_sights c_size c_crowd c_costs_18x c_answers c_a1_widths c_a1_cells c_a1_delays c_a1_rows_rung c_a1_rows_rowOf c_a1_rows_placeOf) H → va_D A (w_X3_countClashes cI cJ cZ h_this h_this_crowd h_this_costs h_this_answers h_a1 h_a1_widths h_a1_cells h_a1_delays h_a1_rows h_a1_rows_rowOf h_a1_rows_placeOf g_a1_keys g_a1_rules g_a1_sights c_size c_crowd c_costs_18x c_answers c_a1_widths c_a1_cells c_a1_delays c_a1_rows_rung c_a1_rows_rowOf c_a1_rows_placeOf) → va_S A s.heap H locs → lv_has ls 5 [(0, .ref h_this), (1, .ref h_a1), (2, .int l2), (3, .int l3_7)] → W p l e rm_X3_countClashes s m args below meth c H locs 0 0 Z (F0 m 62 ls []) := by
          intro H locs ls hP hD hS hl
          refine lv_iinc (v := (l3_7 + 1)) (lv' := [(3, .int (l3_7 + 1)), (0, .ref h_this), (1, .ref h_a1), (2, .int l2)]) hx hb dX3_countClashes_62 hl (k := 3) rfl rfl (by decide) rfl (fun ls hl => ?_)
          refine lv_goto (tgt := 7) hx hb dX3_countClashes_65 (by decide) ?_
          exact ih_7 (l3_7 + 1) c_costs_18x H locs ls hP hD hS (lv_sub hl [1, 2, 3, 0] rfl) (ho1_7 _ (Option.some.inj hf).symm)
        have L_18 : ∀ (n : Nat) (l4_18 : Int32) (c_costs_18 : Nat → Int32) (H : Heap) (locs : List Loc) (ls : Array Slot), va_P (dC, dI) vwCl (w_X3_countClashes cI cJ cZ h_this h_this_crowd h_this_costs h_this_answers h_a1 h_a1_widths h_a1_cells h_a1_delays h_a1_rows h_a1_rows_rowOf h_a1_rows_placeOf g_a1_keys g_a1_rules g_a1_sights c_size c_crowd c_costs_18 c_answers c_a1_widths c_a1_cells c_a1_delays c_a1_rows_rung c_a1_rows_rowOf c_a1_rows_placeOf) H → va_D A (w_X3_countClashes cI cJ cZ h_this h_this_crowd h_this_costs h_this_answers h_a1 h_a1_widths h_a1_cells h_a1_delays h_a1_rows h_a1_rows_rowOf h_a1_rows_placeOf g_a1_keys g_a1_rules g_a1_sights c_size c_crowd c_costs_18 c_answers c_a1_widths c_a1_cells c_a1_delays c_a1_rows_rung c_a1_rows_rowOf c_a1_rows_placeOf) → va_S A s.heap H locs → lv_has ls 5 [(0, .ref h_this), (1, .ref h_a1), (2, .int l2), (3, .int l3_7), (4, .int l4_18)] → loopN (fun (q : Int32 × (Nat → Int32)) => f_X3_countClashes_b18 c_size c_crowd c_a1_widths c_a1_cells c_a1_delays c_a1_rows_rowOf c_a1_rows_placeOf l2 l3_7 q.1 q.2) n (l4_18, c_costs_18) = some (l4_18x, c_costs_18x) → W p l e rm_X3_countClashes s m args below meth c H locs 0 0 Z (F0 m 18 ls []) := by
          intro n
          induction n with
          | zero => intro l4_18 c_costs_18 H locs ls hP hD hS hl hq; exact (loopN_zero hq).elim
          | succ n ih_18 =>
            intro l4_18 c_costs_18 H locs ls hP hD hS hl hq
            obtain ⟨o_18, hf, ho1_18, ho2_18⟩ := loopN_step hq
            have hf : f_X3_countClashes_b18 c_size c_crowd c_a1_widths c_a1_cells c_a1_delays c_a1_rows_rowOf c_a1_rows_placeOf l2 l3_7 l4_18 c_costs_18 = some o_18 := hf
            unfold f_X3_countClashes_b18 at hf
            refine lv_iload hx hb dX3_countClashes_18 (lv_at hl 4 rfl) ?_
            refine lv_aload_n hx hb dX3_countClashes_20 rfl (lv_at hl 0 rfl) ?_
            refine va_get (D := (dC, dI)) (ci := 3) (v := .int c_size) (C := RX3) (T := TX3) (N := 4) hx hb hts in_X3_countClashes_X3 hown hK hP 0 rfl rfl 3 (by decide) (hts _ m_X3_countClashes_f21) (fun _ h9 => h9) rfl dX3_countClashes_21 ?_
            refine lv_icmp_ge (tgt := 62) hx hb dX3_countClashes_24 (by decide) (fun k_24 => ?_) (fun k_24 => ?_)
            · have hf := ite_t hf k_24
              have e_18 := ho2_18 _ (Option.some.inj hf).symm
              cases e_18
              exact K_18 H locs ls hP hD hS (lv_sub hl [0, 1, 2, 3] rfl)
            · have hf := ite_f hf k_24
              refine lv_aload_n hx hb dX3_countClashes_27 rfl (lv_at hl 0 rfl) ?_
              refine va_get (D := (dC, dI)) (ci := 3) (v := .ref h_this_costs) (C := RX3) (T := TX3) (N := 4) hx hb hts in_X3_countClashes_X3 hown hK hP 0 rfl rfl 1 (by decide) (hts _ m_X3_countClashes_f15) (fun _ h9 => h9) rfl dX3_countClashes_28 ?_
              refine lv_iload_n hx hb dX3_countClashes_31 rfl (lv_at hl 3 rfl) ?_
              refine lv_bipush (v := 6) hx hb dX3_countClashes_32 (by decide) ?_
              refine lv_imul hx hb dX3_countClashes_34 ?_
              refine lv_iload hx hb dX3_countClashes_35 (lv_at hl 4 rfl) ?_
              refine lv_iadd hx hb dX3_countClashes_37 ?_
              refine lv_aload_n hx hb dX3_countClashes_38 rfl (lv_at hl 1 rfl) ?_
              refine lv_iload_n hx hb dX3_countClashes_39 rfl (lv_at hl 2 rfl) ?_
              refine lv_iload hx hb dX3_countClashes_40 (lv_at hl 4 rfl) ?_
              refine lv_aload_n hx hb dX3_countClashes_42 rfl (lv_at hl 0 rfl) ?_
              refine va_get (D := (dC, dI)) (ci := 3) (v := .ref h_this_crowd) (C := RX3) (T := TX3) (N := 4) hx hb hts in_X3_countClashes_X3 hown hK hP 0 rfl rfl 0 (by decide) (hts _ m_X3_countClashes_f9) (fun _ h9 => h9) rfl dX3_countClashes_43 ?_
              refine lv_iload_n hx hb dX3_countClashes_46 rfl (lv_at hl 3 rfl) ?_
              obtain ⟨r_47, hv_47, hf⟩ := bd1_some hf
              refine kSi (rSN (host := "WovenRows") [.ref h_this_crowd, .int l3_7] [.int l4_18, .int l2, .ref h_a1, .int ((l3_7 * 6) + l4_18), .ref h_this_costs] S (c_X10_at l dC dI cI cJ cZ h_this_crowd H.size 6 c_crowd l3_7 r_47 hv_47) ⟨va_cnB 2 hts gX3_countClashes_X10_at_n30 rfl rfl rfl (hN.m 19 rfl) (hts _ m_X3_countClashes_iX10) (by decide +kernel) ⟨Nat.le_of_ble_eq_true rfl, Nat.le_of_ble_eq_true rfl⟩, hts _ m_X3_countClashes_st_X10_at, trivial⟩ hP hD hK hN [1] rfl (by decide +kernel) rfl hl.1 rfl (Nat.le_of_ble_eq_true rfl) dX3_countClashes_47 ⟨Nat.le_of_ble_eq_true rfl, Nat.le_of_ble_eq_true rfl⟩) ?_
              obtain ⟨r_50, hv_50, hf⟩ := bd1_some hf
              refine kSi (rV (C := RX8) [.int l2, .int l4_18, .int r_47] [.int ((l3_7 * 6) + l4_18), .ref h_this_costs] S (c_X8_clashesIn l dC dI cI cJ cZ h_a1 h_a1_widths h_a1_cells h_a1_delays h_a1_rows h_a1_rows_rowOf h_a1_rows_placeOf g_a1_keys g_a1_rules g_a1_sights H.size c_a1_widths c_a1_cells c_a1_delays c_a1_rows_rung c_a1_rows_rowOf c_a1_rows_placeOf l2 l4_18 r_47 r_50 hv_50) (cwV 3 hts gX3_countClashes_X8_clashesIn rfl rfl rfl (by decide +kernel) ⟨Nat.le_of_ble_eq_true rfl, Nat.le_of_ble_eq_true rfl⟩) (va_recv hK hP (ci := 8) (q0 := 4) rfl rfl) hP hD hK hN [4, 5, 6, 7, 8, 9, 10] rfl (by decide +kernel) rfl hl.1 rfl (Nat.le_of_ble_eq_true rfl) dX3_countClashes_50 ⟨Nat.le_of_ble_eq_true rfl, Nat.le_of_ble_eq_true rfl⟩) ?_
              obtain ⟨c_costs_53, hv_53, hf⟩ := bd1_some hf
              refine kWv (rSN (host := "WovenRows") [.ref h_this_costs, .int ((l3_7 * 6) + l4_18), .int r_50] [] S (c_X10_put l dC dI cI cJ cZ h_this_costs H.size 36 c_costs_18 ((l3_7 * 6) + l4_18) r_50 c_costs_53 hv_53) ⟨va_cnB 3 hts gX3_countClashes_X10_put_n34 rfl rfl rfl (hN.m 20 rfl) (hts _ m_X3_countClashes_iX10) (by decide +kernel) ⟨Nat.le_of_ble_eq_true rfl, Nat.le_of_ble_eq_true rfl⟩, hts _ m_X3_countClashes_st_X10_put, trivial⟩ hP hD hK hN [2] rfl (by decide +kernel) rfl hl.1 rfl (Nat.le_of_ble_eq_true rfl) dX3_countClashes_53 ⟨Nat.le_of_ble_eq_true rfl, Nat.le_of_ble_eq_true rfl⟩) hP hD hS hA [2] rfl rfl [none, none, some 0, none, none, none, none, none, none, none, none] (by decide +kernel) rfl (fun H locs hP hD hS => ?_)
              have hP : va_P (dC, dI) vwCl (w_X3_countClashes cI cJ cZ h_this h_this_crowd h_this_costs h_this_answers h_a1 h_a1_widths h_a1_cells h_a1_delays h_a1_rows h_a1_rows_rowOf h_a1_rows_placeOf g_a1_keys g_a1_rules g_a1_sights c_size c_crowd c_costs_53 c_answers c_a1_widths c_a1_cells c_a1_delays c_a1_rows_rung c_a1_rows_rowOf c_a1_rows_placeOf) H := hP
              have hD : va_D A (w_X3_countClashes cI cJ cZ h_this h_this_crowd h_this_costs h_this_answers h_a1 h_a1_widths h_a1_cells h_a1_delays h_a1_rows h_a1_rows_rowOf h_a1_rows_placeOf g_a1_keys g_a1_rules g_a1_sights c_size c_crowd c_costs_53 c_answers c_a1_widths c_a1_cells c_a1_delays c_a1_rows_rung c_a1_rows_rowOf c_a1_rows_placeOf) := hD
              refine lv_iinc (v := (l4_18 + 1)) (lv' := [(4, .int (l4_18 + 1)), (0, .ref h_this), (1, .ref h_a1), (2, .int l2), (3, .int l3_7)]) hx hb dX3_countClashes_56 hl (k := 4) rfl rfl (by decide) rfl (fun ls hl => ?_)
              refine lv_goto (tgt := 18) hx hb dX3_countClashes_59 (by decide) ?_
              exact ih_18 (l4_18 + 1) c_costs_53 H locs ls hP hD hS (lv_sub hl [1, 2, 3, 4, 0] rfl) (ho1_18 _ (Option.some.inj hf).symm)
        exact L_18 FU 0 c_costs_7 H locs ls hP hD hS (lv_sub hl [1, 2, 3, 4, 0] rfl) hq_18
  exact L_7 FU 0 c_costs s.heap [] ls hP hD hS (lv_sub hl [1, 2, 3, 0] rfl) hq_7
abbrev w_X3_firstOfFewest (cI cJ cZ : ClassId) (h_this h_this_crowd h_this_costs h_this_answers : Nat) (c_size : Int32) (c_crowd : Nat → Int32) (c_costs : Nat → Int32) (c_answers : Nat → Int32) : va_W := [(h_this, .inr (3, [.ref h_this_crowd, .ref h_this_costs, .ref h_this_answers, .int c_size])), (h_this_crowd, .inl (cI, 6, .inl c_crowd)), (h_this_costs, .inl (cI, 36, .inl c_costs)), (h_this_answers, .inl (cI, 64, .inl c_answers))]
abbrev rm_X3_firstOfFewest : Room := { frames := 2, cells := 0, slots := 0, locals := 44 }
theorem m_X3_firstOfFewest_f21 : (.fieldLink RX3 21 "WovenRows$Orders" "size" "I" : Cond) ∈ wsX3_firstOfFewest := by decide +kernel
theorem in_X3_firstOfFewest_X3 : ∀ w ∈ u_ws RX3 TX3 4, w ∈ wsX3_firstOfFewest := by decide +kernel
theorem m_X3_firstOfFewest_f18 : (.fieldLink RX3 18 "WovenRows$Orders" "answers" "[I" : Cond) ∈ wsX3_firstOfFewest := by decide +kernel
theorem m_X3_firstOfFewest_f9 : (.fieldLink RX3 9 "WovenRows$Orders" "crowd" "[I" : Cond) ∈ wsX3_firstOfFewest := by decide +kernel
theorem m_X3_firstOfFewest_iX10 : (.initialized RX10 : Cond) ∈ wsX3_firstOfFewest := by decide +kernel
theorem m_X3_firstOfFewest_st_X10_at : (.static yX10_at : Cond) ∈ wsX3_firstOfFewest := by decide +kernel
set_option maxRecDepth 100000 in
set_option maxHeartbeats 4000000 in
theorem c_X3_firstOfFewest (l : Launch) (dC : Nat → ClassId) (dI : Nat → Nat → Nat) (cI cJ cZ : ClassId) (h_this h_this_crowd h_this_costs h_this_answers : Nat) (sz : Nat) (c_size : Int32) (c_crowd : Nat → Int32) (c_costs : Nat → Int32) (c_answers : Nat → Int32) (r : Int32) (hf : f_X3_firstOfFewest c_size c_crowd c_costs c_answers = some r) : Met l yX3_firstOfFewest wsX3_firstOfFewest rm_X3_firstOfFewest (va_Pc [.ref h_this] (PRE (dC, dI) (TY cI cJ cZ) sz (w_X3_firstOfFewest cI cJ cZ h_this h_this_crowd h_this_costs h_this_answers c_size c_crowd c_costs c_answers))) (vp_Si (fun r' => r' = r)) 0 0 (fun _ => False) := by
  refine ofSi (ty := .int) (by decide +kernel) rfl (Nat.le_of_ble_eq_true rfl) ?_
  intro p e s m args below meth c Z ls S hP hD hK hN hl hret
  obtain ⟨hx, hb, hml, hown, hts⟩ := id S
  have hown : s.vm.findClass RX3 = some m.cls := hown
  have hl : lv_has ls 6 [(0, .ref h_this)] := hl
  unfold f_X3_firstOfFewest at hf
  refine lv_aload_n hx hb dX3_firstOfFewest_0 rfl (lv_at hl 0 rfl) ?_
  obtain ⟨r_1, hv_1, hf⟩ := bd1_some hf
  refine kSi (rV (C := RX3) [] [] S (c_X3_all l dC dI cI cJ cZ h_this h_this_crowd h_this_costs h_this_answers s.heap.size c_size r_1 hv_1) (cwV 0 hts gX3_firstOfFewest_X3_all rfl rfl rfl (by decide +kernel) ⟨Nat.le_of_ble_eq_true rfl, Nat.le_of_ble_eq_true rfl⟩) (va_recv hK hP (ci := 3) (q0 := 0) rfl rfl) hP hD hK hN [0] rfl (by decide +kernel) rfl hl.1 rfl (Nat.le_of_ble_eq_true rfl) dX3_firstOfFewest_1 ⟨Nat.le_of_ble_eq_true rfl, Nat.le_of_ble_eq_true rfl⟩) ?_
  refine lv_istore_n (lv' := [(1, .int r_1), (0, .ref h_this)]) hx hb dX3_firstOfFewest_4 rfl hl (by decide) rfl (fun ls hl => ?_)
  refine lv_iconst (v := 0) hx hb dX3_firstOfFewest_5 (by decide) ?_
  refine lv_istore_n (lv' := [(2, .int 0), (1, .int r_1), (0, .ref h_this)]) hx hb dX3_firstOfFewest_6 rfl hl (by decide) rfl (fun ls hl => ?_)
  refine lv_iconst (v := 0) hx hb dX3_firstOfFewest_7 (by decide) ?_
  refine lv_istore_n (lv' := [(3, .int 0), (2, .int 0), (1, .int r_1), (0, .ref h_this)]) hx hb dX3_firstOfFewest_8 rfl hl (by decide) rfl (fun ls hl => ?_)
  obtain ⟨l1_9x, l2_9x, l3_9x, hq_9, hf⟩ := bd3_some hf
  have K_9 : ∀ (ls : Array Slot), lv_has ls 6 [(2, .int l2_9x)] → W p l e rm_X3_firstOfFewest s m args below meth c s.heap [] 0 0 Z (F0 m 98 ls []) := by
    intro ls hl
    refine lv_iload_n hx hb dX3_firstOfFewest_98 rfl (lv_at hl 0 rfl) ?_
    have e_f := Option.some.inj hf
    cases e_f
    exact hret rfl dX3_firstOfFewest_99
  have L_9 : ∀ (n : Nat) (l1_9 : Int32) (l2_9 : Int32) (l3_9 : Int32) (ls : Array Slot), lv_has ls 6 [(0, .ref h_this), (1, .int l1_9), (2, .int l2_9), (3, .int l3_9)] → loopN (fun (q : Int32 × Int32 × Int32) => f_X3_firstOfFewest_b9 c_size c_crowd c_costs c_answers q.1 q.2.1 q.2.2) n (l1_9, l2_9, l3_9) = some (l1_9x, l2_9x, l3_9x) → W p l e rm_X3_firstOfFewest s m args below meth c s.heap [] 0 0 Z (F0 m 9 ls []) := by
    intro n
    induction n with
    | zero => intro l1_9 l2_9 l3_9 ls hl hq; exact (loopN_zero hq).elim
    | succ n ih_9 =>
      intro l1_9 l2_9 l3_9 ls hl hq
      obtain ⟨o_9, hf, ho1_9, ho2_9⟩ := loopN_step hq
      have hf : f_X3_firstOfFewest_b9 c_size c_crowd c_costs c_answers l1_9 l2_9 l3_9 = some o_9 := hf
      unfold f_X3_firstOfFewest_b9 at hf
      refine lv_iload_n hx hb dX3_firstOfFewest_9 rfl (lv_at hl 3 rfl) ?_
      refine lv_aload_n hx hb dX3_firstOfFewest_10 rfl (lv_at hl 0 rfl) ?_
      refine va_get (D := (dC, dI)) (ci := 3) (v := .int c_size) (C := RX3) (T := TX3) (N := 4) hx hb hts in_X3_firstOfFewest_X3 hown hK hP 0 rfl rfl 3 (by decide) (hts _ m_X3_firstOfFewest_f21) (fun _ h9 => h9) rfl dX3_firstOfFewest_11 ?_
      refine lv_icmp_ge (tgt := 98) hx hb dX3_firstOfFewest_14 (by decide) (fun k_14 => ?_) (fun k_14 => ?_)
      · have hf := ite_t hf k_14
        have e_9 := ho2_9 _ (Option.some.inj hf).symm
        cases e_9
        exact K_9 ls (lv_sub hl [2] rfl)
      · have hf := ite_f hf k_14
        refine lv_iconst (v := 0) hx hb dX3_firstOfFewest_17 (by decide) ?_
        refine lv_istore (lv' := [(4, .int 0), (0, .ref h_this), (1, .int l1_9), (2, .int l2_9), (3, .int l3_9)]) hx hb dX3_firstOfFewest_18 hl (by decide) rfl (fun ls hl => ?_)
        refine lv_aload_n hx hb dX3_firstOfFewest_20 rfl (lv_at hl 1 rfl) ?_
        refine va_get (D := (dC, dI)) (ci := 3) (v := .int c_size) (C := RX3) (T := TX3) (N := 4) hx hb hts in_X3_firstOfFewest_X3 hown hK hP 0 rfl rfl 3 (by decide) (hts _ m_X3_firstOfFewest_f21) (fun _ h9 => h9) rfl dX3_firstOfFewest_21 ?_
        refine lv_iconst (v := 1) hx hb dX3_firstOfFewest_24 (by decide) ?_
        refine lv_isub hx hb dX3_firstOfFewest_25 ?_
        refine lv_istore (lv' := [(5, .int (c_size - 1)), (4, .int 0), (0, .ref h_this), (1, .int l1_9), (2, .int l2_9), (3, .int l3_9)]) hx hb dX3_firstOfFewest_26 hl (by decide) rfl (fun ls hl => ?_)
        obtain ⟨l4_28x, l5_28x, hq_28, hf⟩ := bd2_some hf
        have K_28 : ∀ (ls : Array Slot), lv_has ls 6 [(0, .ref h_this), (1, .int l1_9), (2, .int l2_9), (3, .int l3_9), (4, .int l4_28x)] → W p l e rm_X3_firstOfFewest s m args below meth c s.heap [] 0 0 Z (F0 m 70 ls []) := by
          intro ls hl
          refine lv_bipush (v := 10) hx hb dX3_firstOfFewest_70 (by decide) ?_
          refine lv_iload_n hx hb dX3_firstOfFewest_72 rfl (lv_at hl 2 rfl) ?_
          refine lv_imul hx hb dX3_firstOfFewest_73 ?_
          refine lv_aload_n hx hb dX3_firstOfFewest_74 rfl (lv_at hl 0 rfl) ?_
          refine va_get (D := (dC, dI)) (ci := 3) (v := .ref h_this_crowd) (C := RX3) (T := TX3) (N := 4) hx hb hts in_X3_firstOfFewest_X3 hown hK hP 0 rfl rfl 0 (by decide) (hts _ m_X3_firstOfFewest_f9) (fun _ h9 => h9) rfl dX3_firstOfFewest_75 ?_
          refine lv_iload hx hb dX3_firstOfFewest_78 (lv_at hl 4 rfl) ?_
          obtain ⟨r_80, hv_80, hf⟩ := bd1_some hf
          refine kSi (rSN (host := "WovenRows") [.ref h_this_crowd, .int l4_28x] [.int (10 * l2_9)] S (c_X10_at l dC dI cI cJ cZ h_this_crowd s.heap.size 6 c_crowd l4_28x r_80 hv_80) ⟨va_cnB 2 hts gX3_firstOfFewest_X10_at_n30 rfl rfl rfl (hN.m 19 rfl) (hts _ m_X3_firstOfFewest_iX10) (by decide +kernel) ⟨Nat.le_of_ble_eq_true rfl, Nat.le_of_ble_eq_true rfl⟩, hts _ m_X3_firstOfFewest_st_X10_at, trivial⟩ hP hD hK hN [1] rfl (by decide +kernel) rfl hl.1 rfl (Nat.le_of_ble_eq_true rfl) dX3_firstOfFewest_80 ⟨Nat.le_of_ble_eq_true rfl, Nat.le_of_ble_eq_true rfl⟩) ?_
          refine lv_iadd hx hb dX3_firstOfFewest_83 ?_
          refine lv_istore_n (lv' := [(2, .int ((10 * l2_9) + r_80)), (0, .ref h_this), (1, .int l1_9), (3, .int l3_9), (4, .int l4_28x)]) hx hb dX3_firstOfFewest_84 rfl hl (by decide) rfl (fun ls hl => ?_)
          refine lv_iload_n hx hb dX3_firstOfFewest_85 rfl (lv_at hl 2 rfl) ?_
          refine lv_iload hx hb dX3_firstOfFewest_86 (lv_at hl 4 rfl) ?_
          obtain ⟨r_88, hv_88, hf⟩ := bd1_some hf
          refine kSi (rS [.int l1_9, .int l4_28x] [] S (c_X3_without l dC dI cI cJ cZ s.heap.size l1_9 l4_28x r_88 hv_88) (va_cwS 2 hts gX3_firstOfFewest_X3_without rfl rfl rfl (by decide +kernel) ⟨Nat.le_of_ble_eq_true rfl, Nat.le_of_ble_eq_true rfl⟩) hP hD hK hN [] rfl (by decide +kernel) rfl hl.1 rfl (Nat.le_of_ble_eq_true rfl) dX3_firstOfFewest_88 ⟨Nat.le_of_ble_eq_true rfl, Nat.le_of_ble_eq_true rfl⟩) ?_
          refine lv_istore_n (lv' := [(1, .int r_88), (2, .int ((10 * l2_9) + r_80)), (0, .ref h_this), (3, .int l3_9), (4, .int l4_28x)]) hx hb dX3_firstOfFewest_91 rfl hl (by decide) rfl (fun ls hl => ?_)
          refine lv_iinc (v := (l3_9 + 1)) (lv' := [(3, .int (l3_9 + 1)), (1, .int r_88), (2, .int ((10 * l2_9) + r_80)), (0, .ref h_this), (4, .int l4_28x)]) hx hb dX3_firstOfFewest_92 hl (k := 3) rfl rfl (by decide) rfl (fun ls hl => ?_)
          refine lv_goto (tgt := 9) hx hb dX3_firstOfFewest_95 (by decide) ?_
          exact ih_9 r_88 ((10 * l2_9) + r_80) (l3_9 + 1) ls (lv_sub hl [3, 1, 2, 0] rfl) (ho1_9 _ (Option.some.inj hf).symm)
        have L_28 : ∀ (n : Nat) (l4_28 : Int32) (l5_28 : Int32) (ls : Array Slot), lv_has ls 6 [(0, .ref h_this), (1, .int l1_9), (2, .int l2_9), (3, .int l3_9), (4, .int l4_28), (5, .int l5_28)] → loopN (fun (q : Int32 × Int32) => f_X3_firstOfFewest_b28 c_size c_costs c_answers l1_9 q.1 q.2) n (l4_28, l5_28) = some (l4_28x, l5_28x) → W p l e rm_X3_firstOfFewest s m args below meth c s.heap [] 0 0 Z (F0 m 28 ls []) := by
          intro n
          induction n with
          | zero => intro l4_28 l5_28 ls hl hq; exact (loopN_zero hq).elim
          | succ n ih_28 =>
            intro l4_28 l5_28 ls hl hq
            obtain ⟨o_28, hf, ho1_28, ho2_28⟩ := loopN_step hq
            have hf : f_X3_firstOfFewest_b28 c_size c_costs c_answers l1_9 l4_28 l5_28 = some o_28 := hf
            unfold f_X3_firstOfFewest_b28 at hf
            refine lv_iload hx hb dX3_firstOfFewest_28 (lv_at hl 5 rfl) ?_
            refine lv_if_lt (tgt := 70) hx hb dX3_firstOfFewest_30 (by decide) (fun k_30 => ?_) (fun k_30 => ?_)
            · have hf := ite_t hf k_30
              have e_28 := ho2_28 _ (Option.some.inj hf).symm
              cases e_28
              exact K_28 ls (lv_sub hl [0, 1, 2, 3, 4] rfl)
            · have hf := ite_f hf k_30
              refine lv_iload_n hx hb dX3_firstOfFewest_33 rfl (lv_at hl 1 rfl) ?_
              refine lv_iload hx hb dX3_firstOfFewest_34 (lv_at hl 5 rfl) ?_
              obtain ⟨r_36, hv_36, hf⟩ := bd1_some hf
              refine kSi (rS [.int l1_9, .int l5_28] [] S (c_X3_holds l dC dI cI cJ cZ s.heap.size l1_9 l5_28 r_36 hv_36) (va_cwS 2 hts gX3_firstOfFewest_X3_holds rfl rfl rfl (by decide +kernel) ⟨Nat.le_of_ble_eq_true rfl, Nat.le_of_ble_eq_true rfl⟩) hP hD hK hN [] rfl (by decide +kernel) rfl hl.1 rfl (Nat.le_of_ble_eq_true rfl) dX3_firstOfFewest_36 ⟨Nat.le_of_ble_eq_true rfl, Nat.le_of_ble_eq_true rfl⟩) ?_
              refine lv_if_eq (tgt := 64) hx hb dX3_firstOfFewest_39 (by decide) (fun k_39 => ?_) (fun k_39 => ?_)
              · have hf := ite_t hf k_39
                refine lv_iinc (v := (l5_28 + (-1))) (lv' := [(5, .int (l5_28 + (-1))), (0, .ref h_this), (1, .int l1_9), (2, .int l2_9), (3, .int l3_9), (4, .int l4_28)]) hx hb dX3_firstOfFewest_64 hl (k := 5) rfl rfl (by decide) rfl (fun ls hl => ?_)
                refine lv_goto (tgt := 28) hx hb dX3_firstOfFewest_67 (by decide) ?_
                exact ih_28 l4_28 (l5_28 + (-1)) ls (lv_sub hl [1, 2, 3, 4, 5, 0] rfl) (ho1_28 _ (Option.some.inj hf).symm)
              · have hf := ite_f hf k_39
                refine lv_aload_n hx hb dX3_firstOfFewest_42 rfl (lv_at hl 0 rfl) ?_
                refine lv_iload_n hx hb dX3_firstOfFewest_43 rfl (lv_at hl 1 rfl) ?_
                refine lv_iload hx hb dX3_firstOfFewest_44 (lv_at hl 5 rfl) ?_
                obtain ⟨r_46, hv_46, hf⟩ := bd1_some hf
                refine kSi (rV (C := RX3) [.int l1_9, .int l5_28] [] S (c_X3_ledBy l dC dI cI cJ cZ h_this h_this_costs h_this_answers h_this_crowd s.heap.size c_size c_costs c_answers l1_9 l5_28 r_46 hv_46) (cwV 2 hts gX3_firstOfFewest_X3_ledBy rfl rfl rfl (by decide +kernel) ⟨Nat.le_of_ble_eq_true rfl, Nat.le_of_ble_eq_true rfl⟩) (va_recv hK hP (ci := 3) (q0 := 0) rfl rfl) hP hD hK hN [0, 2, 3] rfl (by decide +kernel) rfl hl.1 rfl (Nat.le_of_ble_eq_true rfl) dX3_firstOfFewest_46 ⟨Nat.le_of_ble_eq_true rfl, Nat.le_of_ble_eq_true rfl⟩) ?_
                refine lv_aload_n hx hb dX3_firstOfFewest_49 rfl (lv_at hl 0 rfl) ?_
                refine va_get (D := (dC, dI)) (ci := 3) (v := .ref h_this_answers) (C := RX3) (T := TX3) (N := 4) hx hb hts in_X3_firstOfFewest_X3 hown hK hP 0 rfl rfl 2 (by decide) (hts _ m_X3_firstOfFewest_f18) (fun _ h9 => h9) rfl dX3_firstOfFewest_50 ?_
                refine lv_iload_n hx hb dX3_firstOfFewest_53 rfl (lv_at hl 1 rfl) ?_
                obtain ⟨r_54, hv_54, hf⟩ := bd1_some hf
                refine kSi (rSN (host := "WovenRows") [.ref h_this_answers, .int l1_9] [.int r_46] S (c_X10_at l dC dI cI cJ cZ h_this_answers s.heap.size 64 c_answers l1_9 r_54 hv_54) ⟨va_cnB 2 hts gX3_firstOfFewest_X10_at_n30 rfl rfl rfl (hN.m 19 rfl) (hts _ m_X3_firstOfFewest_iX10) (by decide +kernel) ⟨Nat.le_of_ble_eq_true rfl, Nat.le_of_ble_eq_true rfl⟩, hts _ m_X3_firstOfFewest_st_X10_at, trivial⟩ hP hD hK hN [3] rfl (by decide +kernel) rfl hl.1 rfl (Nat.le_of_ble_eq_true rfl) dX3_firstOfFewest_54 ⟨Nat.le_of_ble_eq_true rfl, Nat.le_of_ble_eq_true rfl⟩) ?_
                refine lv_icmp_ne (tgt := 64) hx hb dX3_firstOfFewest_57 (by decide) (fun k_57 => ?_) (fun k_57 => ?_)
                · have hf := ite_f hf k_57
                  refine lv_iinc (v := (l5_28 + (-1))) (lv' := [(5, .int (l5_28 + (-1))), (0, .ref h_this), (1, .int l1_9), (2, .int l2_9), (3, .int l3_9), (4, .int l4_28)]) hx hb dX3_firstOfFewest_64 hl (k := 5) rfl rfl (by decide) rfl (fun ls hl => ?_)
                  refine lv_goto (tgt := 28) hx hb dX3_firstOfFewest_67 (by decide) ?_
                  exact ih_28 l4_28 (l5_28 + (-1)) ls (lv_sub hl [1, 2, 3, 4, 5, 0] rfl) (ho1_28 _ (Option.some.inj hf).symm)
                · have hf := ite_t hf k_57
                  refine lv_iload hx hb dX3_firstOfFewest_60 (lv_at hl 5 rfl) ?_
                  refine lv_istore (lv' := [(4, .int l5_28), (0, .ref h_this), (1, .int l1_9), (2, .int l2_9), (3, .int l3_9), (5, .int l5_28)]) hx hb dX3_firstOfFewest_62 hl (by decide) rfl (fun ls hl => ?_)
                  refine lv_iinc (v := (l5_28 + (-1))) (lv' := [(5, .int (l5_28 + (-1))), (4, .int l5_28), (0, .ref h_this), (1, .int l1_9), (2, .int l2_9), (3, .int l3_9)]) hx hb dX3_firstOfFewest_64 hl (k := 5) rfl rfl (by decide) rfl (fun ls hl => ?_)
                  refine lv_goto (tgt := 28) hx hb dX3_firstOfFewest_67 (by decide) ?_
                  exact ih_28 l5_28 (l5_28 + (-1)) ls (lv_sub hl [2, 3, 4, 5, 1, 0] rfl) (ho1_28 _ (Option.some.inj hf).symm)
        exact L_28 FU 0 (c_size - 1) ls (lv_sub hl [2, 3, 4, 5, 1, 0] rfl) hq_28
  exact L_9 FU r_1 0 0 ls (lv_sub hl [3, 2, 1, 0] rfl) hq_9
abbrev w_X3_holdsMember (cI cJ cZ : ClassId) (h_this h_this_crowd g_this_costs g_this_answers : Nat) (c_size : Int32) (c_crowd : Nat → Int32) : va_W := [(h_this, .inr (3, [.ref h_this_crowd, .ref g_this_costs, .ref g_this_answers, .int c_size])), (h_this_crowd, .inl (cI, 6, .inl c_crowd))]
abbrev rm_X3_holdsMember : Room := { frames := 1, cells := 0, slots := 0, locals := 21 }
theorem m_X3_holdsMember_f21 : (.fieldLink RX3 21 "WovenRows$Orders" "size" "I" : Cond) ∈ wsX3_holdsMember := by decide +kernel
theorem in_X3_holdsMember_X3 : ∀ w ∈ u_ws RX3 TX3 4, w ∈ wsX3_holdsMember := by decide +kernel
theorem m_X3_holdsMember_f9 : (.fieldLink RX3 9 "WovenRows$Orders" "crowd" "[I" : Cond) ∈ wsX3_holdsMember := by decide +kernel
theorem m_X3_holdsMember_iX10 : (.initialized RX10 : Cond) ∈ wsX3_holdsMember := by decide +kernel
theorem m_X3_holdsMember_st_X10_at : (.static yX10_at : Cond) ∈ wsX3_holdsMember := by decide +kernel
set_option maxRecDepth 100000 in
set_option maxHeartbeats 4000000 in
theorem c_X3_holdsMember (l : Launch) (dC : Nat → ClassId) (dI : Nat → Nat → Nat) (cI cJ cZ : ClassId) (h_this h_this_crowd g_this_costs g_this_answers : Nat) (sz : Nat) (c_size : Int32) (c_crowd : Nat → Int32) (l1 : Int32) (l2 : Int32) (r : Int32) (hf : f_X3_holdsMember c_size c_crowd l1 l2 = some r) : Met l yX3_holdsMember wsX3_holdsMember rm_X3_holdsMember (va_Pc [.ref h_this, .int l1, .int l2] (PRE (dC, dI) (TY cI cJ cZ) sz (w_X3_holdsMember cI cJ cZ h_this h_this_crowd g_this_costs g_this_answers c_size c_crowd))) (vp_Si (fun r' => r' = r)) 0 0 (fun _ => False) := by
  refine ofSi (ty := .boolean) (by decide +kernel) rfl (Nat.le_of_ble_eq_true rfl) ?_
  intro p e s m args below meth c Z ls S hP hD hK hN hl hret
  obtain ⟨hx, hb, hml, hown, hts⟩ := id S
  have hown : s.vm.findClass RX3 = some m.cls := hown
  have hl : lv_has ls 4 [(0, .ref h_this), (1, .int l1), (2, .int l2)] := hl
  unfold f_X3_holdsMember at hf
  refine lv_iconst (v := 0) hx hb dX3_holdsMember_0 (by decide) ?_
  refine lv_istore_n (lv' := [(3, .int 0), (0, .ref h_this), (1, .int l1), (2, .int l2)]) hx hb dX3_holdsMember_1 rfl hl (by decide) rfl (fun ls hl => ?_)
  obtain ⟨q_2, hq_2, hqa_2, hqb_2⟩ := bdr_some hf
  have K_2 : ∀ (l3_2x : Int32), q_2 = .inl l3_2x → ∀ (ls : Array Slot), lv_has ls 4 [] → W p l e rm_X3_holdsMember s m args below meth c s.heap [] 0 0 Z (F0 m 38 ls []) := by
    intro l3_2x e_2 ls hl
    have hf := hqa_2 _ e_2
    try dsimp only at hf
    refine lv_iconst (v := 0) hx hb dX3_holdsMember_38 (by decide) ?_
    have e_f := Option.some.inj hf
    cases e_f
    exact hret rfl dX3_holdsMember_39
  have L_2 : ∀ (n : Nat) (l3_2 : Int32) (ls : Array Slot), lv_has ls 4 [(0, .ref h_this), (1, .int l1), (2, .int l2), (3, .int l3_2)] → loopN (fun (q : Int32) => f_X3_holdsMember_b2 c_size c_crowd l1 l2 q) n l3_2 = some q_2 → W p l e rm_X3_holdsMember s m args below meth c s.heap [] 0 0 Z (F0 m 2 ls []) := by
    intro n
    induction n with
    | zero => intro l3_2 ls hl hq; exact (loopN_zero hq).elim
    | succ n ih_2 =>
      intro l3_2 ls hl hq
      obtain ⟨o_2, hf, ho1_2, ho2_2⟩ := loopN_step hq
      have hf : f_X3_holdsMember_b2 c_size c_crowd l1 l2 l3_2 = some o_2 := hf
      unfold f_X3_holdsMember_b2 at hf
      refine lv_iload_n hx hb dX3_holdsMember_2 rfl (lv_at hl 3 rfl) ?_
      refine lv_aload_n hx hb dX3_holdsMember_3 rfl (lv_at hl 0 rfl) ?_
      refine va_get (D := (dC, dI)) (ci := 3) (v := .int c_size) (C := RX3) (T := TX3) (N := 4) hx hb hts in_X3_holdsMember_X3 hown hK hP 0 rfl rfl 3 (by decide) (hts _ m_X3_holdsMember_f21) (fun _ h9 => h9) rfl dX3_holdsMember_4 ?_
      refine lv_icmp_ge (tgt := 38) hx hb dX3_holdsMember_7 (by decide) (fun k_7 => ?_) (fun k_7 => ?_)
      · have hf := ite_t hf k_7
        exact K_2 l3_2 (ho2_2 _ (Option.some.inj hf).symm).symm ls (lv_sub hl [] rfl)
      · have hf := ite_f hf k_7
        refine lv_iload_n hx hb dX3_holdsMember_10 rfl (lv_at hl 1 rfl) ?_
        refine lv_iload_n hx hb dX3_holdsMember_11 rfl (lv_at hl 3 rfl) ?_
        obtain ⟨r_12, hv_12, hf⟩ := bd1_some hf
        refine kSi (rS [.int l1, .int l3_2] [] S (c_X3_holds l dC dI cI cJ cZ s.heap.size l1 l3_2 r_12 hv_12) (va_cwS 2 hts gX3_holdsMember_X3_holds rfl rfl rfl (by decide +kernel) ⟨Nat.le_of_ble_eq_true rfl, Nat.le_of_ble_eq_true rfl⟩) hP hD hK hN [] rfl (by decide +kernel) rfl hl.1 rfl (Nat.le_of_ble_eq_true rfl) dX3_holdsMember_12 ⟨Nat.le_of_ble_eq_true rfl, Nat.le_of_ble_eq_true rfl⟩) ?_
        refine lv_if_eq (tgt := 32) hx hb dX3_holdsMember_15 (by decide) (fun k_15 => ?_) (fun k_15 => ?_)
        · have hf := ite_t hf k_15
          refine lv_iinc (v := (l3_2 + 1)) (lv' := [(3, .int (l3_2 + 1)), (0, .ref h_this), (1, .int l1), (2, .int l2)]) hx hb dX3_holdsMember_32 hl (k := 3) rfl rfl (by decide) rfl (fun ls hl => ?_)
          refine lv_goto (tgt := 2) hx hb dX3_holdsMember_35 (by decide) ?_
          exact ih_2 (l3_2 + 1) ls (lv_sub hl [1, 2, 3, 0] rfl) (ho1_2 _ (Option.some.inj hf).symm)
        · have hf := ite_f hf k_15
          refine lv_aload_n hx hb dX3_holdsMember_18 rfl (lv_at hl 0 rfl) ?_
          refine va_get (D := (dC, dI)) (ci := 3) (v := .ref h_this_crowd) (C := RX3) (T := TX3) (N := 4) hx hb hts in_X3_holdsMember_X3 hown hK hP 0 rfl rfl 0 (by decide) (hts _ m_X3_holdsMember_f9) (fun _ h9 => h9) rfl dX3_holdsMember_19 ?_
          refine lv_iload_n hx hb dX3_holdsMember_22 rfl (lv_at hl 3 rfl) ?_
          obtain ⟨r_23, hv_23, hf⟩ := bd1_some hf
          refine kSi (rSN (host := "WovenRows") [.ref h_this_crowd, .int l3_2] [] S (c_X10_at l dC dI cI cJ cZ h_this_crowd s.heap.size 6 c_crowd l3_2 r_23 hv_23) ⟨va_cnB 2 hts gX3_holdsMember_X10_at_n30 rfl rfl rfl (hN.m 19 rfl) (hts _ m_X3_holdsMember_iX10) (by decide +kernel) ⟨Nat.le_of_ble_eq_true rfl, Nat.le_of_ble_eq_true rfl⟩, hts _ m_X3_holdsMember_st_X10_at, trivial⟩ hP hD hK hN [1] rfl (by decide +kernel) rfl hl.1 rfl (Nat.le_of_ble_eq_true rfl) dX3_holdsMember_23 ⟨Nat.le_of_ble_eq_true rfl, Nat.le_of_ble_eq_true rfl⟩) ?_
          refine lv_iload_n hx hb dX3_holdsMember_26 rfl (lv_at hl 2 rfl) ?_
          refine lv_icmp_ne (tgt := 32) hx hb dX3_holdsMember_27 (by decide) (fun k_27 => ?_) (fun k_27 => ?_)
          · have hf := ite_f hf k_27
            refine lv_iinc (v := (l3_2 + 1)) (lv' := [(3, .int (l3_2 + 1)), (0, .ref h_this), (1, .int l1), (2, .int l2)]) hx hb dX3_holdsMember_32 hl (k := 3) rfl rfl (by decide) rfl (fun ls hl => ?_)
            refine lv_goto (tgt := 2) hx hb dX3_holdsMember_35 (by decide) ?_
            exact ih_2 (l3_2 + 1) ls (lv_sub hl [1, 2, 3, 0] rfl) (ho1_2 _ (Option.some.inj hf).symm)
          · have hf := ite_t hf k_27
            refine lv_iconst (v := 1) hx hb dX3_holdsMember_30 (by decide) ?_
            have e_f := (hqb_2 _ (ho2_2 _ (Option.some.inj hf).symm).symm)
            cases e_f
            exact hret rfl dX3_holdsMember_31
  exact L_2 FU 0 ls (lv_sub hl [1, 2, 3, 0] rfl) hq_2
abbrev w_X3_mayLead (cI cJ cZ : ClassId) (h_this h_this_crowd h_a1 h_a1_firsts h_a1_seconds g_this_costs g_this_answers : Nat) (n_a1 : Nat) (c_size : Int32) (c_crowd : Nat → Int32) (c_a1_count : Int32) (c_a1_firsts : Nat → Int32) (c_a1_seconds : Nat → Int32) : va_W := [(h_this, .inr (3, [.ref h_this_crowd, .ref g_this_costs, .ref g_this_answers, .int c_size])), (h_this_crowd, .inl (cI, 6, .inl c_crowd)), (h_a1, .inr (5, [.ref h_a1_firsts, .ref h_a1_seconds, .int c_a1_count])), (h_a1_firsts, .inl (cI, n_a1, .inl c_a1_firsts)), (h_a1_seconds, .inl (cI, n_a1, .inl c_a1_seconds))]
abbrev rm_X3_mayLead : Room := { frames := 2, cells := 0, slots := 0, locals := 44 }
theorem in_X3_mayLead_X5 : ∀ w ∈ u_ws RX5 TX5 3, w ∈ wsX3_mayLead := by decide +kernel
theorem m_X3_mayLead_f9 : (.fieldLink RX3 9 "WovenRows$Orders" "crowd" "[I" : Cond) ∈ wsX3_mayLead := by decide +kernel
theorem in_X3_mayLead_X3 : ∀ w ∈ u_ws RX3 TX3 4, w ∈ wsX3_mayLead := by decide +kernel
theorem m_X3_mayLead_iX10 : (.initialized RX10 : Cond) ∈ wsX3_mayLead := by decide +kernel
theorem m_X3_mayLead_st_X10_at : (.static yX10_at : Cond) ∈ wsX3_mayLead := by decide +kernel
set_option maxRecDepth 100000 in
set_option maxHeartbeats 4000000 in
theorem c_X3_mayLead (l : Launch) (dC : Nat → ClassId) (dI : Nat → Nat → Nat) (cI cJ cZ : ClassId) (h_this h_this_crowd h_a1 h_a1_firsts h_a1_seconds g_this_costs g_this_answers : Nat) (sz : Nat) (n_a1 : Nat) (c_size : Int32) (c_crowd : Nat → Int32) (c_a1_count : Int32) (c_a1_firsts : Nat → Int32) (c_a1_seconds : Nat → Int32) (l2 : Int32) (l3 : Int32) (r : Int32) (hf : f_X3_mayLead n_a1 c_size c_crowd c_a1_count c_a1_firsts c_a1_seconds l2 l3 = some r) : Met l yX3_mayLead wsX3_mayLead rm_X3_mayLead (va_Pc [.ref h_this, .ref h_a1, .int l2, .int l3] (PRE (dC, dI) (TY cI cJ cZ) sz (w_X3_mayLead cI cJ cZ h_this h_this_crowd h_a1 h_a1_firsts h_a1_seconds g_this_costs g_this_answers n_a1 c_size c_crowd c_a1_count c_a1_firsts c_a1_seconds))) (vp_Si (fun r' => r' = r)) 0 0 (fun _ => False) := by
  refine ofSi (ty := .boolean) (by decide +kernel) rfl (Nat.le_of_ble_eq_true rfl) ?_
  intro p e s m args below meth c Z ls S hP hD hK hN hl hret
  obtain ⟨hx, hb, hml, hown, hts⟩ := id S
  have hown : s.vm.findClass RX3 = some m.cls := hown
  have hl : lv_has ls 5 [(0, .ref h_this), (1, .ref h_a1), (2, .int l2), (3, .int l3)] := hl
  unfold f_X3_mayLead at hf
  refine lv_aload_n hx hb dX3_mayLead_0 rfl (lv_at hl 1 rfl) ?_
  refine lv_ifnonnull (tgt := 6) hx hb dX3_mayLead_1 (by decide) ?_
  refine lv_iconst (v := 0) hx hb dX3_mayLead_6 (by decide) ?_
  refine lv_istore (lv' := [(4, .int 0), (0, .ref h_this), (1, .ref h_a1), (2, .int l2), (3, .int l3)]) hx hb dX3_mayLead_7 hl (by decide) rfl (fun ls hl => ?_)
  obtain ⟨q_9, hq_9, hqa_9, hqb_9⟩ := bdr_some hf
  have K_9 : ∀ (l4_9x : Int32), q_9 = .inl l4_9x → ∀ (ls : Array Slot), lv_has ls 5 [] → W p l e rm_X3_mayLead s m args below meth c s.heap [] 0 0 Z (F0 m 63 ls []) := by
    intro l4_9x e_9 ls hl
    have hf := hqa_9 _ e_9
    try dsimp only at hf
    refine lv_iconst (v := 1) hx hb dX3_mayLead_63 (by decide) ?_
    have e_f := Option.some.inj hf
    cases e_f
    exact hret rfl dX3_mayLead_64
  have L_9 : ∀ (n : Nat) (l4_9 : Int32) (ls : Array Slot), lv_has ls 5 [(0, .ref h_this), (1, .ref h_a1), (2, .int l2), (3, .int l3), (4, .int l4_9)] → loopN (fun (q : Int32) => f_X3_mayLead_b9 n_a1 c_size c_crowd c_a1_count c_a1_firsts c_a1_seconds l2 l3 q) n l4_9 = some q_9 → W p l e rm_X3_mayLead s m args below meth c s.heap [] 0 0 Z (F0 m 9 ls []) := by
    intro n
    induction n with
    | zero => intro l4_9 ls hl hq; exact (loopN_zero hq).elim
    | succ n ih_9 =>
      intro l4_9 ls hl hq
      obtain ⟨o_9, hf, ho1_9, ho2_9⟩ := loopN_step hq
      have hf : f_X3_mayLead_b9 n_a1 c_size c_crowd c_a1_count c_a1_firsts c_a1_seconds l2 l3 l4_9 = some o_9 := hf
      unfold f_X3_mayLead_b9 at hf
      refine lv_iload hx hb dX3_mayLead_9 (lv_at hl 4 rfl) ?_
      refine lv_aload_n hx hb dX3_mayLead_11 rfl (lv_at hl 1 rfl) ?_
      refine va_getN (D := (dC, dI)) (ci := 5) (v := .int c_a1_count) (C := RX5) (T := TX5) (N := 3) hx hb hts in_X3_mayLead_X5 hown hK hP 2 rfl rfl 2 (by decide) (hN.f 14 rfl) (fun _ h9 => h9) rfl dX3_mayLead_12 ?_
      refine lv_icmp_ge (tgt := 63) hx hb dX3_mayLead_15 (by decide) (fun k_15 => ?_) (fun k_15 => ?_)
      · have hf := ite_t hf k_15
        exact K_9 l4_9 (ho2_9 _ (Option.some.inj hf).symm).symm ls (lv_sub hl [] rfl)
      · have hf := ite_f hf k_15
        refine lv_aload_n hx hb dX3_mayLead_18 rfl (lv_at hl 1 rfl) ?_
        refine va_getN (D := (dC, dI)) (ci := 5) (v := .ref h_a1_seconds) (C := RX5) (T := TX5) (N := 3) hx hb hts in_X3_mayLead_X5 hown hK hP 2 rfl rfl 1 (by decide) (hN.f 12 rfl) (fun _ h9 => h9) rfl dX3_mayLead_19 ?_
        refine lv_iload hx hb dX3_mayLead_22 (lv_at hl 4 rfl) ?_
        obtain ⟨r_24, hv_24, hf⟩ := bd1_some hf
        refine kSi (rSN (host := "WovenRows") [.ref h_a1_seconds, .int l4_9] [] S (c_X10_at l dC dI cI cJ cZ h_a1_seconds s.heap.size n_a1 c_a1_seconds l4_9 r_24 hv_24) ⟨va_cnB 2 hts gX3_mayLead_X10_at_n30 rfl rfl rfl (hN.m 19 rfl) (hts _ m_X3_mayLead_iX10) (by decide +kernel) ⟨Nat.le_of_ble_eq_true rfl, Nat.le_of_ble_eq_true rfl⟩, hts _ m_X3_mayLead_st_X10_at, trivial⟩ hP hD hK hN [4] rfl (by decide +kernel) rfl hl.1 rfl (Nat.le_of_ble_eq_true rfl) dX3_mayLead_24 ⟨Nat.le_of_ble_eq_true rfl, Nat.le_of_ble_eq_true rfl⟩) ?_
        refine lv_aload_n hx hb dX3_mayLead_27 rfl (lv_at hl 0 rfl) ?_
        refine va_get (D := (dC, dI)) (ci := 3) (v := .ref h_this_crowd) (C := RX3) (T := TX3) (N := 4) hx hb hts in_X3_mayLead_X3 hown hK hP 0 rfl rfl 0 (by decide) (hts _ m_X3_mayLead_f9) (fun _ h9 => h9) rfl dX3_mayLead_28 ?_
        refine lv_iload_n hx hb dX3_mayLead_31 rfl (lv_at hl 3 rfl) ?_
        obtain ⟨r_32, hv_32, hf⟩ := bd1_some hf
        refine kSi (rSN (host := "WovenRows") [.ref h_this_crowd, .int l3] [.int r_24] S (c_X10_at l dC dI cI cJ cZ h_this_crowd s.heap.size 6 c_crowd l3 r_32 hv_32) ⟨va_cnB 2 hts gX3_mayLead_X10_at_n30 rfl rfl rfl (hN.m 19 rfl) (hts _ m_X3_mayLead_iX10) (by decide +kernel) ⟨Nat.le_of_ble_eq_true rfl, Nat.le_of_ble_eq_true rfl⟩, hts _ m_X3_mayLead_st_X10_at, trivial⟩ hP hD hK hN [1] rfl (by decide +kernel) rfl hl.1 rfl (Nat.le_of_ble_eq_true rfl) dX3_mayLead_32 ⟨Nat.le_of_ble_eq_true rfl, Nat.le_of_ble_eq_true rfl⟩) ?_
        refine lv_icmp_ne (tgt := 57) hx hb dX3_mayLead_35 (by decide) (fun k_35 => ?_) (fun k_35 => ?_)
        · have hf := ite_f hf k_35
          refine lv_iinc (v := (l4_9 + 1)) (lv' := [(4, .int (l4_9 + 1)), (0, .ref h_this), (1, .ref h_a1), (2, .int l2), (3, .int l3)]) hx hb dX3_mayLead_57 hl (k := 4) rfl rfl (by decide) rfl (fun ls hl => ?_)
          refine lv_goto (tgt := 9) hx hb dX3_mayLead_60 (by decide) ?_
          exact ih_9 (l4_9 + 1) ls (lv_sub hl [1, 2, 3, 4, 0] rfl) (ho1_9 _ (Option.some.inj hf).symm)
        · have hf := ite_t hf k_35
          refine lv_aload_n hx hb dX3_mayLead_38 rfl (lv_at hl 0 rfl) ?_
          refine lv_iload_n hx hb dX3_mayLead_39 rfl (lv_at hl 2 rfl) ?_
          refine lv_aload_n hx hb dX3_mayLead_40 rfl (lv_at hl 1 rfl) ?_
          refine va_getN (D := (dC, dI)) (ci := 5) (v := .ref h_a1_firsts) (C := RX5) (T := TX5) (N := 3) hx hb hts in_X3_mayLead_X5 hown hK hP 2 rfl rfl 0 (by decide) (hN.f 10 rfl) (fun _ h9 => h9) rfl dX3_mayLead_41 ?_
          refine lv_iload hx hb dX3_mayLead_44 (lv_at hl 4 rfl) ?_
          obtain ⟨r_46, hv_46, hf⟩ := bd1_some hf
          refine kSi (rSN (host := "WovenRows") [.ref h_a1_firsts, .int l4_9] [.int l2, .ref h_this] S (c_X10_at l dC dI cI cJ cZ h_a1_firsts s.heap.size n_a1 c_a1_firsts l4_9 r_46 hv_46) ⟨va_cnB 2 hts gX3_mayLead_X10_at_n30 rfl rfl rfl (hN.m 19 rfl) (hts _ m_X3_mayLead_iX10) (by decide +kernel) ⟨Nat.le_of_ble_eq_true rfl, Nat.le_of_ble_eq_true rfl⟩, hts _ m_X3_mayLead_st_X10_at, trivial⟩ hP hD hK hN [3] rfl (by decide +kernel) rfl hl.1 rfl (Nat.le_of_ble_eq_true rfl) dX3_mayLead_46 ⟨Nat.le_of_ble_eq_true rfl, Nat.le_of_ble_eq_true rfl⟩) ?_
          obtain ⟨r_49, hv_49, hf⟩ := bd1_some hf
          refine kSi (rV (C := RX3) [.int l2, .int r_46] [] S (c_X3_holdsMember l dC dI cI cJ cZ h_this h_this_crowd g_this_costs g_this_answers s.heap.size c_size c_crowd l2 r_46 r_49 hv_49) (cwV 2 hts gX3_mayLead_X3_holdsMember rfl rfl rfl (by decide +kernel) ⟨Nat.le_of_ble_eq_true rfl, Nat.le_of_ble_eq_true rfl⟩) (va_recv hK hP (ci := 3) (q0 := 0) rfl rfl) hP hD hK hN [0, 1] rfl (by decide +kernel) rfl hl.1 rfl (Nat.le_of_ble_eq_true rfl) dX3_mayLead_49 ⟨Nat.le_of_ble_eq_true rfl, Nat.le_of_ble_eq_true rfl⟩) ?_
          refine lv_if_eq (tgt := 57) hx hb dX3_mayLead_52 (by decide) (fun k_52 => ?_) (fun k_52 => ?_)
          · have hf := ite_t hf k_52
            refine lv_iinc (v := (l4_9 + 1)) (lv' := [(4, .int (l4_9 + 1)), (0, .ref h_this), (1, .ref h_a1), (2, .int l2), (3, .int l3)]) hx hb dX3_mayLead_57 hl (k := 4) rfl rfl (by decide) rfl (fun ls hl => ?_)
            refine lv_goto (tgt := 9) hx hb dX3_mayLead_60 (by decide) ?_
            exact ih_9 (l4_9 + 1) ls (lv_sub hl [1, 2, 3, 4, 0] rfl) (ho1_9 _ (Option.some.inj hf).symm)
          · have hf := ite_f hf k_52
            refine lv_iconst (v := 0) hx hb dX3_mayLead_55 (by decide) ?_
            have e_f := (hqb_9 _ (ho2_9 _ (Option.some.inj hf).symm).symm)
            cases e_f
            exact hret rfl dX3_mayLead_56
  exact L_9 FU 0 ls (lv_sub hl [1, 2, 3, 4, 0] rfl) hq_9
abbrev w_X3_countOrders (cI cJ cZ : ClassId) (h_this h_this_crowd h_this_answers h_a1 h_a1_firsts h_a1_seconds g_this_costs : Nat) (n_a1 : Nat) (c_size : Int32) (c_crowd : Nat → Int32) (c_answers : Nat → Int32) (c_a1_count : Int32) (c_a1_firsts : Nat → Int32) (c_a1_seconds : Nat → Int32) : va_W := [(h_this, .inr (3, [.ref h_this_crowd, .ref g_this_costs, .ref h_this_answers, .int c_size])), (h_this_crowd, .inl (cI, 6, .inl c_crowd)), (h_this_answers, .inl (cI, 64, .inl c_answers)), (h_a1, .inr (5, [.ref h_a1_firsts, .ref h_a1_seconds, .int c_a1_count])), (h_a1_firsts, .inl (cI, n_a1, .inl c_a1_firsts)), (h_a1_seconds, .inl (cI, n_a1, .inl c_a1_seconds))]
abbrev rm_X3_countOrders : Room := { frames := 3, cells := 0, slots := 0, locals := 68 }
theorem m_X3_countOrders_f18 : (.fieldLink RX3 18 "WovenRows$Orders" "answers" "[I" : Cond) ∈ wsX3_countOrders := by decide +kernel
theorem in_X3_countOrders_X3 : ∀ w ∈ u_ws RX3 TX3 4, w ∈ wsX3_countOrders := by decide +kernel
theorem m_X3_countOrders_f21 : (.fieldLink RX3 21 "WovenRows$Orders" "size" "I" : Cond) ∈ wsX3_countOrders := by decide +kernel
theorem m_X3_countOrders_iX10 : (.initialized RX10 : Cond) ∈ wsX3_countOrders := by decide +kernel
theorem m_X3_countOrders_st_X10_put : (.static yX10_put : Cond) ∈ wsX3_countOrders := by decide +kernel
theorem m_X3_countOrders_st_X10_at : (.static yX10_at : Cond) ∈ wsX3_countOrders := by decide +kernel
set_option maxRecDepth 100000 in
set_option maxHeartbeats 4000000 in
theorem c_X3_countOrders (l : Launch) (dC : Nat → ClassId) (dI : Nat → Nat → Nat) (cI cJ cZ : ClassId) (h_this h_this_crowd h_this_answers h_a1 h_a1_firsts h_a1_seconds g_this_costs : Nat) (sz : Nat) (n_a1 : Nat) (c_size : Int32) (c_crowd : Nat → Int32) (c_answers : Nat → Int32) (c_a1_count : Int32) (c_a1_firsts : Nat → Int32) (c_a1_seconds : Nat → Int32) (z_answers : Nat → Int32) (hf : f_X3_countOrders n_a1 c_size c_crowd c_answers c_a1_count c_a1_firsts c_a1_seconds = some z_answers) : Met l yX3_countOrders wsX3_countOrders rm_X3_countOrders (va_Pc [.ref h_this, .ref h_a1] (PRE (dC, dI) (TY cI cJ cZ) sz (w_X3_countOrders cI cJ cZ h_this h_this_crowd h_this_answers h_a1 h_a1_firsts h_a1_seconds g_this_costs n_a1 c_size c_crowd c_answers c_a1_count c_a1_firsts c_a1_seconds))) (va_Qv (fun _ : Unit => True) (POW (dC, dI) (va_A (w_X3_countOrders cI cJ cZ h_this h_this_crowd h_this_answers h_a1 h_a1_firsts h_a1_seconds g_this_costs n_a1 c_size c_crowd c_answers c_a1_count c_a1_firsts c_a1_seconds) sz) (w_X3_countOrders cI cJ cZ h_this h_this_crowd h_this_answers h_a1 h_a1_firsts h_a1_seconds g_this_costs n_a1 c_size c_crowd z_answers c_a1_count c_a1_firsts c_a1_seconds)) (va_A (w_X3_countOrders cI cJ cZ h_this h_this_crowd h_this_answers h_a1 h_a1_firsts h_a1_seconds g_this_costs n_a1 c_size c_crowd c_answers c_a1_count c_a1_firsts c_a1_seconds) sz)) 0 0 (va_A (w_X3_countOrders cI cJ cZ h_this h_this_crowd h_this_answers h_a1 h_a1_firsts h_a1_seconds g_this_costs n_a1 c_size c_crowd c_answers c_a1_count c_a1_firsts c_a1_seconds) sz) := by
  refine ofWv (by decide +kernel) rfl (Nat.le_of_ble_eq_true rfl) ?_
  intro p e s m args below meth c Z A ls S hP hD hK hN hA hl hret
  obtain ⟨hx, hb, hml, hown, hts⟩ := id S
  have hown : s.vm.findClass RX3 = some m.cls := hown
  have hS : va_S A s.heap s.heap [] := va_S.rf
  have hl : lv_has ls 6 [(0, .ref h_this), (1, .ref h_a1)] := hl
  unfold f_X3_countOrders at hf
  refine lv_aload_n hx hb dX3_countOrders_0 rfl (lv_at hl 0 rfl) ?_
  obtain ⟨r_1, hv_1, hf⟩ := bd1_some hf
  refine kSi (rV (C := RX3) [] [] S (c_X3_all l dC dI cI cJ cZ h_this h_this_crowd g_this_costs h_this_answers s.heap.size c_size r_1 hv_1) (cwV 0 hts gX3_countOrders_X3_all rfl rfl rfl (by decide +kernel) ⟨Nat.le_of_ble_eq_true rfl, Nat.le_of_ble_eq_true rfl⟩) (va_recv hK hP (ci := 3) (q0 := 0) rfl rfl) hP hD hK hN [0] rfl (by decide +kernel) rfl hl.1 rfl (Nat.le_of_ble_eq_true rfl) dX3_countOrders_1 ⟨Nat.le_of_ble_eq_true rfl, Nat.le_of_ble_eq_true rfl⟩) ?_
  refine lv_istore_n (lv' := [(2, .int r_1), (0, .ref h_this), (1, .ref h_a1)]) hx hb dX3_countOrders_4 rfl hl (by decide) rfl (fun ls hl => ?_)
  refine lv_aload_n hx hb dX3_countOrders_5 rfl (lv_at hl 1 rfl) ?_
  refine va_get (D := (dC, dI)) (ci := 3) (v := .ref h_this_answers) (C := RX3) (T := TX3) (N := 4) hx hb hts in_X3_countOrders_X3 hown hK hP 0 rfl rfl 2 (by decide) (hts _ m_X3_countOrders_f18) (fun _ h9 => h9) rfl dX3_countOrders_6 ?_
  refine lv_iconst (v := 0) hx hb dX3_countOrders_9 (by decide) ?_
  refine lv_iconst (v := 1) hx hb dX3_countOrders_10 (by decide) ?_
  obtain ⟨c_answers_11, hv_11, hf⟩ := bd1_some hf
  refine kWv (rSN (host := "WovenRows") [.ref h_this_answers, .int 0, .int 1] [] S (c_X10_put l dC dI cI cJ cZ h_this_answers s.heap.size 64 c_answers 0 1 c_answers_11 hv_11) ⟨va_cnB 3 hts gX3_countOrders_X10_put_n34 rfl rfl rfl (hN.m 20 rfl) (hts _ m_X3_countOrders_iX10) (by decide +kernel) ⟨Nat.le_of_ble_eq_true rfl, Nat.le_of_ble_eq_true rfl⟩, hts _ m_X3_countOrders_st_X10_put, trivial⟩ hP hD hK hN [2] rfl (by decide +kernel) rfl hl.1 rfl (Nat.le_of_ble_eq_true rfl) dX3_countOrders_11 ⟨Nat.le_of_ble_eq_true rfl, Nat.le_of_ble_eq_true rfl⟩) hP hD hS hA [2] rfl rfl [none, none, some 0, none, none, none] (by decide +kernel) rfl (fun H locs hP hD hS => ?_)
  have hP : va_P (dC, dI) vwCl (w_X3_countOrders cI cJ cZ h_this h_this_crowd h_this_answers h_a1 h_a1_firsts h_a1_seconds g_this_costs n_a1 c_size c_crowd c_answers_11 c_a1_count c_a1_firsts c_a1_seconds) H := hP
  have hD : va_D A (w_X3_countOrders cI cJ cZ h_this h_this_crowd h_this_answers h_a1 h_a1_firsts h_a1_seconds g_this_costs n_a1 c_size c_crowd c_answers_11 c_a1_count c_a1_firsts c_a1_seconds) := hD
  refine lv_iconst (v := 1) hx hb dX3_countOrders_14 (by decide) ?_
  refine lv_istore_n (lv' := [(3, .int 1), (2, .int r_1), (0, .ref h_this), (1, .ref h_a1)]) hx hb dX3_countOrders_15 rfl hl (by decide) rfl (fun ls hl => ?_)
  obtain ⟨l3_16x, c_answers_16x, hq_16, hf⟩ := bd2_some hf
  have K_16 : ∀ (H : Heap) (locs : List Loc) (ls : Array Slot), va_P (dC, dI) vwCl (w_X3_countOrders cI cJ cZ h_this h_this_crowd h_this_answers h_a1 h_a1_firsts h_a1_seconds g_this_costs n_a1 c_size c_crowd c_answers_16x c_a1_count c_a1_firsts c_a1_seconds) H → va_D A (w_X3_countOrders cI cJ cZ h_this h_this_crowd h_this_answers h_a1 h_a1_firsts h_a1_seconds g_this_costs n_a1 c_size c_crowd c_answers_16x c_a1_count c_a1_firsts c_a1_seconds) → va_S A s.heap H locs → lv_has ls 6 [] → W p l e rm_X3_countOrders s m args below meth c H locs 0 0 Z (F0 m 96 ls []) := by
    intro H locs ls hP hD hS hl
    have e_f := Option.some.inj hf
    cases e_f
    exact hret hP hD hS dX3_countOrders_96
  have L_16 : ∀ (n : Nat) (l3_16 : Int32) (c_answers_16 : Nat → Int32) (H : Heap) (locs : List Loc) (ls : Array Slot), va_P (dC, dI) vwCl (w_X3_countOrders cI cJ cZ h_this h_this_crowd h_this_answers h_a1 h_a1_firsts h_a1_seconds g_this_costs n_a1 c_size c_crowd c_answers_16 c_a1_count c_a1_firsts c_a1_seconds) H → va_D A (w_X3_countOrders cI cJ cZ h_this h_this_crowd h_this_answers h_a1 h_a1_firsts h_a1_seconds g_this_costs n_a1 c_size c_crowd c_answers_16 c_a1_count c_a1_firsts c_a1_seconds) → va_S A s.heap H locs → lv_has ls 6 [(0, .ref h_this), (1, .ref h_a1), (2, .int r_1), (3, .int l3_16)] → loopN (fun (q : Int32 × (Nat → Int32)) => f_X3_countOrders_b16 n_a1 c_size c_crowd c_a1_count c_a1_firsts c_a1_seconds r_1 q.1 q.2) n (l3_16, c_answers_16) = some (l3_16x, c_answers_16x) → W p l e rm_X3_countOrders s m args below meth c H locs 0 0 Z (F0 m 16 ls []) := by
    intro n
    induction n with
    | zero => intro l3_16 c_answers_16 H locs ls hP hD hS hl hq; exact (loopN_zero hq).elim
    | succ n ih_16 =>
      intro l3_16 c_answers_16 H locs ls hP hD hS hl hq
      obtain ⟨o_16, hf, ho1_16, ho2_16⟩ := loopN_step hq
      have hf : f_X3_countOrders_b16 n_a1 c_size c_crowd c_a1_count c_a1_firsts c_a1_seconds r_1 l3_16 c_answers_16 = some o_16 := hf
      unfold f_X3_countOrders_b16 at hf
      refine lv_iload_n hx hb dX3_countOrders_16 rfl (lv_at hl 3 rfl) ?_
      refine lv_iload_n hx hb dX3_countOrders_17 rfl (lv_at hl 2 rfl) ?_
      refine lv_icmp_gt (tgt := 96) hx hb dX3_countOrders_18 (by decide) (fun k_18 => ?_) (fun k_18 => ?_)
      · have hf := ite_t hf k_18
        have e_16 := ho2_16 _ (Option.some.inj hf).symm
        cases e_16
        exact K_16 H locs ls hP hD hS (lv_sub hl [] rfl)
      · have hf := ite_f hf k_18
        refine lv_iconst (v := 0) hx hb dX3_countOrders_21 (by decide) ?_
        refine lv_istore (lv' := [(4, .int 0), (0, .ref h_this), (1, .ref h_a1), (2, .int r_1), (3, .int l3_16)]) hx hb dX3_countOrders_22 hl (by decide) rfl (fun ls hl => ?_)
        refine lv_iconst (v := 0) hx hb dX3_countOrders_24 (by decide) ?_
        refine lv_istore (lv' := [(5, .int 0), (4, .int 0), (0, .ref h_this), (1, .ref h_a1), (2, .int r_1), (3, .int l3_16)]) hx hb dX3_countOrders_25 hl (by decide) rfl (fun ls hl => ?_)
        obtain ⟨l4_27x, l5_27x, hq_27, hf⟩ := bd2_some hf
        have K_27 : ∀ (ls : Array Slot), lv_has ls 6 [(0, .ref h_this), (1, .ref h_a1), (2, .int r_1), (3, .int l3_16), (4, .int l4_27x)] → W p l e rm_X3_countOrders s m args below meth c H locs 0 0 Z (F0 m 80 ls []) := by
          intro ls hl
          refine lv_aload_n hx hb dX3_countOrders_80 rfl (lv_at hl 0 rfl) ?_
          refine va_get (D := (dC, dI)) (ci := 3) (v := .ref h_this_answers) (C := RX3) (T := TX3) (N := 4) hx hb hts in_X3_countOrders_X3 hown hK hP 0 rfl rfl 2 (by decide) (hts _ m_X3_countOrders_f18) (fun _ h9 => h9) rfl dX3_countOrders_81 ?_
          refine lv_iload_n hx hb dX3_countOrders_84 rfl (lv_at hl 3 rfl) ?_
          refine lv_iload hx hb dX3_countOrders_85 (lv_at hl 4 rfl) ?_
          obtain ⟨c_answers_87, hv_87, hf⟩ := bd1_some hf
          refine kWv (rSN (host := "WovenRows") [.ref h_this_answers, .int l3_16, .int l4_27x] [] S (c_X10_put l dC dI cI cJ cZ h_this_answers H.size 64 c_answers_16 l3_16 l4_27x c_answers_87 hv_87) ⟨va_cnB 3 hts gX3_countOrders_X10_put_n34 rfl rfl rfl (hN.m 20 rfl) (hts _ m_X3_countOrders_iX10) (by decide +kernel) ⟨Nat.le_of_ble_eq_true rfl, Nat.le_of_ble_eq_true rfl⟩, hts _ m_X3_countOrders_st_X10_put, trivial⟩ hP hD hK hN [2] rfl (by decide +kernel) rfl hl.1 rfl (Nat.le_of_ble_eq_true rfl) dX3_countOrders_87 ⟨Nat.le_of_ble_eq_true rfl, Nat.le_of_ble_eq_true rfl⟩) hP hD hS hA [2] rfl rfl [none, none, some 0, none, none, none] (by decide +kernel) rfl (fun H locs hP hD hS => ?_)
          have hP : va_P (dC, dI) vwCl (w_X3_countOrders cI cJ cZ h_this h_this_crowd h_this_answers h_a1 h_a1_firsts h_a1_seconds g_this_costs n_a1 c_size c_crowd c_answers_87 c_a1_count c_a1_firsts c_a1_seconds) H := hP
          have hD : va_D A (w_X3_countOrders cI cJ cZ h_this h_this_crowd h_this_answers h_a1 h_a1_firsts h_a1_seconds g_this_costs n_a1 c_size c_crowd c_answers_87 c_a1_count c_a1_firsts c_a1_seconds) := hD
          refine lv_iinc (v := (l3_16 + 1)) (lv' := [(3, .int (l3_16 + 1)), (0, .ref h_this), (1, .ref h_a1), (2, .int r_1), (4, .int l4_27x)]) hx hb dX3_countOrders_90 hl (k := 3) rfl rfl (by decide) rfl (fun ls hl => ?_)
          refine lv_goto (tgt := 16) hx hb dX3_countOrders_93 (by decide) ?_
          exact ih_16 (l3_16 + 1) c_answers_87 H locs ls hP hD hS (lv_sub hl [1, 2, 3, 0] rfl) (ho1_16 _ (Option.some.inj hf).symm)
        have L_27 : ∀ (n : Nat) (l4_27 : Int32) (l5_27 : Int32) (ls : Array Slot), lv_has ls 6 [(0, .ref h_this), (1, .ref h_a1), (2, .int r_1), (3, .int l3_16), (4, .int l4_27), (5, .int l5_27)] → loopN (fun (q : Int32 × Int32) => f_X3_countOrders_b27 n_a1 c_size c_crowd c_a1_count c_a1_firsts c_a1_seconds l3_16 c_answers_16 q.1 q.2) n (l4_27, l5_27) = some (l4_27x, l5_27x) → W p l e rm_X3_countOrders s m args below meth c H locs 0 0 Z (F0 m 27 ls []) := by
          intro n
          induction n with
          | zero => intro l4_27 l5_27 ls hl hq; exact (loopN_zero hq).elim
          | succ n ih_27 =>
            intro l4_27 l5_27 ls hl hq
            obtain ⟨o_27, hf, ho1_27, ho2_27⟩ := loopN_step hq
            have hf : f_X3_countOrders_b27 n_a1 c_size c_crowd c_a1_count c_a1_firsts c_a1_seconds l3_16 c_answers_16 l4_27 l5_27 = some o_27 := hf
            unfold f_X3_countOrders_b27 at hf
            refine lv_iload hx hb dX3_countOrders_27 (lv_at hl 5 rfl) ?_
            refine lv_aload_n hx hb dX3_countOrders_29 rfl (lv_at hl 0 rfl) ?_
            refine va_get (D := (dC, dI)) (ci := 3) (v := .int c_size) (C := RX3) (T := TX3) (N := 4) hx hb hts in_X3_countOrders_X3 hown hK hP 0 rfl rfl 3 (by decide) (hts _ m_X3_countOrders_f21) (fun _ h9 => h9) rfl dX3_countOrders_30 ?_
            refine lv_icmp_ge (tgt := 80) hx hb dX3_countOrders_33 (by decide) (fun k_33 => ?_) (fun k_33 => ?_)
            · have hf := ite_t hf k_33
              have e_27 := ho2_27 _ (Option.some.inj hf).symm
              cases e_27
              exact K_27 ls (lv_sub hl [0, 1, 2, 3, 4] rfl)
            · have hf := ite_f hf k_33
              refine lv_iload_n hx hb dX3_countOrders_36 rfl (lv_at hl 3 rfl) ?_
              refine lv_iload hx hb dX3_countOrders_37 (lv_at hl 5 rfl) ?_
              obtain ⟨r_39, hv_39, hf⟩ := bd1_some hf
              refine kSi (rS [.int l3_16, .int l5_27] [] S (c_X3_holds l dC dI cI cJ cZ H.size l3_16 l5_27 r_39 hv_39) (va_cwS 2 hts gX3_countOrders_X3_holds rfl rfl rfl (by decide +kernel) ⟨Nat.le_of_ble_eq_true rfl, Nat.le_of_ble_eq_true rfl⟩) hP hD hK hN [] rfl (by decide +kernel) rfl hl.1 rfl (Nat.le_of_ble_eq_true rfl) dX3_countOrders_39 ⟨Nat.le_of_ble_eq_true rfl, Nat.le_of_ble_eq_true rfl⟩) ?_
              refine lv_if_eq (tgt := 74) hx hb dX3_countOrders_42 (by decide) (fun k_42 => ?_) (fun k_42 => ?_)
              · have hf := ite_t hf k_42
                refine lv_iinc (v := (l5_27 + 1)) (lv' := [(5, .int (l5_27 + 1)), (0, .ref h_this), (1, .ref h_a1), (2, .int r_1), (3, .int l3_16), (4, .int l4_27)]) hx hb dX3_countOrders_74 hl (k := 5) rfl rfl (by decide) rfl (fun ls hl => ?_)
                refine lv_goto (tgt := 27) hx hb dX3_countOrders_77 (by decide) ?_
                exact ih_27 l4_27 (l5_27 + 1) ls (lv_sub hl [1, 2, 3, 4, 5, 0] rfl) (ho1_27 _ (Option.some.inj hf).symm)
              · have hf := ite_f hf k_42
                refine lv_aload_n hx hb dX3_countOrders_45 rfl (lv_at hl 0 rfl) ?_
                refine lv_aload_n hx hb dX3_countOrders_46 rfl (lv_at hl 1 rfl) ?_
                refine lv_iload_n hx hb dX3_countOrders_47 rfl (lv_at hl 3 rfl) ?_
                refine lv_iload hx hb dX3_countOrders_48 (lv_at hl 5 rfl) ?_
                obtain ⟨r_50, hv_50, hf⟩ := bd1_some hf
                refine kSi (rV (C := RX3) [.ref h_a1, .int l3_16, .int l5_27] [] S (c_X3_mayLead l dC dI cI cJ cZ h_this h_this_crowd h_a1 h_a1_firsts h_a1_seconds g_this_costs h_this_answers H.size n_a1 c_size c_crowd c_a1_count c_a1_firsts c_a1_seconds l3_16 l5_27 r_50 hv_50) (cwV 3 hts gX3_countOrders_X3_mayLead rfl rfl rfl (by decide +kernel) ⟨Nat.le_of_ble_eq_true rfl, Nat.le_of_ble_eq_true rfl⟩) (va_recv hK hP (ci := 3) (q0 := 0) rfl rfl) hP hD hK hN [0, 1, 3, 4, 5] rfl (by decide +kernel) rfl hl.1 rfl (Nat.le_of_ble_eq_true rfl) dX3_countOrders_50 ⟨Nat.le_of_ble_eq_true rfl, Nat.le_of_ble_eq_true rfl⟩) ?_
                refine lv_if_eq (tgt := 74) hx hb dX3_countOrders_53 (by decide) (fun k_53 => ?_) (fun k_53 => ?_)
                · have hf := ite_t hf k_53
                  refine lv_iinc (v := (l5_27 + 1)) (lv' := [(5, .int (l5_27 + 1)), (0, .ref h_this), (1, .ref h_a1), (2, .int r_1), (3, .int l3_16), (4, .int l4_27)]) hx hb dX3_countOrders_74 hl (k := 5) rfl rfl (by decide) rfl (fun ls hl => ?_)
                  refine lv_goto (tgt := 27) hx hb dX3_countOrders_77 (by decide) ?_
                  exact ih_27 l4_27 (l5_27 + 1) ls (lv_sub hl [1, 2, 3, 4, 5, 0] rfl) (ho1_27 _ (Option.some.inj hf).symm)
                · have hf := ite_f hf k_53
                  refine lv_iload hx hb dX3_countOrders_56 (lv_at hl 4 rfl) ?_
                  refine lv_aload_n hx hb dX3_countOrders_58 rfl (lv_at hl 0 rfl) ?_
                  refine va_get (D := (dC, dI)) (ci := 3) (v := .ref h_this_answers) (C := RX3) (T := TX3) (N := 4) hx hb hts in_X3_countOrders_X3 hown hK hP 0 rfl rfl 2 (by decide) (hts _ m_X3_countOrders_f18) (fun _ h9 => h9) rfl dX3_countOrders_59 ?_
                  refine lv_iload_n hx hb dX3_countOrders_62 rfl (lv_at hl 3 rfl) ?_
                  refine lv_iload hx hb dX3_countOrders_63 (lv_at hl 5 rfl) ?_
                  obtain ⟨r_65, hv_65, hf⟩ := bd1_some hf
                  refine kSi (rS [.int l3_16, .int l5_27] [.ref h_this_answers, .int l4_27] S (c_X3_without l dC dI cI cJ cZ H.size l3_16 l5_27 r_65 hv_65) (va_cwS 2 hts gX3_countOrders_X3_without rfl rfl rfl (by decide +kernel) ⟨Nat.le_of_ble_eq_true rfl, Nat.le_of_ble_eq_true rfl⟩) hP hD hK hN [] rfl (by decide +kernel) rfl hl.1 rfl (Nat.le_of_ble_eq_true rfl) dX3_countOrders_65 ⟨Nat.le_of_ble_eq_true rfl, Nat.le_of_ble_eq_true rfl⟩) ?_
                  obtain ⟨r_68, hv_68, hf⟩ := bd1_some hf
                  refine kSi (rSN (host := "WovenRows") [.ref h_this_answers, .int r_65] [.int l4_27] S (c_X10_at l dC dI cI cJ cZ h_this_answers H.size 64 c_answers_16 r_65 r_68 hv_68) ⟨va_cnB 2 hts gX3_countOrders_X10_at_n30 rfl rfl rfl (hN.m 19 rfl) (hts _ m_X3_countOrders_iX10) (by decide +kernel) ⟨Nat.le_of_ble_eq_true rfl, Nat.le_of_ble_eq_true rfl⟩, hts _ m_X3_countOrders_st_X10_at, trivial⟩ hP hD hK hN [2] rfl (by decide +kernel) rfl hl.1 rfl (Nat.le_of_ble_eq_true rfl) dX3_countOrders_68 ⟨Nat.le_of_ble_eq_true rfl, Nat.le_of_ble_eq_true rfl⟩) ?_
                  refine lv_iadd hx hb dX3_countOrders_71 ?_
                  refine lv_istore (lv' := [(4, .int (l4_27 + r_68)), (0, .ref h_this), (1, .ref h_a1), (2, .int r_1), (3, .int l3_16), (5, .int l5_27)]) hx hb dX3_countOrders_72 hl (by decide) rfl (fun ls hl => ?_)
                  refine lv_iinc (v := (l5_27 + 1)) (lv' := [(5, .int (l5_27 + 1)), (4, .int (l4_27 + r_68)), (0, .ref h_this), (1, .ref h_a1), (2, .int r_1), (3, .int l3_16)]) hx hb dX3_countOrders_74 hl (k := 5) rfl rfl (by decide) rfl (fun ls hl => ?_)
                  refine lv_goto (tgt := 27) hx hb dX3_countOrders_77 (by decide) ?_
                  exact ih_27 (l4_27 + r_68) (l5_27 + 1) ls (lv_sub hl [2, 3, 4, 5, 1, 0] rfl) (ho1_27 _ (Option.some.inj hf).symm)
        exact L_27 FU 0 0 ls (lv_sub hl [2, 3, 4, 5, 1, 0] rfl) hq_27
  exact L_16 FU 1 c_answers_11 H locs ls hP hD hS (lv_sub hl [2, 3, 1, 0] rfl) hq_16
abbrev w_X3_firstByRules (cI cJ cZ : ClassId) (h_this h_this_crowd h_this_answers h_a1 h_a1_firsts h_a1_seconds g_this_costs : Nat) (n_a1 : Nat) (c_size : Int32) (c_crowd : Nat → Int32) (c_answers : Nat → Int32) (c_a1_count : Int32) (c_a1_firsts : Nat → Int32) (c_a1_seconds : Nat → Int32) : va_W := [(h_this, .inr (3, [.ref h_this_crowd, .ref g_this_costs, .ref h_this_answers, .int c_size])), (h_this_crowd, .inl (cI, 6, .inl c_crowd)), (h_this_answers, .inl (cI, 64, .inl c_answers)), (h_a1, .inr (5, [.ref h_a1_firsts, .ref h_a1_seconds, .int c_a1_count])), (h_a1_firsts, .inl (cI, n_a1, .inl c_a1_firsts)), (h_a1_seconds, .inl (cI, n_a1, .inl c_a1_seconds))]
abbrev rm_X3_firstByRules : Room := { frames := 3, cells := 0, slots := 0, locals := 68 }
theorem m_X3_firstByRules_f21 : (.fieldLink RX3 21 "WovenRows$Orders" "size" "I" : Cond) ∈ wsX3_firstByRules := by decide +kernel
theorem in_X3_firstByRules_X3 : ∀ w ∈ u_ws RX3 TX3 4, w ∈ wsX3_firstByRules := by decide +kernel
theorem m_X3_firstByRules_f9 : (.fieldLink RX3 9 "WovenRows$Orders" "crowd" "[I" : Cond) ∈ wsX3_firstByRules := by decide +kernel
theorem m_X3_firstByRules_iX10 : (.initialized RX10 : Cond) ∈ wsX3_firstByRules := by decide +kernel
theorem m_X3_firstByRules_st_X10_at : (.static yX10_at : Cond) ∈ wsX3_firstByRules := by decide +kernel
set_option maxRecDepth 100000 in
set_option maxHeartbeats 4000000 in
theorem c_X3_firstByRules (l : Launch) (dC : Nat → ClassId) (dI : Nat → Nat → Nat) (cI cJ cZ : ClassId) (h_this h_this_crowd h_this_answers h_a1 h_a1_firsts h_a1_seconds g_this_costs : Nat) (sz : Nat) (n_a1 : Nat) (c_size : Int32) (c_crowd : Nat → Int32) (c_answers : Nat → Int32) (c_a1_count : Int32) (c_a1_firsts : Nat → Int32) (c_a1_seconds : Nat → Int32) (r : Int32) (hf : f_X3_firstByRules n_a1 c_size c_crowd c_answers c_a1_count c_a1_firsts c_a1_seconds = some r) : Met l yX3_firstByRules wsX3_firstByRules rm_X3_firstByRules (va_Pc [.ref h_this, .ref h_a1] (PRE (dC, dI) (TY cI cJ cZ) sz (w_X3_firstByRules cI cJ cZ h_this h_this_crowd h_this_answers h_a1 h_a1_firsts h_a1_seconds g_this_costs n_a1 c_size c_crowd c_answers c_a1_count c_a1_firsts c_a1_seconds))) (vp_Si (fun r' => r' = r)) 0 0 (fun _ => False) := by
  refine ofSi (ty := .int) (by decide +kernel) rfl (Nat.le_of_ble_eq_true rfl) ?_
  intro p e s m args below meth c Z ls S hP hD hK hN hl hret
  obtain ⟨hx, hb, hml, hown, hts⟩ := id S
  have hown : s.vm.findClass RX3 = some m.cls := hown
  have hl : lv_has ls 7 [(0, .ref h_this), (1, .ref h_a1)] := hl
  unfold f_X3_firstByRules at hf
  refine lv_aload_n hx hb dX3_firstByRules_0 rfl (lv_at hl 0 rfl) ?_
  obtain ⟨r_1, hv_1, hf⟩ := bd1_some hf
  refine kSi (rV (C := RX3) [] [] S (c_X3_answerForAll l dC dI cI cJ cZ h_this h_this_answers h_this_crowd g_this_costs s.heap.size c_size c_answers r_1 hv_1) (cwV 0 hts gX3_firstByRules_X3_answerForAll rfl rfl rfl (by decide +kernel) ⟨Nat.le_of_ble_eq_true rfl, Nat.le_of_ble_eq_true rfl⟩) (va_recv hK hP (ci := 3) (q0 := 0) rfl rfl) hP hD hK hN [0, 2] rfl (by decide +kernel) rfl hl.1 rfl (Nat.le_of_ble_eq_true rfl) dX3_firstByRules_1 ⟨Nat.le_of_ble_eq_true rfl, Nat.le_of_ble_eq_true rfl⟩) ?_
  refine lv_if_ne (tgt := 10) hx hb dX3_firstByRules_4 (by decide) (fun k_4 => ?_) (fun k_4 => ?_)
  · have hf := ite_f hf k_4
    refine lv_aload_n hx hb dX3_firstByRules_10 rfl (lv_at hl 0 rfl) ?_
    obtain ⟨r_11, hv_11, hf⟩ := bd1_some hf
    refine kSi (rV (C := RX3) [] [] S (c_X3_all l dC dI cI cJ cZ h_this h_this_crowd g_this_costs h_this_answers s.heap.size c_size r_11 hv_11) (cwV 0 hts gX3_firstByRules_X3_all rfl rfl rfl (by decide +kernel) ⟨Nat.le_of_ble_eq_true rfl, Nat.le_of_ble_eq_true rfl⟩) (va_recv hK hP (ci := 3) (q0 := 0) rfl rfl) hP hD hK hN [0] rfl (by decide +kernel) rfl hl.1 rfl (Nat.le_of_ble_eq_true rfl) dX3_firstByRules_11 ⟨Nat.le_of_ble_eq_true rfl, Nat.le_of_ble_eq_true rfl⟩) ?_
    refine lv_istore_n (lv' := [(2, .int r_11), (0, .ref h_this), (1, .ref h_a1)]) hx hb dX3_firstByRules_14 rfl hl (by decide) rfl (fun ls hl => ?_)
    refine lv_iconst (v := 0) hx hb dX3_firstByRules_15 (by decide) ?_
    refine lv_istore_n (lv' := [(3, .int 0), (2, .int r_11), (0, .ref h_this), (1, .ref h_a1)]) hx hb dX3_firstByRules_16 rfl hl (by decide) rfl (fun ls hl => ?_)
    refine lv_iconst (v := 0) hx hb dX3_firstByRules_17 (by decide) ?_
    refine lv_istore (lv' := [(4, .int 0), (3, .int 0), (2, .int r_11), (0, .ref h_this), (1, .ref h_a1)]) hx hb dX3_firstByRules_18 hl (by decide) rfl (fun ls hl => ?_)
    obtain ⟨l2_20x, l3_20x, l4_20x, hq_20, hf⟩ := bd3_some hf
    have K_20 : ∀ (ls : Array Slot), lv_has ls 7 [(3, .int l3_20x)] → W p l e rm_X3_firstByRules s m args below meth c s.heap [] 0 0 Z (F0 m 103 ls []) := by
      intro ls hl
      refine lv_iload_n hx hb dX3_firstByRules_103 rfl (lv_at hl 0 rfl) ?_
      have e_f := Option.some.inj hf
      cases e_f
      exact hret rfl dX3_firstByRules_104
    have L_20 : ∀ (n : Nat) (l2_20 : Int32) (l3_20 : Int32) (l4_20 : Int32) (ls : Array Slot), lv_has ls 7 [(0, .ref h_this), (1, .ref h_a1), (2, .int l2_20), (3, .int l3_20), (4, .int l4_20)] → loopN (fun (q : Int32 × Int32 × Int32) => f_X3_firstByRules_b20 n_a1 c_size c_crowd c_a1_count c_a1_firsts c_a1_seconds q.1 q.2.1 q.2.2) n (l2_20, l3_20, l4_20) = some (l2_20x, l3_20x, l4_20x) → W p l e rm_X3_firstByRules s m args below meth c s.heap [] 0 0 Z (F0 m 20 ls []) := by
      intro n
      induction n with
      | zero => intro l2_20 l3_20 l4_20 ls hl hq; exact (loopN_zero hq).elim
      | succ n ih_20 =>
        intro l2_20 l3_20 l4_20 ls hl hq
        obtain ⟨o_20, hf, ho1_20, ho2_20⟩ := loopN_step hq
        have hf : f_X3_firstByRules_b20 n_a1 c_size c_crowd c_a1_count c_a1_firsts c_a1_seconds l2_20 l3_20 l4_20 = some o_20 := hf
        unfold f_X3_firstByRules_b20 at hf
        refine lv_iload hx hb dX3_firstByRules_20 (lv_at hl 4 rfl) ?_
        refine lv_aload_n hx hb dX3_firstByRules_22 rfl (lv_at hl 0 rfl) ?_
        refine va_get (D := (dC, dI)) (ci := 3) (v := .int c_size) (C := RX3) (T := TX3) (N := 4) hx hb hts in_X3_firstByRules_X3 hown hK hP 0 rfl rfl 3 (by decide) (hts _ m_X3_firstByRules_f21) (fun _ h9 => h9) rfl dX3_firstByRules_23 ?_
        refine lv_icmp_ge (tgt := 103) hx hb dX3_firstByRules_26 (by decide) (fun k_26 => ?_) (fun k_26 => ?_)
        · have hf := ite_t hf k_26
          have e_20 := ho2_20 _ (Option.some.inj hf).symm
          cases e_20
          exact K_20 ls (lv_sub hl [3] rfl)
        · have hf := ite_f hf k_26
          refine lv_iconst (v := 0) hx hb dX3_firstByRules_29 (by decide) ?_
          refine lv_istore (lv' := [(5, .int 0), (0, .ref h_this), (1, .ref h_a1), (2, .int l2_20), (3, .int l3_20), (4, .int l4_20)]) hx hb dX3_firstByRules_30 hl (by decide) rfl (fun ls hl => ?_)
          refine lv_aload_n hx hb dX3_firstByRules_32 rfl (lv_at hl 1 rfl) ?_
          refine va_get (D := (dC, dI)) (ci := 3) (v := .int c_size) (C := RX3) (T := TX3) (N := 4) hx hb hts in_X3_firstByRules_X3 hown hK hP 0 rfl rfl 3 (by decide) (hts _ m_X3_firstByRules_f21) (fun _ h9 => h9) rfl dX3_firstByRules_33 ?_
          refine lv_iconst (v := 1) hx hb dX3_firstByRules_36 (by decide) ?_
          refine lv_isub hx hb dX3_firstByRules_37 ?_
          refine lv_istore (lv' := [(6, .int (c_size - 1)), (5, .int 0), (0, .ref h_this), (1, .ref h_a1), (2, .int l2_20), (3, .int l3_20), (4, .int l4_20)]) hx hb dX3_firstByRules_38 hl (by decide) rfl (fun ls hl => ?_)
          obtain ⟨l5_40x, l6_40x, hq_40, hf⟩ := bd2_some hf
          have K_40 : ∀ (ls : Array Slot), lv_has ls 7 [(0, .ref h_this), (1, .ref h_a1), (2, .int l2_20), (3, .int l3_20), (4, .int l4_20), (5, .int l5_40x)] → W p l e rm_X3_firstByRules s m args below meth c s.heap [] 0 0 Z (F0 m 75 ls []) := by
            intro ls hl
            refine lv_bipush (v := 10) hx hb dX3_firstByRules_75 (by decide) ?_
            refine lv_iload_n hx hb dX3_firstByRules_77 rfl (lv_at hl 3 rfl) ?_
            refine lv_imul hx hb dX3_firstByRules_78 ?_
            refine lv_aload_n hx hb dX3_firstByRules_79 rfl (lv_at hl 0 rfl) ?_
            refine va_get (D := (dC, dI)) (ci := 3) (v := .ref h_this_crowd) (C := RX3) (T := TX3) (N := 4) hx hb hts in_X3_firstByRules_X3 hown hK hP 0 rfl rfl 0 (by decide) (hts _ m_X3_firstByRules_f9) (fun _ h9 => h9) rfl dX3_firstByRules_80 ?_
            refine lv_iload hx hb dX3_firstByRules_83 (lv_at hl 5 rfl) ?_
            obtain ⟨r_85, hv_85, hf⟩ := bd1_some hf
            refine kSi (rSN (host := "WovenRows") [.ref h_this_crowd, .int l5_40x] [.int (10 * l3_20)] S (c_X10_at l dC dI cI cJ cZ h_this_crowd s.heap.size 6 c_crowd l5_40x r_85 hv_85) ⟨va_cnB 2 hts gX3_firstByRules_X10_at_n30 rfl rfl rfl (hN.m 19 rfl) (hts _ m_X3_firstByRules_iX10) (by decide +kernel) ⟨Nat.le_of_ble_eq_true rfl, Nat.le_of_ble_eq_true rfl⟩, hts _ m_X3_firstByRules_st_X10_at, trivial⟩ hP hD hK hN [1] rfl (by decide +kernel) rfl hl.1 rfl (Nat.le_of_ble_eq_true rfl) dX3_firstByRules_85 ⟨Nat.le_of_ble_eq_true rfl, Nat.le_of_ble_eq_true rfl⟩) ?_
            refine lv_iadd hx hb dX3_firstByRules_88 ?_
            refine lv_istore_n (lv' := [(3, .int ((10 * l3_20) + r_85)), (0, .ref h_this), (1, .ref h_a1), (2, .int l2_20), (4, .int l4_20), (5, .int l5_40x)]) hx hb dX3_firstByRules_89 rfl hl (by decide) rfl (fun ls hl => ?_)
            refine lv_iload_n hx hb dX3_firstByRules_90 rfl (lv_at hl 3 rfl) ?_
            refine lv_iload hx hb dX3_firstByRules_91 (lv_at hl 5 rfl) ?_
            obtain ⟨r_93, hv_93, hf⟩ := bd1_some hf
            refine kSi (rS [.int l2_20, .int l5_40x] [] S (c_X3_without l dC dI cI cJ cZ s.heap.size l2_20 l5_40x r_93 hv_93) (va_cwS 2 hts gX3_firstByRules_X3_without rfl rfl rfl (by decide +kernel) ⟨Nat.le_of_ble_eq_true rfl, Nat.le_of_ble_eq_true rfl⟩) hP hD hK hN [] rfl (by decide +kernel) rfl hl.1 rfl (Nat.le_of_ble_eq_true rfl) dX3_firstByRules_93 ⟨Nat.le_of_ble_eq_true rfl, Nat.le_of_ble_eq_true rfl⟩) ?_
            refine lv_istore_n (lv' := [(2, .int r_93), (3, .int ((10 * l3_20) + r_85)), (0, .ref h_this), (1, .ref h_a1), (4, .int l4_20), (5, .int l5_40x)]) hx hb dX3_firstByRules_96 rfl hl (by decide) rfl (fun ls hl => ?_)
            refine lv_iinc (v := (l4_20 + 1)) (lv' := [(4, .int (l4_20 + 1)), (2, .int r_93), (3, .int ((10 * l3_20) + r_85)), (0, .ref h_this), (1, .ref h_a1), (5, .int l5_40x)]) hx hb dX3_firstByRules_97 hl (k := 4) rfl rfl (by decide) rfl (fun ls hl => ?_)
            refine lv_goto (tgt := 20) hx hb dX3_firstByRules_100 (by decide) ?_
            exact ih_20 r_93 ((10 * l3_20) + r_85) (l4_20 + 1) ls (lv_sub hl [3, 4, 1, 2, 0] rfl) (ho1_20 _ (Option.some.inj hf).symm)
          have L_40 : ∀ (n : Nat) (l5_40 : Int32) (l6_40 : Int32) (ls : Array Slot), lv_has ls 7 [(0, .ref h_this), (1, .ref h_a1), (2, .int l2_20), (3, .int l3_20), (4, .int l4_20), (5, .int l5_40), (6, .int l6_40)] → loopN (fun (q : Int32 × Int32) => f_X3_firstByRules_b40 n_a1 c_size c_crowd c_a1_count c_a1_firsts c_a1_seconds l2_20 q.1 q.2) n (l5_40, l6_40) = some (l5_40x, l6_40x) → W p l e rm_X3_firstByRules s m args below meth c s.heap [] 0 0 Z (F0 m 40 ls []) := by
            intro n
            induction n with
            | zero => intro l5_40 l6_40 ls hl hq; exact (loopN_zero hq).elim
            | succ n ih_40 =>
              intro l5_40 l6_40 ls hl hq
              obtain ⟨o_40, hf, ho1_40, ho2_40⟩ := loopN_step hq
              have hf : f_X3_firstByRules_b40 n_a1 c_size c_crowd c_a1_count c_a1_firsts c_a1_seconds l2_20 l5_40 l6_40 = some o_40 := hf
              unfold f_X3_firstByRules_b40 at hf
              refine lv_iload hx hb dX3_firstByRules_40 (lv_at hl 6 rfl) ?_
              refine lv_if_lt (tgt := 75) hx hb dX3_firstByRules_42 (by decide) (fun k_42 => ?_) (fun k_42 => ?_)
              · have hf := ite_t hf k_42
                have e_40 := ho2_40 _ (Option.some.inj hf).symm
                cases e_40
                exact K_40 ls (lv_sub hl [0, 1, 2, 3, 4, 5] rfl)
              · have hf := ite_f hf k_42
                refine lv_iload_n hx hb dX3_firstByRules_45 rfl (lv_at hl 2 rfl) ?_
                refine lv_iload hx hb dX3_firstByRules_46 (lv_at hl 6 rfl) ?_
                obtain ⟨r_48, hv_48, hf⟩ := bd1_some hf
                refine kSi (rS [.int l2_20, .int l6_40] [] S (c_X3_holds l dC dI cI cJ cZ s.heap.size l2_20 l6_40 r_48 hv_48) (va_cwS 2 hts gX3_firstByRules_X3_holds rfl rfl rfl (by decide +kernel) ⟨Nat.le_of_ble_eq_true rfl, Nat.le_of_ble_eq_true rfl⟩) hP hD hK hN [] rfl (by decide +kernel) rfl hl.1 rfl (Nat.le_of_ble_eq_true rfl) dX3_firstByRules_48 ⟨Nat.le_of_ble_eq_true rfl, Nat.le_of_ble_eq_true rfl⟩) ?_
                refine lv_if_eq (tgt := 69) hx hb dX3_firstByRules_51 (by decide) (fun k_51 => ?_) (fun k_51 => ?_)
                · have hf := ite_t hf k_51
                  refine lv_iinc (v := (l6_40 + (-1))) (lv' := [(6, .int (l6_40 + (-1))), (0, .ref h_this), (1, .ref h_a1), (2, .int l2_20), (3, .int l3_20), (4, .int l4_20), (5, .int l5_40)]) hx hb dX3_firstByRules_69 hl (k := 6) rfl rfl (by decide) rfl (fun ls hl => ?_)
                  refine lv_goto (tgt := 40) hx hb dX3_firstByRules_72 (by decide) ?_
                  exact ih_40 l5_40 (l6_40 + (-1)) ls (lv_sub hl [1, 2, 3, 4, 5, 6, 0] rfl) (ho1_40 _ (Option.some.inj hf).symm)
                · have hf := ite_f hf k_51
                  refine lv_aload_n hx hb dX3_firstByRules_54 rfl (lv_at hl 0 rfl) ?_
                  refine lv_aload_n hx hb dX3_firstByRules_55 rfl (lv_at hl 1 rfl) ?_
                  refine lv_iload_n hx hb dX3_firstByRules_56 rfl (lv_at hl 2 rfl) ?_
                  refine lv_iload hx hb dX3_firstByRules_57 (lv_at hl 6 rfl) ?_
                  obtain ⟨r_59, hv_59, hf⟩ := bd1_some hf
                  refine kSi (rV (C := RX3) [.ref h_a1, .int l2_20, .int l6_40] [] S (c_X3_mayLead l dC dI cI cJ cZ h_this h_this_crowd h_a1 h_a1_firsts h_a1_seconds g_this_costs h_this_answers s.heap.size n_a1 c_size c_crowd c_a1_count c_a1_firsts c_a1_seconds l2_20 l6_40 r_59 hv_59) (cwV 3 hts gX3_firstByRules_X3_mayLead rfl rfl rfl (by decide +kernel) ⟨Nat.le_of_ble_eq_true rfl, Nat.le_of_ble_eq_true rfl⟩) (va_recv hK hP (ci := 3) (q0 := 0) rfl rfl) hP hD hK hN [0, 1, 3, 4, 5] rfl (by decide +kernel) rfl hl.1 rfl (Nat.le_of_ble_eq_true rfl) dX3_firstByRules_59 ⟨Nat.le_of_ble_eq_true rfl, Nat.le_of_ble_eq_true rfl⟩) ?_
                  refine lv_if_eq (tgt := 69) hx hb dX3_firstByRules_62 (by decide) (fun k_62 => ?_) (fun k_62 => ?_)
                  · have hf := ite_t hf k_62
                    refine lv_iinc (v := (l6_40 + (-1))) (lv' := [(6, .int (l6_40 + (-1))), (0, .ref h_this), (1, .ref h_a1), (2, .int l2_20), (3, .int l3_20), (4, .int l4_20), (5, .int l5_40)]) hx hb dX3_firstByRules_69 hl (k := 6) rfl rfl (by decide) rfl (fun ls hl => ?_)
                    refine lv_goto (tgt := 40) hx hb dX3_firstByRules_72 (by decide) ?_
                    exact ih_40 l5_40 (l6_40 + (-1)) ls (lv_sub hl [1, 2, 3, 4, 5, 6, 0] rfl) (ho1_40 _ (Option.some.inj hf).symm)
                  · have hf := ite_f hf k_62
                    refine lv_iload hx hb dX3_firstByRules_65 (lv_at hl 6 rfl) ?_
                    refine lv_istore (lv' := [(5, .int l6_40), (0, .ref h_this), (1, .ref h_a1), (2, .int l2_20), (3, .int l3_20), (4, .int l4_20), (6, .int l6_40)]) hx hb dX3_firstByRules_67 hl (by decide) rfl (fun ls hl => ?_)
                    refine lv_iinc (v := (l6_40 + (-1))) (lv' := [(6, .int (l6_40 + (-1))), (5, .int l6_40), (0, .ref h_this), (1, .ref h_a1), (2, .int l2_20), (3, .int l3_20), (4, .int l4_20)]) hx hb dX3_firstByRules_69 hl (k := 6) rfl rfl (by decide) rfl (fun ls hl => ?_)
                    refine lv_goto (tgt := 40) hx hb dX3_firstByRules_72 (by decide) ?_
                    exact ih_40 l6_40 (l6_40 + (-1)) ls (lv_sub hl [2, 3, 4, 5, 6, 1, 0] rfl) (ho1_40 _ (Option.some.inj hf).symm)
          exact L_40 FU 0 (c_size - 1) ls (lv_sub hl [2, 3, 4, 5, 6, 1, 0] rfl) hq_40
    exact L_20 FU r_11 0 0 ls (lv_sub hl [3, 4, 2, 1, 0] rfl) hq_20
  · have hf := ite_t hf k_4
    refine lv_bipush (v := (-6)) hx hb dX3_firstByRules_7 (by decide) ?_
    have e_f := Option.some.inj hf
    cases e_f
    exact hret rfl dX3_firstByRules_9
abbrev w_X9_cellAt : va_W := []
abbrev rm_X9_cellAt : Room := { frames := 1, cells := 0, slots := 0, locals := 22 }
theorem m_X9_cellAt_iX10 : (.initialized RX10 : Cond) ∈ wsX9_cellAt := by decide +kernel
theorem m_X9_cellAt_st_X10_within : (.static yX10_within : Cond) ∈ wsX9_cellAt := by decide +kernel
set_option maxRecDepth 100000 in
set_option maxHeartbeats 4000000 in
theorem c_X9_cellAt (l : Launch) (dC : Nat → ClassId) (dI : Nat → Nat → Nat) (cI cJ cZ : ClassId) (sz : Nat) (l0 : Int32) (l1 : Int32) (l2 : Int32) (r : Int32) (hf : f_X9_cellAt l0 l1 l2 = some r) : Met l yX9_cellAt wsX9_cellAt rm_X9_cellAt (va_Pc [.int l0, .int l1, .int l2] (PRE (dC, dI) (TY cI cJ cZ) sz w_X9_cellAt)) (vp_Si (fun r' => r' = r)) 0 0 (fun _ => False) := by
  refine ofSi (ty := .int) (by decide +kernel) rfl (Nat.le_of_ble_eq_true rfl) ?_
  intro p e s m args below meth c Z ls S hP hD hK hN hl hret
  obtain ⟨hx, hb, hml, hown, hts⟩ := id S
  have hown : s.vm.findClass RX9 = some m.cls := hown
  have hl : lv_has ls 4 [(0, .int l0), (1, .int l1), (2, .int l2)] := hl
  unfold f_X9_cellAt at hf
  refine lv_iload_n hx hb dX9_cellAt_0 rfl (lv_at hl 2 rfl) ?_
  refine lv_iload_n hx hb dX9_cellAt_1 rfl (lv_at hl 1 rfl) ?_
  refine lv_isub hx hb dX9_cellAt_2 ?_
  refine lv_istore_n (lv' := [(3, .int (l2 - l1)), (0, .int l0), (1, .int l1), (2, .int l2)]) hx hb dX9_cellAt_3 rfl hl (by decide) rfl (fun ls hl => ?_)
  refine lv_iload_n hx hb dX9_cellAt_4 rfl (lv_at hl 0 rfl) ?_
  refine lv_iconst (v := 0) hx hb dX9_cellAt_5 (by decide) ?_
  refine lv_bipush (v := 16) hx hb dX9_cellAt_6 (by decide) ?_
  obtain ⟨r_8, hv_8, hf⟩ := bd1_some hf
  refine kSi (rSN (host := "WovenRows") [.int (l2 - l1), .int 0, .int 16] [] S (c_X10_within l dC dI cI cJ cZ s.heap.size (l2 - l1) 0 16 r_8 hv_8) ⟨va_cnB 3 hts gX9_cellAt_X10_within_n72 rfl rfl rfl (hN.m 23 rfl) (hts _ m_X9_cellAt_iX10) (by decide +kernel) ⟨Nat.le_of_ble_eq_true rfl, Nat.le_of_ble_eq_true rfl⟩, hts _ m_X9_cellAt_st_X10_within, trivial⟩ hP hD hK hN [] rfl (by decide +kernel) rfl hl.1 rfl (Nat.le_of_ble_eq_true rfl) dX9_cellAt_8 ⟨Nat.le_of_ble_eq_true rfl, Nat.le_of_ble_eq_true rfl⟩) ?_
  refine lv_if_ne (tgt := 17) hx hb dX9_cellAt_11 (by decide) (fun k_11 => ?_) (fun k_11 => ?_)
  · have hf := ite_f hf k_11
    refine lv_iload_n hx hb dX9_cellAt_17 rfl (lv_at hl 1 rfl) ?_
    refine lv_if_ne (tgt := 25) hx hb dX9_cellAt_18 (by decide) (fun k_18 => ?_) (fun k_18 => ?_)
    · have hf := ite_f hf k_18
      refine lv_bipush (v := 16) hx hb dX9_cellAt_25 (by decide) ?_
      refine lv_iload_n hx hb dX9_cellAt_27 rfl (lv_at hl 0 rfl) ?_
      refine lv_isub hx hb dX9_cellAt_28 ?_
      have e_f := Option.some.inj hf
      cases e_f
      exact hret rfl dX9_cellAt_29
    · have hf := ite_t hf k_18
      refine lv_iload_n hx hb dX9_cellAt_21 rfl (lv_at hl 0 rfl) ?_
      refine lv_goto (tgt := 29) hx hb dX9_cellAt_22 (by decide) ?_
      have e_f := Option.some.inj hf
      cases e_f
      exact hret rfl dX9_cellAt_29
  · have hf := ite_t hf k_11
    refine lv_bipush (v := 17) hx hb dX9_cellAt_14 (by decide) ?_
    have e_f := Option.some.inj hf
    cases e_f
    exact hret rfl dX9_cellAt_16
abbrev w_X9_allAreSo (cI cJ cZ : ClassId) (h_a0 h_a0_firsts h_a0_seconds : Nat) (n_a0 : Nat) (c_a0_count : Int32) (c_a0_firsts : Nat → Int32) (c_a0_seconds : Nat → Int32) : va_W := [(h_a0, .inr (5, [.ref h_a0_firsts, .ref h_a0_seconds, .int c_a0_count])), (h_a0_firsts, .inl (cI, n_a0, .inl c_a0_firsts)), (h_a0_seconds, .inl (cI, n_a0, .inl c_a0_seconds))]
abbrev rm_X9_allAreSo : Room := { frames := 2, cells := 0, slots := 0, locals := 45 }
theorem in_X9_allAreSo_X5 : ∀ w ∈ u_ws RX5 TX5 3, w ∈ wsX9_allAreSo := by decide +kernel
theorem m_X9_allAreSo_iX10 : (.initialized RX10 : Cond) ∈ wsX9_allAreSo := by decide +kernel
theorem m_X9_allAreSo_st_X10_at : (.static yX10_at : Cond) ∈ wsX9_allAreSo := by decide +kernel
set_option maxRecDepth 100000 in
set_option maxHeartbeats 4000000 in
theorem c_X9_allAreSo (l : Launch) (dC : Nat → ClassId) (dI : Nat → Nat → Nat) (cI cJ cZ : ClassId) (h_a0 h_a0_firsts h_a0_seconds : Nat) (sz : Nat) (n_a0 : Nat) (c_a0_count : Int32) (c_a0_firsts : Nat → Int32) (c_a0_seconds : Nat → Int32) (l1 : Int32) (l2 : Int32) (r : Int32) (hf : f_X9_allAreSo n_a0 c_a0_count c_a0_firsts c_a0_seconds l1 l2 = some r) : Met l yX9_allAreSo wsX9_allAreSo rm_X9_allAreSo (va_Pc [.ref h_a0, .int l1, .int l2] (PRE (dC, dI) (TY cI cJ cZ) sz (w_X9_allAreSo cI cJ cZ h_a0 h_a0_firsts h_a0_seconds n_a0 c_a0_count c_a0_firsts c_a0_seconds))) (vp_Si (fun r' => r' = r)) 0 0 (fun _ => False) := by
  refine ofSi (ty := .boolean) (by decide +kernel) rfl (Nat.le_of_ble_eq_true rfl) ?_
  intro p e s m args below meth c Z ls S hP hD hK hN hl hret
  obtain ⟨hx, hb, hml, hown, hts⟩ := id S
  have hown : s.vm.findClass RX9 = some m.cls := hown
  have hl : lv_has ls 4 [(0, .ref h_a0), (1, .int l1), (2, .int l2)] := hl
  unfold f_X9_allAreSo at hf
  refine lv_aload_n hx hb dX9_allAreSo_0 rfl (lv_at hl 0 rfl) ?_
  refine lv_ifnonnull (tgt := 6) hx hb dX9_allAreSo_1 (by decide) ?_
  refine lv_iconst (v := 0) hx hb dX9_allAreSo_6 (by decide) ?_
  refine lv_istore_n (lv' := [(3, .int 0), (0, .ref h_a0), (1, .int l1), (2, .int l2)]) hx hb dX9_allAreSo_7 rfl hl (by decide) rfl (fun ls hl => ?_)
  obtain ⟨q_8, hq_8, hqa_8, hqb_8⟩ := bdr_some hf
  have K_8 : ∀ (l3_8x : Int32), q_8 = .inl l3_8x → ∀ (ls : Array Slot), lv_has ls 4 [] → W p l e rm_X9_allAreSo s m args below meth c s.heap [] 0 0 Z (F0 m 48 ls []) := by
    intro l3_8x e_8 ls hl
    have hf := hqa_8 _ e_8
    try dsimp only at hf
    refine lv_iconst (v := 1) hx hb dX9_allAreSo_48 (by decide) ?_
    have e_f := Option.some.inj hf
    cases e_f
    exact hret rfl dX9_allAreSo_49
  have L_8 : ∀ (n : Nat) (l3_8 : Int32) (ls : Array Slot), lv_has ls 4 [(0, .ref h_a0), (1, .int l1), (2, .int l2), (3, .int l3_8)] → loopN (fun (q : Int32) => f_X9_allAreSo_b8 n_a0 c_a0_count c_a0_firsts c_a0_seconds l1 l2 q) n l3_8 = some q_8 → W p l e rm_X9_allAreSo s m args below meth c s.heap [] 0 0 Z (F0 m 8 ls []) := by
    intro n
    induction n with
    | zero => intro l3_8 ls hl hq; exact (loopN_zero hq).elim
    | succ n ih_8 =>
      intro l3_8 ls hl hq
      obtain ⟨o_8, hf, ho1_8, ho2_8⟩ := loopN_step hq
      have hf : f_X9_allAreSo_b8 n_a0 c_a0_count c_a0_firsts c_a0_seconds l1 l2 l3_8 = some o_8 := hf
      unfold f_X9_allAreSo_b8 at hf
      refine lv_iload_n hx hb dX9_allAreSo_8 rfl (lv_at hl 3 rfl) ?_
      refine lv_aload_n hx hb dX9_allAreSo_9 rfl (lv_at hl 0 rfl) ?_
      refine va_getN (D := (dC, dI)) (ci := 5) (v := .int c_a0_count) (C := RX5) (T := TX5) (N := 3) hx hb hts in_X9_allAreSo_X5 hown hK hP 0 rfl rfl 2 (by decide) (hN.f 13 rfl) (fun _ h9 => h9) rfl dX9_allAreSo_10 ?_
      refine lv_icmp_ge (tgt := 48) hx hb dX9_allAreSo_13 (by decide) (fun k_13 => ?_) (fun k_13 => ?_)
      · have hf := ite_t hf k_13
        exact K_8 l3_8 (ho2_8 _ (Option.some.inj hf).symm).symm ls (lv_sub hl [] rfl)
      · have hf := ite_f hf k_13
        refine lv_iload_n hx hb dX9_allAreSo_16 rfl (lv_at hl 1 rfl) ?_
        refine lv_iload_n hx hb dX9_allAreSo_17 rfl (lv_at hl 2 rfl) ?_
        refine lv_aload_n hx hb dX9_allAreSo_18 rfl (lv_at hl 0 rfl) ?_
        refine va_getN (D := (dC, dI)) (ci := 5) (v := .ref h_a0_seconds) (C := RX5) (T := TX5) (N := 3) hx hb hts in_X9_allAreSo_X5 hown hK hP 0 rfl rfl 1 (by decide) (hN.f 11 rfl) (fun _ h9 => h9) rfl dX9_allAreSo_19 ?_
        refine lv_iload_n hx hb dX9_allAreSo_22 rfl (lv_at hl 3 rfl) ?_
        obtain ⟨r_23, hv_23, hf⟩ := bd1_some hf
        refine kSi (rSN (host := "WovenRows") [.ref h_a0_seconds, .int l3_8] [.int l2, .int l1] S (c_X10_at l dC dI cI cJ cZ h_a0_seconds s.heap.size n_a0 c_a0_seconds l3_8 r_23 hv_23) ⟨va_cnB 2 hts gX9_allAreSo_X10_at_n40 rfl rfl rfl (hN.m 22 rfl) (hts _ m_X9_allAreSo_iX10) (by decide +kernel) ⟨Nat.le_of_ble_eq_true rfl, Nat.le_of_ble_eq_true rfl⟩, hts _ m_X9_allAreSo_st_X10_at, trivial⟩ hP hD hK hN [2] rfl (by decide +kernel) rfl hl.1 rfl (Nat.le_of_ble_eq_true rfl) dX9_allAreSo_23 ⟨Nat.le_of_ble_eq_true rfl, Nat.le_of_ble_eq_true rfl⟩) ?_
        obtain ⟨r_26, hv_26, hf⟩ := bd1_some hf
        refine kSi (rS [.int l1, .int l2, .int r_23] [] S (c_X9_cellAt l dC dI cI cJ cZ s.heap.size l1 l2 r_23 r_26 hv_26) (va_cwS 3 hts gX9_allAreSo_X9_cellAt rfl rfl rfl (by decide +kernel) ⟨Nat.le_of_ble_eq_true rfl, Nat.le_of_ble_eq_true rfl⟩) hP hD hK hN [] rfl (by decide +kernel) rfl hl.1 rfl (Nat.le_of_ble_eq_true rfl) dX9_allAreSo_26 ⟨Nat.le_of_ble_eq_true rfl, Nat.le_of_ble_eq_true rfl⟩) ?_
        refine lv_aload_n hx hb dX9_allAreSo_29 rfl (lv_at hl 0 rfl) ?_
        refine va_getN (D := (dC, dI)) (ci := 5) (v := .ref h_a0_firsts) (C := RX5) (T := TX5) (N := 3) hx hb hts in_X9_allAreSo_X5 hown hK hP 0 rfl rfl 0 (by decide) (hN.f 9 rfl) (fun _ h9 => h9) rfl dX9_allAreSo_30 ?_
        refine lv_iload_n hx hb dX9_allAreSo_33 rfl (lv_at hl 3 rfl) ?_
        obtain ⟨r_34, hv_34, hf⟩ := bd1_some hf
        refine kSi (rSN (host := "WovenRows") [.ref h_a0_firsts, .int l3_8] [.int r_26] S (c_X10_at l dC dI cI cJ cZ h_a0_firsts s.heap.size n_a0 c_a0_firsts l3_8 r_34 hv_34) ⟨va_cnB 2 hts gX9_allAreSo_X10_at_n40 rfl rfl rfl (hN.m 22 rfl) (hts _ m_X9_allAreSo_iX10) (by decide +kernel) ⟨Nat.le_of_ble_eq_true rfl, Nat.le_of_ble_eq_true rfl⟩, hts _ m_X9_allAreSo_st_X10_at, trivial⟩ hP hD hK hN [1] rfl (by decide +kernel) rfl hl.1 rfl (Nat.le_of_ble_eq_true rfl) dX9_allAreSo_34 ⟨Nat.le_of_ble_eq_true rfl, Nat.le_of_ble_eq_true rfl⟩) ?_
        refine lv_icmp_eq (tgt := 42) hx hb dX9_allAreSo_37 (by decide) (fun k_37 => ?_) (fun k_37 => ?_)
        · have hf := ite_t hf k_37
          refine lv_iinc (v := (l3_8 + 1)) (lv' := [(3, .int (l3_8 + 1)), (0, .ref h_a0), (1, .int l1), (2, .int l2)]) hx hb dX9_allAreSo_42 hl (k := 3) rfl rfl (by decide) rfl (fun ls hl => ?_)
          refine lv_goto (tgt := 8) hx hb dX9_allAreSo_45 (by decide) ?_
          exact ih_8 (l3_8 + 1) ls (lv_sub hl [1, 2, 3, 0] rfl) (ho1_8 _ (Option.some.inj hf).symm)
        · have hf := ite_f hf k_37
          refine lv_iconst (v := 0) hx hb dX9_allAreSo_40 (by decide) ?_
          have e_f := (hqb_8 _ (ho2_8 _ (Option.some.inj hf).symm).symm)
          cases e_f
          exact hret rfl dX9_allAreSo_41
  exact L_8 FU 0 ls (lv_sub hl [1, 2, 3, 0] rfl) hq_8
abbrev w_X9_fit (cI cJ cZ : ClassId) (h_this h_this_rowOf h_this_startOf h_a1 h_a1_delays h_a1_rows h_a1_rows_rowOf h_a1_rows_placeOf h_a1_sights h_a1_sights_firsts h_a1_sights_seconds g_this_tally g_a1_widths g_a1_keys g_a1_cells g_a1_rules : Nat) (c_count : Int32) (c_memberBits : Int32) (c_lateBits : Int32) (c_rowOf : Nat → Int32) (c_startOf : Nat → Int32) (c_a1_delays : Nat → Int32) (c_a1_rows_rung : Int32) (c_a1_rows_rowOf : Nat → Int32) (c_a1_rows_placeOf : Nat → Int32) (c_a1_sights_count : Int32) (c_a1_sights_firsts : Nat → Int32) (c_a1_sights_seconds : Nat → Int32) : va_W := [(h_this, .inr (9, [.ref h_this_rowOf, .ref h_this_startOf, .ref g_this_tally, .int c_count, .int c_memberBits, .int c_lateBits])), (h_this_rowOf, .inl (cI, 100, .inl c_rowOf)), (h_this_startOf, .inl (cI, 100, .inl c_startOf)), (h_a1, .inr (8, [.ref g_a1_widths, .ref g_a1_keys, .ref g_a1_cells, .ref h_a1_delays, .ref h_a1_rows, .ref g_a1_rules, .ref h_a1_sights])), (h_a1_delays, .inl (cI, 2, .inl c_a1_delays)), (h_a1_rows, .inr (7, [.ref h_a1_rows_rowOf, .ref h_a1_rows_placeOf, .int c_a1_rows_rung])), (h_a1_rows_rowOf, .inl (cI, 10, .inl c_a1_rows_rowOf)), (h_a1_rows_placeOf, .inl (cI, 10, .inl c_a1_rows_placeOf)), (h_a1_sights, .inr (5, [.ref h_a1_sights_firsts, .ref h_a1_sights_seconds, .int c_a1_sights_count])), (h_a1_sights_firsts, .inl (cI, 8, .inl c_a1_sights_firsts)), (h_a1_sights_seconds, .inl (cI, 8, .inl c_a1_sights_seconds))]
abbrev rm_X9_fit : Room := { frames := 3, cells := 0, slots := 0, locals := 68 }
theorem m_X9_fit_f21 : (.fieldLink RX9 21 "WovenRows$Watch" "count" "I" : Cond) ∈ wsX9_fit := by decide +kernel
theorem in_X9_fit_X9 : ∀ w ∈ u_ws RX9 TX9 6, w ∈ wsX9_fit := by decide +kernel
theorem m_X9_fit_f25 : (.fieldLink RX9 25 "WovenRows$Watch" "memberBits" "I" : Cond) ∈ wsX9_fit := by decide +kernel
theorem m_X9_fit_f28 : (.fieldLink RX9 28 "WovenRows$Watch" "lateBits" "I" : Cond) ∈ wsX9_fit := by decide +kernel
theorem in_X9_fit_X8 : ∀ w ∈ u_ws RX8 TX8 7, w ∈ wsX9_fit := by decide +kernel
theorem in_X9_fit_X7 : ∀ w ∈ u_ws RX7 TX7 3, w ∈ wsX9_fit := by decide +kernel
theorem m_X9_fit_f9 : (.fieldLink RX9 9 "WovenRows$Watch" "rowOf" "[I" : Cond) ∈ wsX9_fit := by decide +kernel
theorem m_X9_fit_f15 : (.fieldLink RX9 15 "WovenRows$Watch" "startOf" "[I" : Cond) ∈ wsX9_fit := by decide +kernel
theorem m_X9_fit_iX10 : (.initialized RX10 : Cond) ∈ wsX9_fit := by decide +kernel
theorem m_X9_fit_st_X10_at : (.static yX10_at : Cond) ∈ wsX9_fit := by decide +kernel
theorem m_X9_fit_st_X10_put : (.static yX10_put : Cond) ∈ wsX9_fit := by decide +kernel
set_option maxRecDepth 100000 in
set_option maxHeartbeats 4000000 in
theorem c_X9_fit (l : Launch) (dC : Nat → ClassId) (dI : Nat → Nat → Nat) (cI cJ cZ : ClassId) (h_this h_this_rowOf h_this_startOf h_a1 h_a1_delays h_a1_rows h_a1_rows_rowOf h_a1_rows_placeOf h_a1_sights h_a1_sights_firsts h_a1_sights_seconds g_this_tally g_a1_widths g_a1_keys g_a1_cells g_a1_rules : Nat) (sz : Nat) (c_count : Int32) (c_memberBits : Int32) (c_lateBits : Int32) (c_rowOf : Nat → Int32) (c_startOf : Nat → Int32) (c_a1_delays : Nat → Int32) (c_a1_rows_rung : Int32) (c_a1_rows_rowOf : Nat → Int32) (c_a1_rows_placeOf : Nat → Int32) (c_a1_sights_count : Int32) (c_a1_sights_firsts : Nat → Int32) (c_a1_sights_seconds : Nat → Int32) (z_count : Int32) (z_memberBits : Int32) (z_lateBits : Int32) (z_rowOf : Nat → Int32) (z_startOf : Nat → Int32) (hf : f_X9_fit c_rowOf c_startOf c_a1_delays c_a1_rows_rowOf c_a1_rows_placeOf c_a1_sights_count c_a1_sights_firsts c_a1_sights_seconds = some (z_count, z_memberBits, z_lateBits, z_rowOf, z_startOf)) : Met l yX9_fit wsX9_fit rm_X9_fit (va_Pc [.ref h_this, .ref h_a1] (PRE (dC, dI) (TY cI cJ cZ) sz (w_X9_fit cI cJ cZ h_this h_this_rowOf h_this_startOf h_a1 h_a1_delays h_a1_rows h_a1_rows_rowOf h_a1_rows_placeOf h_a1_sights h_a1_sights_firsts h_a1_sights_seconds g_this_tally g_a1_widths g_a1_keys g_a1_cells g_a1_rules c_count c_memberBits c_lateBits c_rowOf c_startOf c_a1_delays c_a1_rows_rung c_a1_rows_rowOf c_a1_rows_placeOf c_a1_sights_count c_a1_sights_firsts c_a1_sights_seconds))) (va_Qv (fun _ : Unit => True) (POW (dC, dI) (va_A (w_X9_fit cI cJ cZ h_this h_this_rowOf h_this_startOf h_a1 h_a1_delays h_a1_rows h_a1_rows_rowOf h_a1_rows_placeOf h_a1_sights h_a1_sights_firsts h_a1_sights_seconds g_this_tally g_a1_widths g_a1_keys g_a1_cells g_a1_rules c_count c_memberBits c_lateBits c_rowOf c_startOf c_a1_delays c_a1_rows_rung c_a1_rows_rowOf c_a1_rows_placeOf c_a1_sights_count c_a1_sights_firsts c_a1_sights_seconds) sz) (w_X9_fit cI cJ cZ h_this h_this_rowOf h_this_startOf h_a1 h_a1_delays h_a1_rows h_a1_rows_rowOf h_a1_rows_placeOf h_a1_sights h_a1_sights_firsts h_a1_sights_seconds g_this_tally g_a1_widths g_a1_keys g_a1_cells g_a1_rules z_count z_memberBits z_lateBits z_rowOf z_startOf c_a1_delays c_a1_rows_rung c_a1_rows_rowOf c_a1_rows_placeOf c_a1_sights_count c_a1_sights_firsts c_a1_sights_seconds)) (va_A (w_X9_fit cI cJ cZ h_this h_this_rowOf h_this_startOf h_a1 h_a1_delays h_a1_rows h_a1_rows_rowOf h_a1_rows_placeOf h_a1_sights h_a1_sights_firsts h_a1_sights_seconds g_this_tally g_a1_widths g_a1_keys g_a1_cells g_a1_rules c_count c_memberBits c_lateBits c_rowOf c_startOf c_a1_delays c_a1_rows_rung c_a1_rows_rowOf c_a1_rows_placeOf c_a1_sights_count c_a1_sights_firsts c_a1_sights_seconds) sz)) 0 0 (va_A (w_X9_fit cI cJ cZ h_this h_this_rowOf h_this_startOf h_a1 h_a1_delays h_a1_rows h_a1_rows_rowOf h_a1_rows_placeOf h_a1_sights h_a1_sights_firsts h_a1_sights_seconds g_this_tally g_a1_widths g_a1_keys g_a1_cells g_a1_rules c_count c_memberBits c_lateBits c_rowOf c_startOf c_a1_delays c_a1_rows_rung c_a1_rows_rowOf c_a1_rows_placeOf c_a1_sights_count c_a1_sights_firsts c_a1_sights_seconds) sz) := by
  refine ofWv (by decide +kernel) rfl (Nat.le_of_ble_eq_true rfl) ?_
  intro p e s m args below meth c Z A ls S hP hD hK hN hA hl hret
  obtain ⟨hx, hb, hml, hown, hts⟩ := id S
  have hown : s.vm.findClass RX9 = some m.cls := hown
  have hS : va_S A s.heap s.heap [] := va_S.rf
  have hl : lv_has ls 6 [(0, .ref h_this), (1, .ref h_a1)] := hl
  unfold f_X9_fit at hf
  refine lv_aload_n hx hb dX9_fit_0 rfl (lv_at hl 0 rfl) ?_
  refine lv_iconst (v := 0) hx hb dX9_fit_1 (by decide) ?_
  refine va_put (D := (dC, dI)) (ci := 9) (v := .int 0) (ty := .int) (C := RX9) (T := TX9) (N := 6) hx hb hts in_X9_fit_X9 tyX9 tyX9_ok nmX9 hown hK hP hD hS 0 rfl rfl 3 (by decide) (hts _ m_X9_fit_f21) (fun _ h9 => h9) rfl (by decide +kernel) rfl rfl (Nat.le_of_ble_eq_true rfl) dX9_fit_2 (fun H locs hP hD hS => ?_)
  have hP : va_P (dC, dI) vwCl (w_X9_fit cI cJ cZ h_this h_this_rowOf h_this_startOf h_a1 h_a1_delays h_a1_rows h_a1_rows_rowOf h_a1_rows_placeOf h_a1_sights h_a1_sights_firsts h_a1_sights_seconds g_this_tally g_a1_widths g_a1_keys g_a1_cells g_a1_rules 0 c_memberBits c_lateBits c_rowOf c_startOf c_a1_delays c_a1_rows_rung c_a1_rows_rowOf c_a1_rows_placeOf c_a1_sights_count c_a1_sights_firsts c_a1_sights_seconds) H := hP
  have hD : va_D A (w_X9_fit cI cJ cZ h_this h_this_rowOf h_this_startOf h_a1 h_a1_delays h_a1_rows h_a1_rows_rowOf h_a1_rows_placeOf h_a1_sights h_a1_sights_firsts h_a1_sights_seconds g_this_tally g_a1_widths g_a1_keys g_a1_cells g_a1_rules 0 c_memberBits c_lateBits c_rowOf c_startOf c_a1_delays c_a1_rows_rung c_a1_rows_rowOf c_a1_rows_placeOf c_a1_sights_count c_a1_sights_firsts c_a1_sights_seconds) := hD
  refine lv_aload_n hx hb dX9_fit_5 rfl (lv_at hl 0 rfl) ?_
  refine lv_iconst (v := 0) hx hb dX9_fit_6 (by decide) ?_
  refine va_put (D := (dC, dI)) (ci := 9) (v := .int 0) (ty := .int) (C := RX9) (T := TX9) (N := 6) hx hb hts in_X9_fit_X9 tyX9 tyX9_ok nmX9 hown hK hP hD hS 0 rfl rfl 4 (by decide) (hts _ m_X9_fit_f25) (fun _ h9 => h9) rfl (by decide +kernel) rfl rfl (Nat.le_of_ble_eq_true rfl) dX9_fit_7 (fun H locs hP hD hS => ?_)
  have hP : va_P (dC, dI) vwCl (w_X9_fit cI cJ cZ h_this h_this_rowOf h_this_startOf h_a1 h_a1_delays h_a1_rows h_a1_rows_rowOf h_a1_rows_placeOf h_a1_sights h_a1_sights_firsts h_a1_sights_seconds g_this_tally g_a1_widths g_a1_keys g_a1_cells g_a1_rules 0 0 c_lateBits c_rowOf c_startOf c_a1_delays c_a1_rows_rung c_a1_rows_rowOf c_a1_rows_placeOf c_a1_sights_count c_a1_sights_firsts c_a1_sights_seconds) H := hP
  have hD : va_D A (w_X9_fit cI cJ cZ h_this h_this_rowOf h_this_startOf h_a1 h_a1_delays h_a1_rows h_a1_rows_rowOf h_a1_rows_placeOf h_a1_sights h_a1_sights_firsts h_a1_sights_seconds g_this_tally g_a1_widths g_a1_keys g_a1_cells g_a1_rules 0 0 c_lateBits c_rowOf c_startOf c_a1_delays c_a1_rows_rung c_a1_rows_rowOf c_a1_rows_placeOf c_a1_sights_count c_a1_sights_firsts c_a1_sights_seconds) := hD
  refine lv_aload_n hx hb dX9_fit_10 rfl (lv_at hl 0 rfl) ?_
  refine lv_iconst (v := 0) hx hb dX9_fit_11 (by decide) ?_
  refine va_put (D := (dC, dI)) (ci := 9) (v := .int 0) (ty := .int) (C := RX9) (T := TX9) (N := 6) hx hb hts in_X9_fit_X9 tyX9 tyX9_ok nmX9 hown hK hP hD hS 0 rfl rfl 5 (by decide) (hts _ m_X9_fit_f28) (fun _ h9 => h9) rfl (by decide +kernel) rfl rfl (Nat.le_of_ble_eq_true rfl) dX9_fit_12 (fun H locs hP hD hS => ?_)
  have hP : va_P (dC, dI) vwCl (w_X9_fit cI cJ cZ h_this h_this_rowOf h_this_startOf h_a1 h_a1_delays h_a1_rows h_a1_rows_rowOf h_a1_rows_placeOf h_a1_sights h_a1_sights_firsts h_a1_sights_seconds g_this_tally g_a1_widths g_a1_keys g_a1_cells g_a1_rules 0 0 0 c_rowOf c_startOf c_a1_delays c_a1_rows_rung c_a1_rows_rowOf c_a1_rows_placeOf c_a1_sights_count c_a1_sights_firsts c_a1_sights_seconds) H := hP
  have hD : va_D A (w_X9_fit cI cJ cZ h_this h_this_rowOf h_this_startOf h_a1 h_a1_delays h_a1_rows h_a1_rows_rowOf h_a1_rows_placeOf h_a1_sights h_a1_sights_firsts h_a1_sights_seconds g_this_tally g_a1_widths g_a1_keys g_a1_cells g_a1_rules 0 0 0 c_rowOf c_startOf c_a1_delays c_a1_rows_rung c_a1_rows_rowOf c_a1_rows_placeOf c_a1_sights_count c_a1_sights_firsts c_a1_sights_seconds) := hD
  refine lv_aload_n hx hb dX9_fit_15 rfl (lv_at hl 1 rfl) ?_
  refine lv_ifnonnull (tgt := 20) hx hb dX9_fit_16 (by decide) ?_
  refine lv_iconst (v := 0) hx hb dX9_fit_20 (by decide) ?_
  refine lv_istore_n (lv' := [(2, .int 0), (0, .ref h_this), (1, .ref h_a1)]) hx hb dX9_fit_21 rfl hl (by decide) rfl (fun ls hl => ?_)
  obtain ⟨l2_22x, c_count_22x, c_memberBits_22x, c_lateBits_22x, c_rowOf_22x, c_startOf_22x, hq_22, hf⟩ := bd6_some hf
  have K_22 : ∀ (H : Heap) (locs : List Loc) (ls : Array Slot), va_P (dC, dI) vwCl (w_X9_fit cI cJ cZ h_this h_this_rowOf h_this_startOf h_a1 h_a1_delays h_a1_rows h_a1_rows_rowOf h_a1_rows_placeOf h_a1_sights h_a1_sights_firsts h_a1_sights_seconds g_this_tally g_a1_widths g_a1_keys g_a1_cells g_a1_rules c_count_22x c_memberBits_22x c_lateBits_22x c_rowOf_22x c_startOf_22x c_a1_delays c_a1_rows_rung c_a1_rows_rowOf c_a1_rows_placeOf c_a1_sights_count c_a1_sights_firsts c_a1_sights_seconds) H → va_D A (w_X9_fit cI cJ cZ h_this h_this_rowOf h_this_startOf h_a1 h_a1_delays h_a1_rows h_a1_rows_rowOf h_a1_rows_placeOf h_a1_sights h_a1_sights_firsts h_a1_sights_seconds g_this_tally g_a1_widths g_a1_keys g_a1_cells g_a1_rules c_count_22x c_memberBits_22x c_lateBits_22x c_rowOf_22x c_startOf_22x c_a1_delays c_a1_rows_rung c_a1_rows_rowOf c_a1_rows_placeOf c_a1_sights_count c_a1_sights_firsts c_a1_sights_seconds) → va_S A s.heap H locs → lv_has ls 6 [] → W p l e rm_X9_fit s m args below meth c H locs 0 0 Z (F0 m 150 ls []) := by
    intro H locs ls hP hD hS hl
    have e_f := Option.some.inj hf
    cases e_f
    exact hret hP hD hS dX9_fit_150
  have L_22 : ∀ (n : Nat) (l2_22 : Int32) (c_count_22 : Int32) (c_memberBits_22 : Int32) (c_lateBits_22 : Int32) (c_rowOf_22 : Nat → Int32) (c_startOf_22 : Nat → Int32) (H : Heap) (locs : List Loc) (ls : Array Slot), va_P (dC, dI) vwCl (w_X9_fit cI cJ cZ h_this h_this_rowOf h_this_startOf h_a1 h_a1_delays h_a1_rows h_a1_rows_rowOf h_a1_rows_placeOf h_a1_sights h_a1_sights_firsts h_a1_sights_seconds g_this_tally g_a1_widths g_a1_keys g_a1_cells g_a1_rules c_count_22 c_memberBits_22 c_lateBits_22 c_rowOf_22 c_startOf_22 c_a1_delays c_a1_rows_rung c_a1_rows_rowOf c_a1_rows_placeOf c_a1_sights_count c_a1_sights_firsts c_a1_sights_seconds) H → va_D A (w_X9_fit cI cJ cZ h_this h_this_rowOf h_this_startOf h_a1 h_a1_delays h_a1_rows h_a1_rows_rowOf h_a1_rows_placeOf h_a1_sights h_a1_sights_firsts h_a1_sights_seconds g_this_tally g_a1_widths g_a1_keys g_a1_cells g_a1_rules c_count_22 c_memberBits_22 c_lateBits_22 c_rowOf_22 c_startOf_22 c_a1_delays c_a1_rows_rung c_a1_rows_rowOf c_a1_rows_placeOf c_a1_sights_count c_a1_sights_firsts c_a1_sights_seconds) → va_S A s.heap H locs → lv_has ls 6 [(0, .ref h_this), (1, .ref h_a1), (2, .int l2_22)] → loopN (fun (q : Int32 × Int32 × Int32 × Int32 × (Nat → Int32) × (Nat → Int32)) => f_X9_fit_b22 c_a1_delays c_a1_rows_rowOf c_a1_rows_placeOf c_a1_sights_count c_a1_sights_firsts c_a1_sights_seconds q.1 q.2.1 q.2.2.1 q.2.2.2.1 q.2.2.2.2.1 q.2.2.2.2.2) n (l2_22, c_count_22, c_memberBits_22, c_lateBits_22, c_rowOf_22, c_startOf_22) = some (l2_22x, c_count_22x, c_memberBits_22x, c_lateBits_22x, c_rowOf_22x, c_startOf_22x) → W p l e rm_X9_fit s m args below meth c H locs 0 0 Z (F0 m 22 ls []) := by
    intro n
    induction n with
    | zero => intro l2_22 c_count_22 c_memberBits_22 c_lateBits_22 c_rowOf_22 c_startOf_22 H locs ls hP hD hS hl hq; exact (loopN_zero hq).elim
    | succ n ih_22 =>
      intro l2_22 c_count_22 c_memberBits_22 c_lateBits_22 c_rowOf_22 c_startOf_22 H locs ls hP hD hS hl hq
      obtain ⟨o_22, hf, ho1_22, ho2_22⟩ := loopN_step hq
      have hf : f_X9_fit_b22 c_a1_delays c_a1_rows_rowOf c_a1_rows_placeOf c_a1_sights_count c_a1_sights_firsts c_a1_sights_seconds l2_22 c_count_22 c_memberBits_22 c_lateBits_22 c_rowOf_22 c_startOf_22 = some o_22 := hf
      unfold f_X9_fit_b22 at hf
      refine lv_iload_n hx hb dX9_fit_22 rfl (lv_at hl 2 rfl) ?_
      refine lv_bipush (v := 10) hx hb dX9_fit_23 (by decide) ?_
      refine lv_icmp_ge (tgt := 150) hx hb dX9_fit_25 (by decide) (fun k_25 => ?_) (fun k_25 => ?_)
      · have hf := ite_t hf k_25
        have e_22 := ho2_22 _ (Option.some.inj hf).symm
        cases e_22
        exact K_22 H locs ls hP hD hS (lv_sub hl [] rfl)
      · have hf := ite_f hf k_25
        refine lv_aload_n hx hb dX9_fit_28 rfl (lv_at hl 1 rfl) ?_
        refine va_getN (D := (dC, dI)) (ci := 8) (v := .ref h_a1_rows) (C := RX8) (T := TX8) (N := 7) hx hb hts in_X9_fit_X8 hown hK hP 3 rfl rfl 4 (by decide) (hN.f 21 rfl) (fun _ h9 => h9) rfl dX9_fit_29 ?_
        refine va_getN (D := (dC, dI)) (ci := 7) (v := .ref h_a1_rows_rowOf) (C := RX7) (T := TX7) (N := 3) hx hb hts in_X9_fit_X7 hown hK hP 5 rfl rfl 0 (by decide) (hN.f 1 rfl) (fun _ h9 => h9) rfl dX9_fit_32 ?_
        refine lv_iload_n hx hb dX9_fit_35 rfl (lv_at hl 2 rfl) ?_
        obtain ⟨r_36, hv_36, hf⟩ := bd1_some hf
        refine kSi (rSN (host := "WovenRows") [.ref h_a1_rows_rowOf, .int l2_22] [] S (c_X10_at l dC dI cI cJ cZ h_a1_rows_rowOf H.size 10 c_a1_rows_rowOf l2_22 r_36 hv_36) ⟨va_cnB 2 hts gX9_fit_X10_at_n40 rfl rfl rfl (hN.m 22 rfl) (hts _ m_X9_fit_iX10) (by decide +kernel) ⟨Nat.le_of_ble_eq_true rfl, Nat.le_of_ble_eq_true rfl⟩, hts _ m_X9_fit_st_X10_at, trivial⟩ hP hD hK hN [6] rfl (by decide +kernel) rfl hl.1 rfl (Nat.le_of_ble_eq_true rfl) dX9_fit_36 ⟨Nat.le_of_ble_eq_true rfl, Nat.le_of_ble_eq_true rfl⟩) ?_
        refine lv_istore_n (lv' := [(3, .int r_36), (0, .ref h_this), (1, .ref h_a1), (2, .int l2_22)]) hx hb dX9_fit_39 rfl hl (by decide) rfl (fun ls hl => ?_)
        refine lv_iconst (v := 0) hx hb dX9_fit_40 (by decide) ?_
        refine lv_istore (lv' := [(4, .int 0), (3, .int r_36), (0, .ref h_this), (1, .ref h_a1), (2, .int l2_22)]) hx hb dX9_fit_41 hl (by decide) rfl (fun ls hl => ?_)
        obtain ⟨l4_43x, c_count_43x, c_memberBits_43x, c_lateBits_43x, c_rowOf_43x, c_startOf_43x, hq_43, hf⟩ := bd6_some hf
        have K_43 : ∀ (H : Heap) (locs : List Loc) (ls : Array Slot), va_P (dC, dI) vwCl (w_X9_fit cI cJ cZ h_this h_this_rowOf h_this_startOf h_a1 h_a1_delays h_a1_rows h_a1_rows_rowOf h_a1_rows_placeOf h_a1_sights h_a1_sights_firsts h_a1_sights_seconds g_this_tally g_a1_widths g_a1_keys g_a1_cells g_a1_rules c_count_43x c_memberBits_43x c_lateBits_43x c_rowOf_43x c_startOf_43x c_a1_delays c_a1_rows_rung c_a1_rows_rowOf c_a1_rows_placeOf c_a1_sights_count c_a1_sights_firsts c_a1_sights_seconds) H → va_D A (w_X9_fit cI cJ cZ h_this h_this_rowOf h_this_startOf h_a1 h_a1_delays h_a1_rows h_a1_rows_rowOf h_a1_rows_placeOf h_a1_sights h_a1_sights_firsts h_a1_sights_seconds g_this_tally g_a1_widths g_a1_keys g_a1_cells g_a1_rules c_count_43x c_memberBits_43x c_lateBits_43x c_rowOf_43x c_startOf_43x c_a1_delays c_a1_rows_rung c_a1_rows_rowOf c_a1_rows_placeOf c_a1_sights_count c_a1_sights_firsts c_a1_sights_seconds) → va_S A s.heap H locs → lv_has ls 6 [(0, .ref h_this), (1, .ref h_a1), (2, .int l2_22)] → W p l e rm_X9_fit s m args below meth c H locs 0 0 Z (F0 m 144 ls []) := by
          intro H locs ls hP hD hS hl
          refine lv_iinc (v := (l2_22 + 1)) (lv' := [(2, .int (l2_22 + 1)), (0, .ref h_this), (1, .ref h_a1)]) hx hb dX9_fit_144 hl (k := 2) rfl rfl (by decide) rfl (fun ls hl => ?_)
          refine lv_goto (tgt := 22) hx hb dX9_fit_147 (by decide) ?_
          exact ih_22 (l2_22 + 1) c_count_43x c_memberBits_43x c_lateBits_43x c_rowOf_43x c_startOf_43x H locs ls hP hD hS (lv_sub hl [1, 2, 0] rfl) (ho1_22 _ (Option.some.inj hf).symm)
        have L_43 : ∀ (n : Nat) (l4_43 : Int32) (c_count_43 : Int32) (c_memberBits_43 : Int32) (c_lateBits_43 : Int32) (c_rowOf_43 : Nat → Int32) (c_startOf_43 : Nat → Int32) (H : Heap) (locs : List Loc) (ls : Array Slot), va_P (dC, dI) vwCl (w_X9_fit cI cJ cZ h_this h_this_rowOf h_this_startOf h_a1 h_a1_delays h_a1_rows h_a1_rows_rowOf h_a1_rows_placeOf h_a1_sights h_a1_sights_firsts h_a1_sights_seconds g_this_tally g_a1_widths g_a1_keys g_a1_cells g_a1_rules c_count_43 c_memberBits_43 c_lateBits_43 c_rowOf_43 c_startOf_43 c_a1_delays c_a1_rows_rung c_a1_rows_rowOf c_a1_rows_placeOf c_a1_sights_count c_a1_sights_firsts c_a1_sights_seconds) H → va_D A (w_X9_fit cI cJ cZ h_this h_this_rowOf h_this_startOf h_a1 h_a1_delays h_a1_rows h_a1_rows_rowOf h_a1_rows_placeOf h_a1_sights h_a1_sights_firsts h_a1_sights_seconds g_this_tally g_a1_widths g_a1_keys g_a1_cells g_a1_rules c_count_43 c_memberBits_43 c_lateBits_43 c_rowOf_43 c_startOf_43 c_a1_delays c_a1_rows_rung c_a1_rows_rowOf c_a1_rows_placeOf c_a1_sights_count c_a1_sights_firsts c_a1_sights_seconds) → va_S A s.heap H locs → lv_has ls 6 [(0, .ref h_this), (1, .ref h_a1), (2, .int l2_22), (3, .int r_36), (4, .int l4_43)] → loopN (fun (q : Int32 × Int32 × Int32 × Int32 × (Nat → Int32) × (Nat → Int32)) => f_X9_fit_b43 c_a1_delays c_a1_rows_rowOf c_a1_rows_placeOf c_a1_sights_count c_a1_sights_firsts c_a1_sights_seconds l2_22 r_36 q.1 q.2.1 q.2.2.1 q.2.2.2.1 q.2.2.2.2.1 q.2.2.2.2.2) n (l4_43, c_count_43, c_memberBits_43, c_lateBits_43, c_rowOf_43, c_startOf_43) = some (l4_43x, c_count_43x, c_memberBits_43x, c_lateBits_43x, c_rowOf_43x, c_startOf_43x) → W p l e rm_X9_fit s m args below meth c H locs 0 0 Z (F0 m 43 ls []) := by
          intro n
          induction n with
          | zero => intro l4_43 c_count_43 c_memberBits_43 c_lateBits_43 c_rowOf_43 c_startOf_43 H locs ls hP hD hS hl hq; exact (loopN_zero hq).elim
          | succ n ih_43 =>
            intro l4_43 c_count_43 c_memberBits_43 c_lateBits_43 c_rowOf_43 c_startOf_43 H locs ls hP hD hS hl hq
            obtain ⟨o_43, hf, ho1_43, ho2_43⟩ := loopN_step hq
            have hf : f_X9_fit_b43 c_a1_delays c_a1_rows_rowOf c_a1_rows_placeOf c_a1_sights_count c_a1_sights_firsts c_a1_sights_seconds l2_22 r_36 l4_43 c_count_43 c_memberBits_43 c_lateBits_43 c_rowOf_43 c_startOf_43 = some o_43 := hf
            unfold f_X9_fit_b43 at hf
            refine lv_iload_n hx hb dX9_fit_43 rfl (lv_at hl 3 rfl) ?_
            refine lv_iconst (v := 2) hx hb dX9_fit_44 (by decide) ?_
            refine lv_icmp_eq (tgt := 144) hx hb dX9_fit_45 (by decide) (fun k_45 => ?_) (fun k_45 => ?_)
            · have hf := ite_t hf k_45
              have e_43 := ho2_43 _ (Option.some.inj hf).symm
              cases e_43
              exact K_43 H locs ls hP hD hS (lv_sub hl [0, 1, 2] rfl)
            · have hf := ite_f hf k_45
              refine lv_iload hx hb dX9_fit_48 (lv_at hl 4 rfl) ?_
              refine lv_bipush (v := 10) hx hb dX9_fit_50 (by decide) ?_
              refine lv_icmp_ge (tgt := 144) hx hb dX9_fit_52 (by decide) (fun k_52 => ?_) (fun k_52 => ?_)
              · have hf := ite_t hf k_52
                have e_43 := ho2_43 _ (Option.some.inj hf).symm
                cases e_43
                exact K_43 H locs ls hP hD hS (lv_sub hl [0, 1, 2] rfl)
              · have hf := ite_f hf k_52
                refine lv_aload_n hx hb dX9_fit_55 rfl (lv_at hl 1 rfl) ?_
                refine lv_iload_n hx hb dX9_fit_56 rfl (lv_at hl 2 rfl) ?_
                obtain ⟨r_57, hv_57, hf⟩ := bd1_some hf
                refine kSi (rV (C := RX8) [.int l2_22] [] S (c_X8_startOf l dC dI cI cJ cZ h_a1 h_a1_delays h_a1_rows h_a1_rows_rowOf h_a1_rows_placeOf g_a1_widths g_a1_keys g_a1_cells g_a1_rules h_a1_sights H.size c_a1_delays c_a1_rows_rung c_a1_rows_rowOf c_a1_rows_placeOf l2_22 r_57 hv_57) (cwV 1 hts gX9_fit_X8_startOf rfl rfl rfl (by decide +kernel) ⟨Nat.le_of_ble_eq_true rfl, Nat.le_of_ble_eq_true rfl⟩) (va_recv hK hP (ci := 8) (q0 := 3) rfl rfl) hP hD hK hN [3, 4, 5, 6, 7] rfl (by decide +kernel) rfl hl.1 rfl (Nat.le_of_ble_eq_true rfl) dX9_fit_57 ⟨Nat.le_of_ble_eq_true rfl, Nat.le_of_ble_eq_true rfl⟩) ?_
                refine lv_iload hx hb dX9_fit_60 (lv_at hl 4 rfl) ?_
                refine lv_iadd hx hb dX9_fit_62 ?_
                refine lv_istore (lv' := [(5, .int (r_57 + l4_43)), (0, .ref h_this), (1, .ref h_a1), (2, .int l2_22), (3, .int r_36), (4, .int l4_43)]) hx hb dX9_fit_63 hl (by decide) rfl (fun ls hl => ?_)
                refine lv_aload_n hx hb dX9_fit_65 rfl (lv_at hl 2 rfl) ?_
                refine va_getN (D := (dC, dI)) (ci := 8) (v := .ref h_a1_sights) (C := RX8) (T := TX8) (N := 7) hx hb hts in_X9_fit_X8 hown hK hP 3 rfl rfl 6 (by decide) (hN.f 26 rfl) (fun _ h9 => h9) rfl dX9_fit_66 ?_
                refine lv_iload_n hx hb dX9_fit_69 rfl (lv_at hl 4 rfl) ?_
                refine lv_iload hx hb dX9_fit_70 (lv_at hl 0 rfl) ?_
                obtain ⟨r_72, hv_72, hf⟩ := bd1_some hf
                refine kSi (rS [.ref h_a1_sights, .int r_36, .int (r_57 + l4_43)] [] S (c_X9_allAreSo l dC dI cI cJ cZ h_a1_sights h_a1_sights_firsts h_a1_sights_seconds H.size 8 c_a1_sights_count c_a1_sights_firsts c_a1_sights_seconds r_36 (r_57 + l4_43) r_72 hv_72) (va_cwS 3 hts gX9_fit_X9_allAreSo rfl rfl rfl (by decide +kernel) ⟨Nat.le_of_ble_eq_true rfl, Nat.le_of_ble_eq_true rfl⟩) hP hD hK hN [8, 9, 10] rfl (by decide +kernel) rfl hl.1 rfl (Nat.le_of_ble_eq_true rfl) dX9_fit_72 ⟨Nat.le_of_ble_eq_true rfl, Nat.le_of_ble_eq_true rfl⟩) ?_
                refine lv_if_eq (tgt := 138) hx hb dX9_fit_75 (by decide) (fun k_75 => ?_) (fun k_75 => ?_)
                · have hf := ite_t hf k_75
                  refine lv_iinc (v := (l4_43 + 1)) (lv' := [(4, .int (l4_43 + 1)), (5, .int (r_57 + l4_43)), (0, .ref h_this), (1, .ref h_a1), (2, .int l2_22), (3, .int r_36)]) hx hb dX9_fit_138 hl (k := 5) rfl rfl (by decide) rfl (fun ls hl => ?_)
                  refine lv_goto (tgt := 43) hx hb dX9_fit_141 (by decide) ?_
                  exact ih_43 (l4_43 + 1) c_count_43 c_memberBits_43 c_lateBits_43 c_rowOf_43 c_startOf_43 H locs ls hP hD hS (lv_sub hl [2, 3, 4, 5, 0] rfl) (ho1_43 _ (Option.some.inj hf).symm)
                · have hf := ite_f hf k_75
                  refine lv_aload_n hx hb dX9_fit_78 rfl (lv_at hl 1 rfl) ?_
                  refine va_get (D := (dC, dI)) (ci := 9) (v := .ref h_this_rowOf) (C := RX9) (T := TX9) (N := 6) hx hb hts in_X9_fit_X9 hown hK hP 0 rfl rfl 0 (by decide) (hts _ m_X9_fit_f9) (fun _ h9 => h9) rfl dX9_fit_79 ?_
                  refine lv_aload_n hx hb dX9_fit_82 rfl (lv_at hl 1 rfl) ?_
                  refine va_get (D := (dC, dI)) (ci := 9) (v := .int c_count_43) (C := RX9) (T := TX9) (N := 6) hx hb hts in_X9_fit_X9 hown hK hP 0 rfl rfl 3 (by decide) (hts _ m_X9_fit_f21) (fun _ h9 => h9) rfl dX9_fit_83 ?_
                  refine lv_iload_n hx hb dX9_fit_86 rfl (lv_at hl 4 rfl) ?_
                  obtain ⟨c_rowOf_87, hv_87, hf⟩ := bd1_some hf
                  refine kWv (rSN (host := "WovenRows") [.ref h_this_rowOf, .int c_count_43, .int r_36] [] S (c_X10_put l dC dI cI cJ cZ h_this_rowOf H.size 100 c_rowOf_43 c_count_43 r_36 c_rowOf_87 hv_87) ⟨va_cnB 3 hts gX9_fit_X10_put_n55 rfl rfl rfl (hN.m 24 rfl) (hts _ m_X9_fit_iX10) (by decide +kernel) ⟨Nat.le_of_ble_eq_true rfl, Nat.le_of_ble_eq_true rfl⟩, hts _ m_X9_fit_st_X10_put, trivial⟩ hP hD hK hN [1] rfl (by decide +kernel) rfl hl.1 rfl (Nat.le_of_ble_eq_true rfl) dX9_fit_87 ⟨Nat.le_of_ble_eq_true rfl, Nat.le_of_ble_eq_true rfl⟩) hP hD hS hA [1] rfl rfl [none, some 0, none, none, none, none, none, none, none, none, none] (by decide +kernel) rfl (fun H locs hP hD hS => ?_)
                  have hP : va_P (dC, dI) vwCl (w_X9_fit cI cJ cZ h_this h_this_rowOf h_this_startOf h_a1 h_a1_delays h_a1_rows h_a1_rows_rowOf h_a1_rows_placeOf h_a1_sights h_a1_sights_firsts h_a1_sights_seconds g_this_tally g_a1_widths g_a1_keys g_a1_cells g_a1_rules c_count_43 c_memberBits_43 c_lateBits_43 c_rowOf_87 c_startOf_43 c_a1_delays c_a1_rows_rung c_a1_rows_rowOf c_a1_rows_placeOf c_a1_sights_count c_a1_sights_firsts c_a1_sights_seconds) H := hP
                  have hD : va_D A (w_X9_fit cI cJ cZ h_this h_this_rowOf h_this_startOf h_a1 h_a1_delays h_a1_rows h_a1_rows_rowOf h_a1_rows_placeOf h_a1_sights h_a1_sights_firsts h_a1_sights_seconds g_this_tally g_a1_widths g_a1_keys g_a1_cells g_a1_rules c_count_43 c_memberBits_43 c_lateBits_43 c_rowOf_87 c_startOf_43 c_a1_delays c_a1_rows_rung c_a1_rows_rowOf c_a1_rows_placeOf c_a1_sights_count c_a1_sights_firsts c_a1_sights_seconds) := hD
                  refine lv_aload_n hx hb dX9_fit_90 rfl (lv_at hl 1 rfl) ?_
                  refine va_get (D := (dC, dI)) (ci := 9) (v := .ref h_this_startOf) (C := RX9) (T := TX9) (N := 6) hx hb hts in_X9_fit_X9 hown hK hP 0 rfl rfl 1 (by decide) (hts _ m_X9_fit_f15) (fun _ h9 => h9) rfl dX9_fit_91 ?_
                  refine lv_aload_n hx hb dX9_fit_94 rfl (lv_at hl 1 rfl) ?_
                  refine va_get (D := (dC, dI)) (ci := 9) (v := .int c_count_43) (C := RX9) (T := TX9) (N := 6) hx hb hts in_X9_fit_X9 hown hK hP 0 rfl rfl 3 (by decide) (hts _ m_X9_fit_f21) (fun _ h9 => h9) rfl dX9_fit_95 ?_
                  refine lv_iload hx hb dX9_fit_98 (lv_at hl 0 rfl) ?_
                  obtain ⟨c_startOf_100, hv_100, hf⟩ := bd1_some hf
                  refine kWv (rSN (host := "WovenRows") [.ref h_this_startOf, .int c_count_43, .int (r_57 + l4_43)] [] S (c_X10_put l dC dI cI cJ cZ h_this_startOf H.size 100 c_startOf_43 c_count_43 (r_57 + l4_43) c_startOf_100 hv_100) ⟨va_cnB 3 hts gX9_fit_X10_put_n55 rfl rfl rfl (hN.m 24 rfl) (hts _ m_X9_fit_iX10) (by decide +kernel) ⟨Nat.le_of_ble_eq_true rfl, Nat.le_of_ble_eq_true rfl⟩, hts _ m_X9_fit_st_X10_put, trivial⟩ hP hD hK hN [2] rfl (by decide +kernel) rfl hl.1 rfl (Nat.le_of_ble_eq_true rfl) dX9_fit_100 ⟨Nat.le_of_ble_eq_true rfl, Nat.le_of_ble_eq_true rfl⟩) hP hD hS hA [2] rfl rfl [none, none, some 0, none, none, none, none, none, none, none, none] (by decide +kernel) rfl (fun H locs hP hD hS => ?_)
                  have hP : va_P (dC, dI) vwCl (w_X9_fit cI cJ cZ h_this h_this_rowOf h_this_startOf h_a1 h_a1_delays h_a1_rows h_a1_rows_rowOf h_a1_rows_placeOf h_a1_sights h_a1_sights_firsts h_a1_sights_seconds g_this_tally g_a1_widths g_a1_keys g_a1_cells g_a1_rules c_count_43 c_memberBits_43 c_lateBits_43 c_rowOf_87 c_startOf_100 c_a1_delays c_a1_rows_rung c_a1_rows_rowOf c_a1_rows_placeOf c_a1_sights_count c_a1_sights_firsts c_a1_sights_seconds) H := hP
                  have hD : va_D A (w_X9_fit cI cJ cZ h_this h_this_rowOf h_this_startOf h_a1 h_a1_delays h_a1_rows h_a1_rows_rowOf h_a1_rows_placeOf h_a1_sights h_a1_sights_firsts h_a1_sights_seconds g_this_tally g_a1_widths g_a1_keys g_a1_cells g_a1_rules c_count_43 c_memberBits_43 c_lateBits_43 c_rowOf_87 c_startOf_100 c_a1_delays c_a1_rows_rung c_a1_rows_rowOf c_a1_rows_placeOf c_a1_sights_count c_a1_sights_firsts c_a1_sights_seconds) := hD
                  refine lv_aload_n hx hb dX9_fit_103 rfl (lv_at hl 1 rfl) ?_
                  refine lv_dup hx hb dX9_fit_104 rfl ?_
                  refine va_get (D := (dC, dI)) (ci := 9) (v := .int c_count_43) (C := RX9) (T := TX9) (N := 6) hx hb hts in_X9_fit_X9 hown hK hP 0 rfl rfl 3 (by decide) (hts _ m_X9_fit_f21) (fun _ h9 => h9) rfl dX9_fit_105 ?_
                  refine lv_iconst (v := 1) hx hb dX9_fit_108 (by decide) ?_
                  refine lv_iadd hx hb dX9_fit_109 ?_
                  refine va_put (D := (dC, dI)) (ci := 9) (v := .int (c_count_43 + 1)) (ty := .int) (C := RX9) (T := TX9) (N := 6) hx hb hts in_X9_fit_X9 tyX9 tyX9_ok nmX9 hown hK hP hD hS 0 rfl rfl 3 (by decide) (hts _ m_X9_fit_f21) (fun _ h9 => h9) rfl (by decide +kernel) rfl rfl (Nat.le_of_ble_eq_true rfl) dX9_fit_110 (fun H locs hP hD hS => ?_)
                  have hP : va_P (dC, dI) vwCl (w_X9_fit cI cJ cZ h_this h_this_rowOf h_this_startOf h_a1 h_a1_delays h_a1_rows h_a1_rows_rowOf h_a1_rows_placeOf h_a1_sights h_a1_sights_firsts h_a1_sights_seconds g_this_tally g_a1_widths g_a1_keys g_a1_cells g_a1_rules (c_count_43 + 1) c_memberBits_43 c_lateBits_43 c_rowOf_87 c_startOf_100 c_a1_delays c_a1_rows_rung c_a1_rows_rowOf c_a1_rows_placeOf c_a1_sights_count c_a1_sights_firsts c_a1_sights_seconds) H := hP
                  have hD : va_D A (w_X9_fit cI cJ cZ h_this h_this_rowOf h_this_startOf h_a1 h_a1_delays h_a1_rows h_a1_rows_rowOf h_a1_rows_placeOf h_a1_sights h_a1_sights_firsts h_a1_sights_seconds g_this_tally g_a1_widths g_a1_keys g_a1_cells g_a1_rules (c_count_43 + 1) c_memberBits_43 c_lateBits_43 c_rowOf_87 c_startOf_100 c_a1_delays c_a1_rows_rung c_a1_rows_rowOf c_a1_rows_placeOf c_a1_sights_count c_a1_sights_firsts c_a1_sights_seconds) := hD
                  refine lv_aload_n hx hb dX9_fit_113 rfl (lv_at hl 1 rfl) ?_
                  refine lv_dup hx hb dX9_fit_114 rfl ?_
                  refine va_get (D := (dC, dI)) (ci := 9) (v := .int c_memberBits_43) (C := RX9) (T := TX9) (N := 6) hx hb hts in_X9_fit_X9 hown hK hP 0 rfl rfl 4 (by decide) (hts _ m_X9_fit_f25) (fun _ h9 => h9) rfl dX9_fit_115 ?_
                  refine lv_iconst (v := 1) hx hb dX9_fit_118 (by decide) ?_
                  refine lv_iload_n hx hb dX9_fit_119 rfl (lv_at hl 3 rfl) ?_
                  refine lv_ishl hx hb dX9_fit_120 ?_
                  refine lv_ior hx hb dX9_fit_121 ?_
                  refine va_put (D := (dC, dI)) (ci := 9) (v := .int (c_memberBits_43 ||| (1 <<< (l2_22 &&& 31)))) (ty := .int) (C := RX9) (T := TX9) (N := 6) hx hb hts in_X9_fit_X9 tyX9 tyX9_ok nmX9 hown hK hP hD hS 0 rfl rfl 4 (by decide) (hts _ m_X9_fit_f25) (fun _ h9 => h9) rfl (by decide +kernel) rfl rfl (Nat.le_of_ble_eq_true rfl) dX9_fit_122 (fun H locs hP hD hS => ?_)
                  have hP : va_P (dC, dI) vwCl (w_X9_fit cI cJ cZ h_this h_this_rowOf h_this_startOf h_a1 h_a1_delays h_a1_rows h_a1_rows_rowOf h_a1_rows_placeOf h_a1_sights h_a1_sights_firsts h_a1_sights_seconds g_this_tally g_a1_widths g_a1_keys g_a1_cells g_a1_rules (c_count_43 + 1) (c_memberBits_43 ||| (1 <<< (l2_22 &&& 31))) c_lateBits_43 c_rowOf_87 c_startOf_100 c_a1_delays c_a1_rows_rung c_a1_rows_rowOf c_a1_rows_placeOf c_a1_sights_count c_a1_sights_firsts c_a1_sights_seconds) H := hP
                  have hD : va_D A (w_X9_fit cI cJ cZ h_this h_this_rowOf h_this_startOf h_a1 h_a1_delays h_a1_rows h_a1_rows_rowOf h_a1_rows_placeOf h_a1_sights h_a1_sights_firsts h_a1_sights_seconds g_this_tally g_a1_widths g_a1_keys g_a1_cells g_a1_rules (c_count_43 + 1) (c_memberBits_43 ||| (1 <<< (l2_22 &&& 31))) c_lateBits_43 c_rowOf_87 c_startOf_100 c_a1_delays c_a1_rows_rung c_a1_rows_rowOf c_a1_rows_placeOf c_a1_sights_count c_a1_sights_firsts c_a1_sights_seconds) := hD
                  refine lv_aload_n hx hb dX9_fit_125 rfl (lv_at hl 1 rfl) ?_
                  refine lv_dup hx hb dX9_fit_126 rfl ?_
                  refine va_get (D := (dC, dI)) (ci := 9) (v := .int c_lateBits_43) (C := RX9) (T := TX9) (N := 6) hx hb hts in_X9_fit_X9 hown hK hP 0 rfl rfl 5 (by decide) (hts _ m_X9_fit_f28) (fun _ h9 => h9) rfl dX9_fit_127 ?_
                  refine lv_iconst (v := 1) hx hb dX9_fit_130 (by decide) ?_
                  refine lv_iload hx hb dX9_fit_131 (lv_at hl 5 rfl) ?_
                  refine lv_ishl hx hb dX9_fit_133 ?_
                  refine lv_ior hx hb dX9_fit_134 ?_
                  refine va_put (D := (dC, dI)) (ci := 9) (v := .int (c_lateBits_43 ||| (1 <<< (l4_43 &&& 31)))) (ty := .int) (C := RX9) (T := TX9) (N := 6) hx hb hts in_X9_fit_X9 tyX9 tyX9_ok nmX9 hown hK hP hD hS 0 rfl rfl 5 (by decide) (hts _ m_X9_fit_f28) (fun _ h9 => h9) rfl (by decide +kernel) rfl rfl (Nat.le_of_ble_eq_true rfl) dX9_fit_135 (fun H locs hP hD hS => ?_)
                  have hP : va_P (dC, dI) vwCl (w_X9_fit cI cJ cZ h_this h_this_rowOf h_this_startOf h_a1 h_a1_delays h_a1_rows h_a1_rows_rowOf h_a1_rows_placeOf h_a1_sights h_a1_sights_firsts h_a1_sights_seconds g_this_tally g_a1_widths g_a1_keys g_a1_cells g_a1_rules (c_count_43 + 1) (c_memberBits_43 ||| (1 <<< (l2_22 &&& 31))) (c_lateBits_43 ||| (1 <<< (l4_43 &&& 31))) c_rowOf_87 c_startOf_100 c_a1_delays c_a1_rows_rung c_a1_rows_rowOf c_a1_rows_placeOf c_a1_sights_count c_a1_sights_firsts c_a1_sights_seconds) H := hP
                  have hD : va_D A (w_X9_fit cI cJ cZ h_this h_this_rowOf h_this_startOf h_a1 h_a1_delays h_a1_rows h_a1_rows_rowOf h_a1_rows_placeOf h_a1_sights h_a1_sights_firsts h_a1_sights_seconds g_this_tally g_a1_widths g_a1_keys g_a1_cells g_a1_rules (c_count_43 + 1) (c_memberBits_43 ||| (1 <<< (l2_22 &&& 31))) (c_lateBits_43 ||| (1 <<< (l4_43 &&& 31))) c_rowOf_87 c_startOf_100 c_a1_delays c_a1_rows_rung c_a1_rows_rowOf c_a1_rows_placeOf c_a1_sights_count c_a1_sights_firsts c_a1_sights_seconds) := hD
                  refine lv_iinc (v := (l4_43 + 1)) (lv' := [(4, .int (l4_43 + 1)), (5, .int (r_57 + l4_43)), (0, .ref h_this), (1, .ref h_a1), (2, .int l2_22), (3, .int r_36)]) hx hb dX9_fit_138 hl (k := 5) rfl rfl (by decide) rfl (fun ls hl => ?_)
                  refine lv_goto (tgt := 43) hx hb dX9_fit_141 (by decide) ?_
                  exact ih_43 (l4_43 + 1) (c_count_43 + 1) (c_memberBits_43 ||| (1 <<< (l2_22 &&& 31))) (c_lateBits_43 ||| (1 <<< (l4_43 &&& 31))) c_rowOf_87 c_startOf_100 H locs ls hP hD hS (lv_sub hl [2, 3, 4, 5, 0] rfl) (ho1_43 _ (Option.some.inj hf).symm)
        exact L_43 FU 0 c_count_22 c_memberBits_22 c_lateBits_22 c_rowOf_22 c_startOf_22 H locs ls hP hD hS (lv_sub hl [2, 3, 4, 1, 0] rfl) hq_43
  exact L_22 FU 0 0 0 0 c_rowOf c_startOf H locs ls hP hD hS (lv_sub hl [1, 2, 0] rfl) hq_22
abbrev w_X9_mostLeftAt (cI cJ cZ : ClassId) (h_this h_this_rowOf h_this_startOf h_this_tally : Nat) (c_count : Int32) (c_memberBits : Int32) (c_lateBits : Int32) (c_rowOf : Nat → Int32) (c_startOf : Nat → Int32) (c_tally : Nat → Int32) : va_W := [(h_this, .inr (9, [.ref h_this_rowOf, .ref h_this_startOf, .ref h_this_tally, .int c_count, .int c_memberBits, .int c_lateBits])), (h_this_rowOf, .inl (cI, 100, .inl c_rowOf)), (h_this_startOf, .inl (cI, 100, .inl c_startOf)), (h_this_tally, .inl (cI, 18, .inl c_tally))]
abbrev rm_X9_mostLeftAt : Room := { frames := 2, cells := 0, slots := 0, locals := 45 }
theorem m_X9_mostLeftAt_f18 : (.fieldLink RX9 18 "WovenRows$Watch" "tally" "[I" : Cond) ∈ wsX9_mostLeftAt := by decide +kernel
theorem in_X9_mostLeftAt_X9 : ∀ w ∈ u_ws RX9 TX9 6, w ∈ wsX9_mostLeftAt := by decide +kernel
theorem m_X9_mostLeftAt_f21 : (.fieldLink RX9 21 "WovenRows$Watch" "count" "I" : Cond) ∈ wsX9_mostLeftAt := by decide +kernel
theorem m_X9_mostLeftAt_f9 : (.fieldLink RX9 9 "WovenRows$Watch" "rowOf" "[I" : Cond) ∈ wsX9_mostLeftAt := by decide +kernel
theorem m_X9_mostLeftAt_f15 : (.fieldLink RX9 15 "WovenRows$Watch" "startOf" "[I" : Cond) ∈ wsX9_mostLeftAt := by decide +kernel
theorem m_X9_mostLeftAt_iX10 : (.initialized RX10 : Cond) ∈ wsX9_mostLeftAt := by decide +kernel
theorem m_X9_mostLeftAt_st_X10_fill : (.static yX10_fill : Cond) ∈ wsX9_mostLeftAt := by decide +kernel
theorem m_X9_mostLeftAt_st_X10_at : (.static yX10_at : Cond) ∈ wsX9_mostLeftAt := by decide +kernel
theorem m_X9_mostLeftAt_st_X10_put : (.static yX10_put : Cond) ∈ wsX9_mostLeftAt := by decide +kernel
theorem m_X9_mostLeftAt_ml80 : (.methodLink RX9 80 Lib.Math.max.name : Cond) ∈ wsX9_mostLeftAt := by decide +kernel
theorem m_X9_mostLeftAt_st_max : (.static Lib.Math.max.name : Cond) ∈ wsX9_mostLeftAt := by decide +kernel
theorem m_X9_mostLeftAt_iM : (.initialized "java/lang/Math" : Cond) ∈ wsX9_mostLeftAt := by decide +kernel
theorem m_X9_mostLeftAt_co_max : (.code Lib.Math.max.name Lib.Math.max.code 2 (some .int) : Cond) ∈ wsX9_mostLeftAt := by decide +kernel
set_option maxRecDepth 100000 in
set_option maxHeartbeats 4000000 in
theorem c_X9_mostLeftAt (l : Launch) (dC : Nat → ClassId) (dI : Nat → Nat → Nat) (cI cJ cZ : ClassId) (h_this h_this_rowOf h_this_startOf h_this_tally : Nat) (sz : Nat) (c_count : Int32) (c_memberBits : Int32) (c_lateBits : Int32) (c_rowOf : Nat → Int32) (c_startOf : Nat → Int32) (c_tally : Nat → Int32) (l1 : Int32) (r : Int32) (z_tally : Nat → Int32) (hf : f_X9_mostLeftAt c_count c_rowOf c_startOf c_tally l1 = some (r, z_tally)) : Met l yX9_mostLeftAt wsX9_mostLeftAt rm_X9_mostLeftAt (va_Pc [.ref h_this, .int l1] (PRE (dC, dI) (TY cI cJ cZ) sz (w_X9_mostLeftAt cI cJ cZ h_this h_this_rowOf h_this_startOf h_this_tally c_count c_memberBits c_lateBits c_rowOf c_startOf c_tally))) (va_Qi (fun r' (_ : Unit) => r' = r) (POW (dC, dI) (va_A (w_X9_mostLeftAt cI cJ cZ h_this h_this_rowOf h_this_startOf h_this_tally c_count c_memberBits c_lateBits c_rowOf c_startOf c_tally) sz) (w_X9_mostLeftAt cI cJ cZ h_this h_this_rowOf h_this_startOf h_this_tally c_count c_memberBits c_lateBits c_rowOf c_startOf z_tally)) (va_A (w_X9_mostLeftAt cI cJ cZ h_this h_this_rowOf h_this_startOf h_this_tally c_count c_memberBits c_lateBits c_rowOf c_startOf c_tally) sz)) 0 0 (va_A (w_X9_mostLeftAt cI cJ cZ h_this h_this_rowOf h_this_startOf h_this_tally c_count c_memberBits c_lateBits c_rowOf c_startOf c_tally) sz) := by
  refine ofWi (ty := .int) (by decide +kernel) rfl (Nat.le_of_ble_eq_true rfl) ?_
  intro p e s m args below meth c Z A ls S hP hD hK hN hA hl hret
  obtain ⟨hx, hb, hml, hown, hts⟩ := id S
  have hown : s.vm.findClass RX9 = some m.cls := hown
  have hS : va_S A s.heap s.heap [] := va_S.rf
  have hl : lv_has ls 6 [(0, .ref h_this), (1, .int l1)] := hl
  unfold f_X9_mostLeftAt at hf
  refine lv_aload_n hx hb dX9_mostLeftAt_0 rfl (lv_at hl 0 rfl) ?_
  refine va_get (D := (dC, dI)) (ci := 9) (v := .ref h_this_tally) (C := RX9) (T := TX9) (N := 6) hx hb hts in_X9_mostLeftAt_X9 hown hK hP 0 rfl rfl 2 (by decide) (hts _ m_X9_mostLeftAt_f18) (fun _ h9 => h9) rfl dX9_mostLeftAt_1 ?_
  refine lv_iconst (v := 0) hx hb dX9_mostLeftAt_4 (by decide) ?_
  obtain ⟨c_tally_5, hv_5, hf⟩ := bd1_some hf
  refine kWv (rSN (host := "WovenRows") [.ref h_this_tally, .int 0] [] S (c_X10_fill l dC dI cI cJ cZ h_this_tally s.heap.size 18 c_tally 0 c_tally_5 hv_5) ⟨va_cnB 2 hts gX9_mostLeftAt_X10_fill_n76 rfl rfl rfl (hN.m 25 rfl) (hts _ m_X9_mostLeftAt_iX10) (by decide +kernel) ⟨Nat.le_of_ble_eq_true rfl, Nat.le_of_ble_eq_true rfl⟩, hts _ m_X9_mostLeftAt_st_X10_fill, trivial⟩ hP hD hK hN [3] rfl (by decide +kernel) rfl hl.1 rfl (Nat.le_of_ble_eq_true rfl) dX9_mostLeftAt_5 ⟨Nat.le_of_ble_eq_true rfl, Nat.le_of_ble_eq_true rfl⟩) hP hD hS hA [3] rfl rfl [none, none, none, some 0] (by decide +kernel) rfl (fun H locs hP hD hS => ?_)
  have hP : va_P (dC, dI) vwCl (w_X9_mostLeftAt cI cJ cZ h_this h_this_rowOf h_this_startOf h_this_tally c_count c_memberBits c_lateBits c_rowOf c_startOf c_tally_5) H := hP
  have hD : va_D A (w_X9_mostLeftAt cI cJ cZ h_this h_this_rowOf h_this_startOf h_this_tally c_count c_memberBits c_lateBits c_rowOf c_startOf c_tally_5) := hD
  refine lv_iconst (v := 0) hx hb dX9_mostLeftAt_8 (by decide) ?_
  refine lv_istore_n (lv' := [(2, .int 0), (0, .ref h_this), (1, .int l1)]) hx hb dX9_mostLeftAt_9 rfl hl (by decide) rfl (fun ls hl => ?_)
  refine lv_iconst (v := 0) hx hb dX9_mostLeftAt_10 (by decide) ?_
  refine lv_istore_n (lv' := [(3, .int 0), (2, .int 0), (0, .ref h_this), (1, .int l1)]) hx hb dX9_mostLeftAt_11 rfl hl (by decide) rfl (fun ls hl => ?_)
  obtain ⟨l2_12x, l3_12x, c_tally_12x, hq_12, hf⟩ := bd3_some hf
  have K_12 : ∀ (H : Heap) (locs : List Loc) (ls : Array Slot), va_P (dC, dI) vwCl (w_X9_mostLeftAt cI cJ cZ h_this h_this_rowOf h_this_startOf h_this_tally c_count c_memberBits c_lateBits c_rowOf c_startOf c_tally_12x) H → va_D A (w_X9_mostLeftAt cI cJ cZ h_this h_this_rowOf h_this_startOf h_this_tally c_count c_memberBits c_lateBits c_rowOf c_startOf c_tally_12x) → va_S A s.heap H locs → lv_has ls 6 [(2, .int l2_12x)] → W p l e rm_X9_mostLeftAt s m args below meth c H locs 0 0 Z (F0 m 79 ls []) := by
    intro H locs ls hP hD hS hl
    refine lv_iload_n hx hb dX9_mostLeftAt_79 rfl (lv_at hl 0 rfl) ?_
    have e_f := Option.some.inj hf
    cases e_f
    exact hret rfl hP hD hS dX9_mostLeftAt_80
  have L_12 : ∀ (n : Nat) (l2_12 : Int32) (l3_12 : Int32) (c_tally_12 : Nat → Int32) (H : Heap) (locs : List Loc) (ls : Array Slot), va_P (dC, dI) vwCl (w_X9_mostLeftAt cI cJ cZ h_this h_this_rowOf h_this_startOf h_this_tally c_count c_memberBits c_lateBits c_rowOf c_startOf c_tally_12) H → va_D A (w_X9_mostLeftAt cI cJ cZ h_this h_this_rowOf h_this_startOf h_this_tally c_count c_memberBits c_lateBits c_rowOf c_startOf c_tally_12) → va_S A s.heap H locs → lv_has ls 6 [(0, .ref h_this), (1, .int l1), (2, .int l2_12), (3, .int l3_12)] → loopN (fun (q : Int32 × Int32 × (Nat → Int32)) => f_X9_mostLeftAt_b12 c_count c_rowOf c_startOf l1 q.1 q.2.1 q.2.2) n (l2_12, l3_12, c_tally_12) = some (l2_12x, l3_12x, c_tally_12x) → W p l e rm_X9_mostLeftAt s m args below meth c H locs 0 0 Z (F0 m 12 ls []) := by
    intro n
    induction n with
    | zero => intro l2_12 l3_12 c_tally_12 H locs ls hP hD hS hl hq; exact (loopN_zero hq).elim
    | succ n ih_12 =>
      intro l2_12 l3_12 c_tally_12 H locs ls hP hD hS hl hq
      obtain ⟨o_12, hf, ho1_12, ho2_12⟩ := loopN_step hq
      have hf : f_X9_mostLeftAt_b12 c_count c_rowOf c_startOf l1 l2_12 l3_12 c_tally_12 = some o_12 := hf
      unfold f_X9_mostLeftAt_b12 at hf
      refine lv_iload_n hx hb dX9_mostLeftAt_12 rfl (lv_at hl 3 rfl) ?_
      refine lv_aload_n hx hb dX9_mostLeftAt_13 rfl (lv_at hl 0 rfl) ?_
      refine va_get (D := (dC, dI)) (ci := 9) (v := .int c_count) (C := RX9) (T := TX9) (N := 6) hx hb hts in_X9_mostLeftAt_X9 hown hK hP 0 rfl rfl 3 (by decide) (hts _ m_X9_mostLeftAt_f21) (fun _ h9 => h9) rfl dX9_mostLeftAt_14 ?_
      refine lv_icmp_ge (tgt := 79) hx hb dX9_mostLeftAt_17 (by decide) (fun k_17 => ?_) (fun k_17 => ?_)
      · have hf := ite_t hf k_17
        have e_12 := ho2_12 _ (Option.some.inj hf).symm
        cases e_12
        exact K_12 H locs ls hP hD hS (lv_sub hl [2] rfl)
      · have hf := ite_f hf k_17
        refine lv_aload_n hx hb dX9_mostLeftAt_20 rfl (lv_at hl 0 rfl) ?_
        refine va_get (D := (dC, dI)) (ci := 9) (v := .ref h_this_rowOf) (C := RX9) (T := TX9) (N := 6) hx hb hts in_X9_mostLeftAt_X9 hown hK hP 0 rfl rfl 0 (by decide) (hts _ m_X9_mostLeftAt_f9) (fun _ h9 => h9) rfl dX9_mostLeftAt_21 ?_
        refine lv_iload_n hx hb dX9_mostLeftAt_24 rfl (lv_at hl 3 rfl) ?_
        obtain ⟨r_25, hv_25, hf⟩ := bd1_some hf
        refine kSi (rSN (host := "WovenRows") [.ref h_this_rowOf, .int l3_12] [] S (c_X10_at l dC dI cI cJ cZ h_this_rowOf H.size 100 c_rowOf l3_12 r_25 hv_25) ⟨va_cnB 2 hts gX9_mostLeftAt_X10_at_n40 rfl rfl rfl (hN.m 22 rfl) (hts _ m_X9_mostLeftAt_iX10) (by decide +kernel) ⟨Nat.le_of_ble_eq_true rfl, Nat.le_of_ble_eq_true rfl⟩, hts _ m_X9_mostLeftAt_st_X10_at, trivial⟩ hP hD hK hN [1] rfl (by decide +kernel) rfl hl.1 rfl (Nat.le_of_ble_eq_true rfl) dX9_mostLeftAt_25 ⟨Nat.le_of_ble_eq_true rfl, Nat.le_of_ble_eq_true rfl⟩) ?_
        refine lv_aload_n hx hb dX9_mostLeftAt_28 rfl (lv_at hl 0 rfl) ?_
        refine va_get (D := (dC, dI)) (ci := 9) (v := .ref h_this_startOf) (C := RX9) (T := TX9) (N := 6) hx hb hts in_X9_mostLeftAt_X9 hown hK hP 0 rfl rfl 1 (by decide) (hts _ m_X9_mostLeftAt_f15) (fun _ h9 => h9) rfl dX9_mostLeftAt_29 ?_
        refine lv_iload_n hx hb dX9_mostLeftAt_32 rfl (lv_at hl 3 rfl) ?_
        obtain ⟨r_33, hv_33, hf⟩ := bd1_some hf
        refine kSi (rSN (host := "WovenRows") [.ref h_this_startOf, .int l3_12] [.int r_25] S (c_X10_at l dC dI cI cJ cZ h_this_startOf H.size 100 c_startOf l3_12 r_33 hv_33) ⟨va_cnB 2 hts gX9_mostLeftAt_X10_at_n40 rfl rfl rfl (hN.m 22 rfl) (hts _ m_X9_mostLeftAt_iX10) (by decide +kernel) ⟨Nat.le_of_ble_eq_true rfl, Nat.le_of_ble_eq_true rfl⟩, hts _ m_X9_mostLeftAt_st_X10_at, trivial⟩ hP hD hK hN [2] rfl (by decide +kernel) rfl hl.1 rfl (Nat.le_of_ble_eq_true rfl) dX9_mostLeftAt_33 ⟨Nat.le_of_ble_eq_true rfl, Nat.le_of_ble_eq_true rfl⟩) ?_
        refine lv_iload_n hx hb dX9_mostLeftAt_36 rfl (lv_at hl 1 rfl) ?_
        obtain ⟨r_37, hv_37, hf⟩ := bd1_some hf
        refine kSi (rS [.int r_25, .int r_33, .int l1] [] S (c_X9_cellAt l dC dI cI cJ cZ H.size r_25 r_33 l1 r_37 hv_37) (va_cwS 3 hts gX9_mostLeftAt_X9_cellAt rfl rfl rfl (by decide +kernel) ⟨Nat.le_of_ble_eq_true rfl, Nat.le_of_ble_eq_true rfl⟩) hP hD hK hN [] rfl (by decide +kernel) rfl hl.1 rfl (Nat.le_of_ble_eq_true rfl) dX9_mostLeftAt_37 ⟨Nat.le_of_ble_eq_true rfl, Nat.le_of_ble_eq_true rfl⟩) ?_
        refine lv_istore (lv' := [(4, .int r_37), (0, .ref h_this), (1, .int l1), (2, .int l2_12), (3, .int l3_12)]) hx hb dX9_mostLeftAt_40 hl (by decide) rfl (fun ls hl => ?_)
        refine lv_aload_n hx hb dX9_mostLeftAt_42 rfl (lv_at hl 1 rfl) ?_
        refine va_get (D := (dC, dI)) (ci := 9) (v := .ref h_this_tally) (C := RX9) (T := TX9) (N := 6) hx hb hts in_X9_mostLeftAt_X9 hown hK hP 0 rfl rfl 2 (by decide) (hts _ m_X9_mostLeftAt_f18) (fun _ h9 => h9) rfl dX9_mostLeftAt_43 ?_
        refine lv_iload hx hb dX9_mostLeftAt_46 (lv_at hl 0 rfl) ?_
        obtain ⟨r_48, hv_48, hf⟩ := bd1_some hf
        refine kSi (rSN (host := "WovenRows") [.ref h_this_tally, .int r_37] [] S (c_X10_at l dC dI cI cJ cZ h_this_tally H.size 18 c_tally_12 r_37 r_48 hv_48) ⟨va_cnB 2 hts gX9_mostLeftAt_X10_at_n40 rfl rfl rfl (hN.m 22 rfl) (hts _ m_X9_mostLeftAt_iX10) (by decide +kernel) ⟨Nat.le_of_ble_eq_true rfl, Nat.le_of_ble_eq_true rfl⟩, hts _ m_X9_mostLeftAt_st_X10_at, trivial⟩ hP hD hK hN [3] rfl (by decide +kernel) rfl hl.1 rfl (Nat.le_of_ble_eq_true rfl) dX9_mostLeftAt_48 ⟨Nat.le_of_ble_eq_true rfl, Nat.le_of_ble_eq_true rfl⟩) ?_
        refine lv_iconst (v := 1) hx hb dX9_mostLeftAt_51 (by decide) ?_
        refine lv_iadd hx hb dX9_mostLeftAt_52 ?_
        refine lv_istore (lv' := [(5, .int (r_48 + 1)), (4, .int r_37), (0, .ref h_this), (1, .int l1), (2, .int l2_12), (3, .int l3_12)]) hx hb dX9_mostLeftAt_53 hl (by decide) rfl (fun ls hl => ?_)
        refine lv_aload_n hx hb dX9_mostLeftAt_55 rfl (lv_at hl 2 rfl) ?_
        refine va_get (D := (dC, dI)) (ci := 9) (v := .ref h_this_tally) (C := RX9) (T := TX9) (N := 6) hx hb hts in_X9_mostLeftAt_X9 hown hK hP 0 rfl rfl 2 (by decide) (hts _ m_X9_mostLeftAt_f18) (fun _ h9 => h9) rfl dX9_mostLeftAt_56 ?_
        refine lv_iload hx hb dX9_mostLeftAt_59 (lv_at hl 1 rfl) ?_
        refine lv_iload hx hb dX9_mostLeftAt_61 (lv_at hl 0 rfl) ?_
        obtain ⟨c_tally_63, hv_63, hf⟩ := bd1_some hf
        refine kWv (rSN (host := "WovenRows") [.ref h_this_tally, .int r_37, .int (r_48 + 1)] [] S (c_X10_put l dC dI cI cJ cZ h_this_tally H.size 18 c_tally_12 r_37 (r_48 + 1) c_tally_63 hv_63) ⟨va_cnB 3 hts gX9_mostLeftAt_X10_put_n55 rfl rfl rfl (hN.m 24 rfl) (hts _ m_X9_mostLeftAt_iX10) (by decide +kernel) ⟨Nat.le_of_ble_eq_true rfl, Nat.le_of_ble_eq_true rfl⟩, hts _ m_X9_mostLeftAt_st_X10_put, trivial⟩ hP hD hK hN [3] rfl (by decide +kernel) rfl hl.1 rfl (Nat.le_of_ble_eq_true rfl) dX9_mostLeftAt_63 ⟨Nat.le_of_ble_eq_true rfl, Nat.le_of_ble_eq_true rfl⟩) hP hD hS hA [3] rfl rfl [none, none, none, some 0] (by decide +kernel) rfl (fun H locs hP hD hS => ?_)
        have hP : va_P (dC, dI) vwCl (w_X9_mostLeftAt cI cJ cZ h_this h_this_rowOf h_this_startOf h_this_tally c_count c_memberBits c_lateBits c_rowOf c_startOf c_tally_63) H := hP
        have hD : va_D A (w_X9_mostLeftAt cI cJ cZ h_this h_this_rowOf h_this_startOf h_this_tally c_count c_memberBits c_lateBits c_rowOf c_startOf c_tally_63) := hD
        refine lv_iload_n hx hb dX9_mostLeftAt_66 rfl (lv_at hl 4 rfl) ?_
        refine lv_iload hx hb dX9_mostLeftAt_67 (lv_at hl 0 rfl) ?_
        refine va_mmax hx hb (hml.trans hl.1.symm) hown (hts _ m_X9_mostLeftAt_ml80) (hts _ m_X9_mostLeftAt_st_max) (hts _ m_X9_mostLeftAt_iM) (hts _ m_X9_mostLeftAt_co_max) (Nat.le_of_ble_eq_true rfl) (Nat.le_of_ble_eq_true rfl) (Nat.le_of_ble_eq_true rfl) (Nat.le_of_ble_eq_true rfl) dX9_mostLeftAt_69 ?_
        obtain ⟨l2_72s, e_l2_72s, hf⟩ := nmv_some hf
        refine tpi e_l2_72s ?_
        refine lv_istore_n (lv' := [(2, .int l2_72s), (5, .int (r_48 + 1)), (4, .int r_37), (0, .ref h_this), (1, .int l1), (3, .int l3_12)]) hx hb dX9_mostLeftAt_72 rfl hl (by decide) rfl (fun ls hl => ?_)
        refine lv_iinc (v := (l3_12 + 1)) (lv' := [(3, .int (l3_12 + 1)), (2, .int l2_72s), (5, .int (r_48 + 1)), (4, .int r_37), (0, .ref h_this), (1, .int l1)]) hx hb dX9_mostLeftAt_73 hl (k := 5) rfl rfl (by decide) rfl (fun ls hl => ?_)
        refine lv_goto (tgt := 12) hx hb dX9_mostLeftAt_76 (by decide) ?_
        exact ih_12 l2_72s (l3_12 + 1) c_tally_63 H locs ls hP hD hS (lv_sub hl [4, 5, 1, 0] rfl) (ho1_12 _ (Option.some.inj hf).symm)
  exact L_12 FU 0 0 c_tally_5 H locs ls hP hD hS (lv_sub hl [2, 3, 1, 0] rfl) hq_12
abbrev w_X2_weigh (cI cJ cZ : ClassId) (h_this h_this_weights : Nat) (c_upper : Int64) (c_lower : Int64) (c_weights : Nat → Int64) : va_W := [(h_this, .inr (2, [.ref h_this_weights, .long c_upper, .long c_lower])), (h_this_weights, .inl (cJ, 13, .inr (.inl c_weights)))]
abbrev rm_X2_weigh : Room := { frames := 0, cells := 0, slots := 0, locals := 0 }
theorem m_X2_weigh_f9 : (.fieldLink RX2 9 "WovenRows$Odds" "weights" "[J" : Cond) ∈ wsX2_weigh := by decide +kernel
theorem in_X2_weigh_X2 : ∀ w ∈ u_ws RX2 TX2 3, w ∈ wsX2_weigh := by decide +kernel
set_option maxRecDepth 100000 in
set_option maxHeartbeats 4000000 in
theorem c_X2_weigh (l : Launch) (dC : Nat → ClassId) (dI : Nat → Nat → Nat) (cI cJ cZ : ClassId) (h_this h_this_weights : Nat) (sz : Nat) (c_upper : Int64) (c_lower : Int64) (c_weights : Nat → Int64) (l1 : Int32) (l2 : Int32) (z_weights : Nat → Int64) (hf : f_X2_weigh c_weights l1 l2 = some z_weights) : Met l yX2_weigh wsX2_weigh rm_X2_weigh (va_Pc [.ref h_this, .int l1, .int l2] (PRE (dC, dI) (TY cI cJ cZ) sz (w_X2_weigh cI cJ cZ h_this h_this_weights c_upper c_lower c_weights))) (va_Qv (fun _ : Unit => True) (POW (dC, dI) (va_A (w_X2_weigh cI cJ cZ h_this h_this_weights c_upper c_lower c_weights) sz) (w_X2_weigh cI cJ cZ h_this h_this_weights c_upper c_lower z_weights)) (va_A (w_X2_weigh cI cJ cZ h_this h_this_weights c_upper c_lower c_weights) sz)) 0 0 (va_A (w_X2_weigh cI cJ cZ h_this h_this_weights c_upper c_lower c_weights) sz) := by
  refine ofWv (by decide +kernel) rfl (Nat.le_of_ble_eq_true rfl) ?_
  intro p e s m args below meth c Z A ls S hP hD hK hN hA hl hret
  obtain ⟨hx, hb, hml, hown, hts⟩ := id S
  have hown : s.vm.findClass RX2 = some m.cls := hown
  have hS : va_S A s.heap s.heap [] := va_S.rf
  have hl : lv_has ls 7 [(0, .ref h_this), (1, .int l1), (2, .int l2)] := hl
  unfold f_X2_weigh at hf
  refine lv_iconst (v := 0) hx hb dX2_weigh_0 (by decide) ?_
  refine lv_istore_n (lv' := [(3, .int 0), (0, .ref h_this), (1, .int l1), (2, .int l2)]) hx hb dX2_weigh_1 rfl hl (by decide) rfl (fun ls hl => ?_)
  obtain ⟨l3_2x, c_weights_2x, hq_2, hf⟩ := bd2_some hf
  have K_2 : ∀ (H : Heap) (locs : List Loc) (ls : Array Slot), va_P (dC, dI) vwCl (w_X2_weigh cI cJ cZ h_this h_this_weights c_upper c_lower c_weights_2x) H → va_D A (w_X2_weigh cI cJ cZ h_this h_this_weights c_upper c_lower c_weights_2x) → va_S A s.heap H locs → lv_has ls 7 [(0, .ref h_this), (1, .int l1), (2, .int l2)] → W p l e rm_X2_weigh s m args below meth c H locs 0 0 Z (F0 m 32 ls []) := by
    intro H locs ls hP hD hS hl
    refine lv_iconst (v := 0) hx hb dX2_weigh_32 (by decide) ?_
    refine lv_istore_n (lv' := [(3, .int 0), (0, .ref h_this), (1, .int l1), (2, .int l2)]) hx hb dX2_weigh_33 rfl hl (by decide) rfl (fun ls hl => ?_)
    obtain ⟨l3_34x, c_weights_34x, hq_34, hf⟩ := bd2_some hf
    have K_34 : ∀ (H : Heap) (locs : List Loc) (ls : Array Slot), va_P (dC, dI) vwCl (w_X2_weigh cI cJ cZ h_this h_this_weights c_upper c_lower c_weights_34x) H → va_D A (w_X2_weigh cI cJ cZ h_this h_this_weights c_upper c_lower c_weights_34x) → va_S A s.heap H locs → lv_has ls 7 [] → W p l e rm_X2_weigh s m args below meth c H locs 0 0 Z (F0 m 111 ls []) := by
      intro H locs ls hP hD hS hl
      have e_f := Option.some.inj hf
      cases e_f
      exact hret hP hD hS dX2_weigh_111
    have L_34 : ∀ (n : Nat) (l3_34 : Int32) (c_weights_34 : Nat → Int64) (H : Heap) (locs : List Loc) (ls : Array Slot), va_P (dC, dI) vwCl (w_X2_weigh cI cJ cZ h_this h_this_weights c_upper c_lower c_weights_34) H → va_D A (w_X2_weigh cI cJ cZ h_this h_this_weights c_upper c_lower c_weights_34) → va_S A s.heap H locs → lv_has ls 7 [(0, .ref h_this), (1, .int l1), (2, .int l2), (3, .int l3_34)] → loopN (fun (q : Int32 × (Nat → Int64)) => f_X2_weigh_b34 l1 l2 q.1 q.2) n (l3_34, c_weights_34) = some (l3_34x, c_weights_34x) → W p l e rm_X2_weigh s m args below meth c H locs 0 0 Z (F0 m 34 ls []) := by
      intro n
      induction n with
      | zero => intro l3_34 c_weights_34 H locs ls hP hD hS hl hq; exact (loopN_zero hq).elim
      | succ n ih_34 =>
        intro l3_34 c_weights_34 H locs ls hP hD hS hl hq
        obtain ⟨o_34, hf, ho1_34, ho2_34⟩ := loopN_step hq
        have hf : f_X2_weigh_b34 l1 l2 l3_34 c_weights_34 = some o_34 := hf
        unfold f_X2_weigh_b34 at hf
        refine lv_iload_n hx hb dX2_weigh_34 rfl (lv_at hl 3 rfl) ?_
        refine lv_iload_n hx hb dX2_weigh_35 rfl (lv_at hl 1 rfl) ?_
        refine lv_icmp_ge (tgt := 111) hx hb dX2_weigh_36 (by decide) (fun k_36 => ?_) (fun k_36 => ?_)
        · have hf := ite_t hf k_36
          have e_34 := ho2_34 _ (Option.some.inj hf).symm
          cases e_34
          exact K_34 H locs ls hP hD hS (lv_sub hl [] rfl)
        · have hf := ite_f hf k_36
          refine lv_aload_n hx hb dX2_weigh_39 rfl (lv_at hl 0 rfl) ?_
          refine va_get (D := (dC, dI)) (ci := 2) (v := .ref h_this_weights) (C := RX2) (T := TX2) (N := 3) hx hb hts in_X2_weigh_X2 hown hK hP 0 rfl rfl 0 (by decide) (hts _ m_X2_weigh_f9) (fun _ h9 => h9) rfl dX2_weigh_40 ?_
          refine va_alen (v := 13) hx hb hK hP 1 1 rfl rfl rfl dX2_weigh_43 ?_
          refine lv_iconst (v := 1) hx hb dX2_weigh_44 (by decide) ?_
          refine lv_isub hx hb dX2_weigh_45 ?_
          refine lv_istore (lv' := [(4, .int (13 - 1)), (0, .ref h_this), (1, .int l1), (2, .int l2), (3, .int l3_34)]) hx hb dX2_weigh_46 hl (by decide) rfl (fun ls hl => ?_)
          obtain ⟨l4_48x, c_weights_48x, hq_48, hf⟩ := bd2_some hf
          have K_48 : ∀ (H : Heap) (locs : List Loc) (ls : Array Slot), va_P (dC, dI) vwCl (w_X2_weigh cI cJ cZ h_this h_this_weights c_upper c_lower c_weights_48x) H → va_D A (w_X2_weigh cI cJ cZ h_this h_this_weights c_upper c_lower c_weights_48x) → va_S A s.heap H locs → lv_has ls 7 [(0, .ref h_this), (1, .int l1), (2, .int l2), (3, .int l3_34)] → W p l e rm_X2_weigh s m args below meth c H locs 0 0 Z (F0 m 105 ls []) := by
            intro H locs ls hP hD hS hl
            refine lv_iinc (v := (l3_34 + 1)) (lv' := [(3, .int (l3_34 + 1)), (0, .ref h_this), (1, .int l1), (2, .int l2)]) hx hb dX2_weigh_105 hl (k := 3) rfl rfl (by decide) rfl (fun ls hl => ?_)
            refine lv_goto (tgt := 34) hx hb dX2_weigh_108 (by decide) ?_
            exact ih_34 (l3_34 + 1) c_weights_48x H locs ls hP hD hS (lv_sub hl [1, 2, 3, 0] rfl) (ho1_34 _ (Option.some.inj hf).symm)
          have L_48 : ∀ (n : Nat) (l4_48 : Int32) (c_weights_48 : Nat → Int64) (H : Heap) (locs : List Loc) (ls : Array Slot), va_P (dC, dI) vwCl (w_X2_weigh cI cJ cZ h_this h_this_weights c_upper c_lower c_weights_48) H → va_D A (w_X2_weigh cI cJ cZ h_this h_this_weights c_upper c_lower c_weights_48) → va_S A s.heap H locs → lv_has ls 7 [(0, .ref h_this), (1, .int l1), (2, .int l2), (3, .int l3_34), (4, .int l4_48)] → loopN (fun (q : Int32 × (Nat → Int64)) => f_X2_weigh_b48 l2 q.1 q.2) n (l4_48, c_weights_48) = some (l4_48x, c_weights_48x) → W p l e rm_X2_weigh s m args below meth c H locs 0 0 Z (F0 m 48 ls []) := by
            intro n
            induction n with
            | zero => intro l4_48 c_weights_48 H locs ls hP hD hS hl hq; exact (loopN_zero hq).elim
            | succ n ih_48 =>
              intro l4_48 c_weights_48 H locs ls hP hD hS hl hq
              obtain ⟨o_48, hf, ho1_48, ho2_48⟩ := loopN_step hq
              have hf : f_X2_weigh_b48 l2 l4_48 c_weights_48 = some o_48 := hf
              unfold f_X2_weigh_b48 at hf
              have J_71 : ∀ (l4_71j : Int32) (s0_71j : Int64) (c_weights_71j : Nat → Int64) (H : Heap) (locs : List Loc) (ls : Array Slot), va_P (dC, dI) vwCl (w_X2_weigh cI cJ cZ h_this h_this_weights c_upper c_lower c_weights_71j) H → va_D A (w_X2_weigh cI cJ cZ h_this h_this_weights c_upper c_lower c_weights_71j) → va_S A s.heap H locs → lv_has ls 7 [(0, .ref h_this), (1, .int l1), (2, .int l2), (3, .int l3_34), (4, .int l4_71j)] → f_X2_weigh_j71 l2 l4_71j c_weights_71j s0_71j = some o_48 → W p l e rm_X2_weigh s m args below meth c H locs 0 0 Z (F0 m 71 ls [.long s0_71j]) := by
                intro l4_71j s0_71j c_weights_71j H locs ls hP hD hS hl hf
                unfold f_X2_weigh_j71 at hf
                refine lv_lstore (lv' := [(5, .long s0_71j), (0, .ref h_this), (1, .int l1), (2, .int l2), (3, .int l3_34), (4, .int l4_71j)]) hx hb dX2_weigh_71 hl (by decide) rfl (fun ls hl => ?_)
                refine lv_aload_n hx hb dX2_weigh_73 rfl (lv_at hl 1 rfl) ?_
                refine va_get (D := (dC, dI)) (ci := 2) (v := .ref h_this_weights) (C := RX2) (T := TX2) (N := 3) hx hb hts in_X2_weigh_X2 hown hK hP 0 rfl rfl 0 (by decide) (hts _ m_X2_weigh_f9) (fun _ h9 => h9) rfl dX2_weigh_74 ?_
                refine lv_iload hx hb dX2_weigh_77 (lv_at hl 5 rfl) ?_
                refine lv_aload_n hx hb dX2_weigh_79 rfl (lv_at hl 1 rfl) ?_
                refine va_get (D := (dC, dI)) (ci := 2) (v := .ref h_this_weights) (C := RX2) (T := TX2) (N := 3) hx hb hts in_X2_weigh_X2 hown hK hP 0 rfl rfl 0 (by decide) (hts _ m_X2_weigh_f9) (fun _ h9 => h9) rfl dX2_weigh_80 ?_
                refine lv_iload hx hb dX2_weigh_83 (lv_at hl 5 rfl) ?_
                obtain ⟨g_85, hf⟩ := gd_some hf
                refine va_lald hx hb hK hP 1 1 rfl rfl g_85 dX2_weigh_85 ?_
                refine lv_iload_n hx hb dX2_weigh_86 rfl (lv_at hl 3 rfl) ?_
                refine lv_i2l hx hb dX2_weigh_87 rfl ?_
                refine lv_lmul hx hb dX2_weigh_88 ?_
                refine lv_lload hx hb dX2_weigh_89 (lv_at hl 0 rfl) ?_
                refine lv_bipush (v := 10) hx hb dX2_weigh_91 (by decide) ?_
                refine lv_iload_n hx hb dX2_weigh_93 rfl (lv_at hl 3 rfl) ?_
                refine lv_isub hx hb dX2_weigh_94 ?_
                refine lv_i2l hx hb dX2_weigh_95 rfl ?_
                refine lv_lmul hx hb dX2_weigh_96 ?_
                refine lv_ladd hx hb dX2_weigh_97 ?_
                obtain ⟨g_98, hf⟩ := gd_some hf
                refine va_last hx hb hK hP hD hS 1 1 rfl rfl g_98 dX2_weigh_98 (fun H locs hP hD hS => ?_)
                have hP : va_P (dC, dI) vwCl (w_X2_weigh cI cJ cZ h_this h_this_weights c_upper c_lower (vp_updL c_weights_71j (Int32.toNatClampNeg l4_71j) (((c_weights_71j (Int32.toNatClampNeg l4_71j)) * (Int32.toInt64 l2)) + (s0_71j * (Int32.toInt64 (10 - l2)))))) H := hP
                have hD : va_D A (w_X2_weigh cI cJ cZ h_this h_this_weights c_upper c_lower (vp_updL c_weights_71j (Int32.toNatClampNeg l4_71j) (((c_weights_71j (Int32.toNatClampNeg l4_71j)) * (Int32.toInt64 l2)) + (s0_71j * (Int32.toInt64 (10 - l2)))))) := hD
                refine lv_iinc (v := (l4_71j + (-1))) (lv' := [(4, .int (l4_71j + (-1))), (5, .long s0_71j), (0, .ref h_this), (1, .int l1), (2, .int l2), (3, .int l3_34)]) hx hb dX2_weigh_99 hl (k := 5) rfl rfl (by decide) rfl (fun ls hl => ?_)
                refine lv_goto (tgt := 48) hx hb dX2_weigh_102 (by decide) ?_
                exact ih_48 (l4_71j + (-1)) (vp_updL c_weights_71j (Int32.toNatClampNeg l4_71j) (((c_weights_71j (Int32.toNatClampNeg l4_71j)) * (Int32.toInt64 l2)) + (s0_71j * (Int32.toInt64 (10 - l2))))) H locs ls hP hD hS (lv_sub hl [2, 3, 4, 5, 0] rfl) (ho1_48 _ (Option.some.inj hf).symm)
              refine lv_iload hx hb dX2_weigh_48 (lv_at hl 4 rfl) ?_
              refine lv_if_lt (tgt := 105) hx hb dX2_weigh_50 (by decide) (fun k_50 => ?_) (fun k_50 => ?_)
              · have hf := ite_t hf k_50
                have e_48 := ho2_48 _ (Option.some.inj hf).symm
                cases e_48
                exact K_48 H locs ls hP hD hS (lv_sub hl [0, 1, 2, 3] rfl)
              · have hf := ite_f hf k_50
                refine lv_iload hx hb dX2_weigh_53 (lv_at hl 4 rfl) ?_
                refine lv_if_le (tgt := 70) hx hb dX2_weigh_55 (by decide) (fun k_55 => ?_) (fun k_55 => ?_)
                · have hf := ite_t hf k_55
                  refine lv_lconst (v := 0) hx hb dX2_weigh_70 (by decide) ?_
                  exact J_71 l4_48 0 c_weights_48 H locs ls hP hD hS (lv_sub hl [0, 1, 2, 3, 4] rfl) hf
                · have hf := ite_f hf k_55
                  refine lv_aload_n hx hb dX2_weigh_58 rfl (lv_at hl 0 rfl) ?_
                  refine va_get (D := (dC, dI)) (ci := 2) (v := .ref h_this_weights) (C := RX2) (T := TX2) (N := 3) hx hb hts in_X2_weigh_X2 hown hK hP 0 rfl rfl 0 (by decide) (hts _ m_X2_weigh_f9) (fun _ h9 => h9) rfl dX2_weigh_59 ?_
                  refine lv_iload hx hb dX2_weigh_62 (lv_at hl 4 rfl) ?_
                  refine lv_iconst (v := 1) hx hb dX2_weigh_64 (by decide) ?_
                  refine lv_isub hx hb dX2_weigh_65 ?_
                  obtain ⟨g_66, hf⟩ := gd_some hf
                  refine va_lald hx hb hK hP 1 1 rfl rfl g_66 dX2_weigh_66 ?_
                  refine lv_goto (tgt := 71) hx hb dX2_weigh_67 (by decide) ?_
                  exact J_71 l4_48 (c_weights_48 (Int32.toNatClampNeg (l4_48 - 1))) c_weights_48 H locs ls hP hD hS (lv_sub hl [0, 1, 2, 3, 4] rfl) hf
          exact L_48 FU (13 - 1) c_weights_34 H locs ls hP hD hS (lv_sub hl [1, 2, 3, 4, 0] rfl) hq_48
    exact L_34 FU 0 c_weights_2x H locs ls hP hD hS (lv_sub hl [1, 2, 3, 0] rfl) hq_34
  have L_2 : ∀ (n : Nat) (l3_2 : Int32) (c_weights_2 : Nat → Int64) (H : Heap) (locs : List Loc) (ls : Array Slot), va_P (dC, dI) vwCl (w_X2_weigh cI cJ cZ h_this h_this_weights c_upper c_lower c_weights_2) H → va_D A (w_X2_weigh cI cJ cZ h_this h_this_weights c_upper c_lower c_weights_2) → va_S A s.heap H locs → lv_has ls 7 [(0, .ref h_this), (1, .int l1), (2, .int l2), (3, .int l3_2)] → loopN (fun (q : Int32 × (Nat → Int64)) => f_X2_weigh_b2 q.1 q.2) n (l3_2, c_weights_2) = some (l3_2x, c_weights_2x) → W p l e rm_X2_weigh s m args below meth c H locs 0 0 Z (F0 m 2 ls []) := by
    intro n
    induction n with
    | zero => intro l3_2 c_weights_2 H locs ls hP hD hS hl hq; exact (loopN_zero hq).elim
    | succ n ih_2 =>
      intro l3_2 c_weights_2 H locs ls hP hD hS hl hq
      obtain ⟨o_2, hf, ho1_2, ho2_2⟩ := loopN_step hq
      have hf : f_X2_weigh_b2 l3_2 c_weights_2 = some o_2 := hf
      unfold f_X2_weigh_b2 at hf
      have J_25 : ∀ (l3_25j : Int32) (s1_25j : Int32) (s2_25j : Int64) (c_weights_25j : Nat → Int64) (H : Heap) (locs : List Loc) (ls : Array Slot), va_P (dC, dI) vwCl (w_X2_weigh cI cJ cZ h_this h_this_weights c_upper c_lower c_weights_25j) H → va_D A (w_X2_weigh cI cJ cZ h_this h_this_weights c_upper c_lower c_weights_25j) → va_S A s.heap H locs → lv_has ls 7 [(0, .ref h_this), (1, .int l1), (2, .int l2), (3, .int l3_25j)] → f_X2_weigh_j25 l3_25j c_weights_25j s1_25j s2_25j = some o_2 → W p l e rm_X2_weigh s m args below meth c H locs 0 0 Z (F0 m 25 ls [.long s2_25j, .int s1_25j, .ref h_this_weights]) := by
        intro l3_25j s1_25j s2_25j c_weights_25j H locs ls hP hD hS hl hf
        unfold f_X2_weigh_j25 at hf
        obtain ⟨g_25, hf⟩ := gd_some hf
        refine va_last hx hb hK hP hD hS 1 1 rfl rfl g_25 dX2_weigh_25 (fun H locs hP hD hS => ?_)
        have hP : va_P (dC, dI) vwCl (w_X2_weigh cI cJ cZ h_this h_this_weights c_upper c_lower (vp_updL c_weights_25j (Int32.toNatClampNeg s1_25j) s2_25j)) H := hP
        have hD : va_D A (w_X2_weigh cI cJ cZ h_this h_this_weights c_upper c_lower (vp_updL c_weights_25j (Int32.toNatClampNeg s1_25j) s2_25j)) := hD
        refine lv_iinc (v := (l3_25j + 1)) (lv' := [(3, .int (l3_25j + 1)), (0, .ref h_this), (1, .int l1), (2, .int l2)]) hx hb dX2_weigh_26 hl (k := 3) rfl rfl (by decide) rfl (fun ls hl => ?_)
        refine lv_goto (tgt := 2) hx hb dX2_weigh_29 (by decide) ?_
        exact ih_2 (l3_25j + 1) (vp_updL c_weights_25j (Int32.toNatClampNeg s1_25j) s2_25j) H locs ls hP hD hS (lv_sub hl [1, 2, 3, 0] rfl) (ho1_2 _ (Option.some.inj hf).symm)
      refine lv_iload_n hx hb dX2_weigh_2 rfl (lv_at hl 3 rfl) ?_
      refine lv_aload_n hx hb dX2_weigh_3 rfl (lv_at hl 0 rfl) ?_
      refine va_get (D := (dC, dI)) (ci := 2) (v := .ref h_this_weights) (C := RX2) (T := TX2) (N := 3) hx hb hts in_X2_weigh_X2 hown hK hP 0 rfl rfl 0 (by decide) (hts _ m_X2_weigh_f9) (fun _ h9 => h9) rfl dX2_weigh_4 ?_
      refine va_alen (v := 13) hx hb hK hP 1 1 rfl rfl rfl dX2_weigh_7 ?_
      refine lv_icmp_ge (tgt := 32) hx hb dX2_weigh_8 (by decide) (fun k_8 => ?_) (fun k_8 => ?_)
      · have hf := ite_t hf k_8
        have e_2 := ho2_2 _ (Option.some.inj hf).symm
        cases e_2
        exact K_2 H locs ls hP hD hS (lv_sub hl [0, 1, 2] rfl)
      · have hf := ite_f hf k_8
        refine lv_aload_n hx hb dX2_weigh_11 rfl (lv_at hl 0 rfl) ?_
        refine va_get (D := (dC, dI)) (ci := 2) (v := .ref h_this_weights) (C := RX2) (T := TX2) (N := 3) hx hb hts in_X2_weigh_X2 hown hK hP 0 rfl rfl 0 (by decide) (hts _ m_X2_weigh_f9) (fun _ h9 => h9) rfl dX2_weigh_12 ?_
        refine lv_iload_n hx hb dX2_weigh_15 rfl (lv_at hl 3 rfl) ?_
        refine lv_iload_n hx hb dX2_weigh_16 rfl (lv_at hl 3 rfl) ?_
        refine lv_if_ne (tgt := 24) hx hb dX2_weigh_17 (by decide) (fun k_17 => ?_) (fun k_17 => ?_)
        · have hf := ite_f hf k_17
          refine lv_lconst (v := 0) hx hb dX2_weigh_24 (by decide) ?_
          exact J_25 l3_2 l3_2 0 c_weights_2 H locs ls hP hD hS (lv_sub hl [0, 1, 2, 3] rfl) hf
        · have hf := ite_t hf k_17
          refine lv_lconst (v := 1) hx hb dX2_weigh_20 (by decide) ?_
          refine lv_goto (tgt := 25) hx hb dX2_weigh_21 (by decide) ?_
          exact J_25 l3_2 l3_2 1 c_weights_2 H locs ls hP hD hS (lv_sub hl [0, 1, 2, 3] rfl) hf
  exact L_2 FU 0 c_weights s.heap [] ls hP hD hS (lv_sub hl [1, 2, 3, 0] rfl) hq_2
abbrev w_X2_commonDivisor : va_W := []
abbrev rm_X2_commonDivisor : Room := { frames := 0, cells := 0, slots := 0, locals := 0 }
set_option maxRecDepth 100000 in
set_option maxHeartbeats 4000000 in
theorem c_X2_commonDivisor (l : Launch) (dC : Nat → ClassId) (dI : Nat → Nat → Nat) (cI cJ cZ : ClassId) (sz : Nat) (l0 : Int64) (l2 : Int64) (r : Int64) (hf : f_X2_commonDivisor l0 l2 = some r) : Met l yX2_commonDivisor wsX2_commonDivisor rm_X2_commonDivisor (va_Pc [.long l0, .long l2] (PRE (dC, dI) (TY cI cJ cZ) sz w_X2_commonDivisor)) (vp_Sl (fun r' => r' = r)) 0 0 (fun _ => False) := by
  refine ofSl (by decide +kernel) rfl (Nat.le_of_ble_eq_true rfl) ?_
  intro p e s m args below meth c Z ls S hP hD hK hN hl hret
  obtain ⟨hx, hb, hml, hown, hts⟩ := id S
  have hown : s.vm.findClass RX2 = some m.cls := hown
  have hl : lv_has ls 11 [(0, .long l0), (2, .long l2)] := hl
  unfold f_X2_commonDivisor at hf
  refine lv_lload_n hx hb dX2_commonDivisor_0 rfl (lv_at hl 0 rfl) ?_
  refine lv_lstore (lv' := [(4, .long l0), (0, .long l0), (2, .long l2)]) hx hb dX2_commonDivisor_1 hl (by decide) rfl (fun ls hl => ?_)
  refine lv_lload_n hx hb dX2_commonDivisor_3 rfl (lv_at hl 2 rfl) ?_
  refine lv_lstore (lv' := [(6, .long l2), (4, .long l0), (0, .long l0), (2, .long l2)]) hx hb dX2_commonDivisor_4 hl (by decide) rfl (fun ls hl => ?_)
  refine lv_iconst (v := 0) hx hb dX2_commonDivisor_6 (by decide) ?_
  refine lv_istore (lv' := [(8, .int 0), (6, .long l2), (4, .long l0), (0, .long l0), (2, .long l2)]) hx hb dX2_commonDivisor_7 hl (by decide) rfl (fun ls hl => ?_)
  obtain ⟨l4_9x, l6_9x, l8_9x, hq_9, hf⟩ := bd3_some hf
  have K_9 : ∀ (ls : Array Slot), lv_has ls 11 [(4, .long l4_9x)] → W p l e rm_X2_commonDivisor s m args below meth c s.heap [] 0 0 Z (F0 m 45 ls []) := by
    intro ls hl
    refine lv_lload hx hb dX2_commonDivisor_45 (lv_at hl 0 rfl) ?_
    have e_f := Option.some.inj hf
    cases e_f
    exact hret dX2_commonDivisor_47
  have L_9 : ∀ (n : Nat) (l4_9 : Int64) (l6_9 : Int64) (l8_9 : Int32) (ls : Array Slot), lv_has ls 11 [(4, .long l4_9), (6, .long l6_9), (8, .int l8_9)] → loopN (fun (q : Int64 × Int64 × Int32) => f_X2_commonDivisor_b9 q.1 q.2.1 q.2.2) n (l4_9, l6_9, l8_9) = some (l4_9x, l6_9x, l8_9x) → W p l e rm_X2_commonDivisor s m args below meth c s.heap [] 0 0 Z (F0 m 9 ls []) := by
    intro n
    induction n with
    | zero => intro l4_9 l6_9 l8_9 ls hl hq; exact (loopN_zero hq).elim
    | succ n ih_9 =>
      intro l4_9 l6_9 l8_9 ls hl hq
      obtain ⟨o_9, hf, ho1_9, ho2_9⟩ := loopN_step hq
      have hf : f_X2_commonDivisor_b9 l4_9 l6_9 l8_9 = some o_9 := hf
      unfold f_X2_commonDivisor_b9 at hf
      refine lv_iload hx hb dX2_commonDivisor_9 (lv_at hl 2 rfl) ?_
      refine lv_sipush (v := 200) hx hb dX2_commonDivisor_11 (by decide) ?_
      refine lv_icmp_ge (tgt := 45) hx hb dX2_commonDivisor_14 (by decide) (fun k_14 => ?_) (fun k_14 => ?_)
      · have hf := ite_t hf k_14
        have e_9 := ho2_9 _ (Option.some.inj hf).symm
        cases e_9
        exact K_9 ls (lv_sub hl [0] rfl)
      · have hf := ite_f hf k_14
        refine lv_lload hx hb dX2_commonDivisor_17 (lv_at hl 1 rfl) ?_
        refine lv_lconst (v := 0) hx hb dX2_commonDivisor_19 (by decide) ?_
        refine W.lcmp hx hb dX2_commonDivisor_20 ?_
        refine lv_if_eq (tgt := 45) hx hb dX2_commonDivisor_21 (by decide) (fun k_21 => ?_) (fun k_21 => ?_)
        · have hf := ite_t hf k_21
          have e_9 := ho2_9 _ (Option.some.inj hf).symm
          cases e_9
          exact K_9 ls (lv_sub hl [0] rfl)
        · have hf := ite_f hf k_21
          refine lv_lload hx hb dX2_commonDivisor_24 (lv_at hl 0 rfl) ?_
          refine lv_lload hx hb dX2_commonDivisor_26 (lv_at hl 1 rfl) ?_
          obtain ⟨g_28, hf⟩ := nzl_some hf
          refine lv_lrem hx hb dX2_commonDivisor_28 g_28 ?_
          refine lv_lstore (lv' := [(9, .long (l4_9 - (l4_9 / l6_9) * l6_9)), (4, .long l4_9), (6, .long l6_9), (8, .int l8_9)]) hx hb dX2_commonDivisor_29 hl (by decide) rfl (fun ls hl => ?_)
          refine lv_lload hx hb dX2_commonDivisor_31 (lv_at hl 2 rfl) ?_
          refine lv_lstore (lv' := [(4, .long l6_9), (9, .long (l4_9 - (l4_9 / l6_9) * l6_9)), (6, .long l6_9), (8, .int l8_9)]) hx hb dX2_commonDivisor_33 hl (by decide) rfl (fun ls hl => ?_)
          refine lv_lload hx hb dX2_commonDivisor_35 (lv_at hl 1 rfl) ?_
          refine lv_lstore (lv' := [(6, .long (l4_9 - (l4_9 / l6_9) * l6_9)), (4, .long l6_9), (9, .long (l4_9 - (l4_9 / l6_9) * l6_9)), (8, .int l8_9)]) hx hb dX2_commonDivisor_37 hl (by decide) rfl (fun ls hl => ?_)
          refine lv_iinc (v := (l8_9 + 1)) (lv' := [(8, .int (l8_9 + 1)), (6, .long (l4_9 - (l4_9 / l6_9) * l6_9)), (4, .long l6_9), (9, .long (l4_9 - (l4_9 / l6_9) * l6_9))]) hx hb dX2_commonDivisor_39 hl (k := 3) rfl rfl (by decide) rfl (fun ls hl => ?_)
          refine lv_goto (tgt := 9) hx hb dX2_commonDivisor_42 (by decide) ?_
          exact ih_9 l6_9 (l4_9 - (l4_9 / l6_9) * l6_9) (l8_9 + 1) ls (lv_sub hl [2, 1, 0] rfl) (ho1_9 _ (Option.some.inj hf).symm)
  exact L_9 FU l0 l2 0 ls (lv_sub hl [2, 1, 0] rfl) hq_9
abbrev w_X2_reckon (cI cJ cZ : ClassId) (h_this h_this_weights : Nat) (c_upper : Int64) (c_lower : Int64) (c_weights : Nat → Int64) : va_W := [(h_this, .inr (2, [.ref h_this_weights, .long c_upper, .long c_lower])), (h_this_weights, .inl (cJ, 13, .inr (.inl c_weights)))]
abbrev rm_X2_reckon : Room := { frames := 1, cells := 0, slots := 0, locals := 30 }
theorem m_X2_reckon_f19 : (.fieldLink RX2 19 "WovenRows$Odds" "lower" "J" : Cond) ∈ wsX2_reckon := by decide +kernel
theorem in_X2_reckon_X2 : ∀ w ∈ u_ws RX2 TX2 3, w ∈ wsX2_reckon := by decide +kernel
theorem m_X2_reckon_f15 : (.fieldLink RX2 15 "WovenRows$Odds" "upper" "J" : Cond) ∈ wsX2_reckon := by decide +kernel
theorem m_X2_reckon_f9 : (.fieldLink RX2 9 "WovenRows$Odds" "weights" "[J" : Cond) ∈ wsX2_reckon := by decide +kernel
theorem m_X2_reckon_k26 : (.constantLong RX2 26 (10) : Cond) ∈ wsX2_reckon := by decide +kernel
set_option maxRecDepth 100000 in
set_option maxHeartbeats 4000000 in
theorem c_X2_reckon (l : Launch) (dC : Nat → ClassId) (dI : Nat → Nat → Nat) (cI cJ cZ : ClassId) (h_this h_this_weights : Nat) (sz : Nat) (c_upper : Int64) (c_lower : Int64) (c_weights : Nat → Int64) (l1 : Int32) (l2 : Int32) (l3 : Int32) (z_upper : Int64) (z_lower : Int64) (z_weights : Nat → Int64) (hf : f_X2_reckon c_weights l1 l2 l3 = some (z_upper, z_lower, z_weights)) : Met l yX2_reckon wsX2_reckon rm_X2_reckon (va_Pc [.ref h_this, .int l1, .int l2, .int l3] (PRE (dC, dI) (TY cI cJ cZ) sz (w_X2_reckon cI cJ cZ h_this h_this_weights c_upper c_lower c_weights))) (va_Qv (fun _ : Unit => True) (POW (dC, dI) (va_A (w_X2_reckon cI cJ cZ h_this h_this_weights c_upper c_lower c_weights) sz) (w_X2_reckon cI cJ cZ h_this h_this_weights z_upper z_lower z_weights)) (va_A (w_X2_reckon cI cJ cZ h_this h_this_weights c_upper c_lower c_weights) sz)) 0 0 (va_A (w_X2_reckon cI cJ cZ h_this h_this_weights c_upper c_lower c_weights) sz) := by
  refine ofWv (by decide +kernel) rfl (Nat.le_of_ble_eq_true rfl) ?_
  intro p e s m args below meth c Z A ls S hP hD hK hN hA hl hret
  obtain ⟨hx, hb, hml, hown, hts⟩ := id S
  have hown : s.vm.findClass RX2 = some m.cls := hown
  have hS : va_S A s.heap s.heap [] := va_S.rf
  have hl : lv_has ls 10 [(0, .ref h_this), (1, .int l1), (2, .int l2), (3, .int l3)] := hl
  unfold f_X2_reckon at hf
  have J_120 : ∀ (s1_120j : Int64) (c_upper_120j : Int64) (c_lower_120j : Int64) (c_weights_120j : Nat → Int64) (H : Heap) (locs : List Loc) (ls : Array Slot), va_P (dC, dI) vwCl (w_X2_reckon cI cJ cZ h_this h_this_weights c_upper_120j c_lower_120j c_weights_120j) H → va_D A (w_X2_reckon cI cJ cZ h_this h_this_weights c_upper_120j c_lower_120j c_weights_120j) → va_S A s.heap H locs → lv_has ls 10 [] → f_X2_reckon_j120 c_upper_120j c_weights_120j s1_120j = some (z_upper, z_lower, z_weights) → W p l e rm_X2_reckon s m args below meth c H locs 0 0 Z (F0 m 120 ls [.long s1_120j, .ref h_this]) := by
    intro s1_120j c_upper_120j c_lower_120j c_weights_120j H locs ls hP hD hS hl hf
    unfold f_X2_reckon_j120 at hf
    refine va_put (D := (dC, dI)) (ci := 2) (v := .long s1_120j) (ty := .long) (C := RX2) (T := TX2) (N := 3) hx hb hts in_X2_reckon_X2 tyX2 tyX2_ok nmX2 hown hK hP hD hS 0 rfl rfl 2 (by decide) (hts _ m_X2_reckon_f19) (fun _ h9 => h9) rfl (by decide +kernel) rfl rfl (Nat.le_of_ble_eq_true rfl) dX2_reckon_120 (fun H locs hP hD hS => ?_)
    have hP : va_P (dC, dI) vwCl (w_X2_reckon cI cJ cZ h_this h_this_weights c_upper_120j s1_120j c_weights_120j) H := hP
    have hD : va_D A (w_X2_reckon cI cJ cZ h_this h_this_weights c_upper_120j s1_120j c_weights_120j) := hD
    have e_f := Option.some.inj hf
    cases e_f
    exact hret hP hD hS dX2_reckon_123
  have J_99 : ∀ (l6_99j : Int64) (l8_99j : Int64) (s1_99j : Int64) (c_upper_99j : Int64) (c_lower_99j : Int64) (c_weights_99j : Nat → Int64) (H : Heap) (locs : List Loc) (ls : Array Slot), va_P (dC, dI) vwCl (w_X2_reckon cI cJ cZ h_this h_this_weights c_upper_99j c_lower_99j c_weights_99j) H → va_D A (w_X2_reckon cI cJ cZ h_this h_this_weights c_upper_99j c_lower_99j c_weights_99j) → va_S A s.heap H locs → lv_has ls 10 [(0, .ref h_this), (6, .long l6_99j), (8, .long l8_99j)] → f_X2_reckon_j99 l6_99j l8_99j c_weights_99j s1_99j = some (z_upper, z_lower, z_weights) → W p l e rm_X2_reckon s m args below meth c H locs 0 0 Z (F0 m 99 ls [.long s1_99j, .ref h_this]) := by
    intro l6_99j l8_99j s1_99j c_upper_99j c_lower_99j c_weights_99j H locs ls hP hD hS hl hf
    unfold f_X2_reckon_j99 at hf
    refine va_put (D := (dC, dI)) (ci := 2) (v := .long s1_99j) (ty := .long) (C := RX2) (T := TX2) (N := 3) hx hb hts in_X2_reckon_X2 tyX2 tyX2_ok nmX2 hown hK hP hD hS 0 rfl rfl 1 (by decide) (hts _ m_X2_reckon_f15) (fun _ h9 => h9) rfl (by decide +kernel) rfl rfl (Nat.le_of_ble_eq_true rfl) dX2_reckon_99 (fun H locs hP hD hS => ?_)
    have hP : va_P (dC, dI) vwCl (w_X2_reckon cI cJ cZ h_this h_this_weights s1_99j c_lower_99j c_weights_99j) H := hP
    have hD : va_D A (w_X2_reckon cI cJ cZ h_this h_this_weights s1_99j c_lower_99j c_weights_99j) := hD
    refine lv_aload_n hx hb dX2_reckon_102 rfl (lv_at hl 0 rfl) ?_
    refine lv_lload hx hb dX2_reckon_103 (lv_at hl 2 rfl) ?_
    refine lv_lconst (v := 0) hx hb dX2_reckon_105 (by decide) ?_
    refine W.lcmp hx hb dX2_reckon_106 ?_
    refine lv_if_le (tgt := 118) hx hb dX2_reckon_107 (by decide) (fun k_107 => ?_) (fun k_107 => ?_)
    · have hf := ite_t hf k_107
      refine lv_lload hx hb dX2_reckon_118 (lv_at hl 1 rfl) ?_
      exact J_120 l6_99j s1_99j c_lower_99j c_weights_99j H locs ls hP hD hS (lv_sub hl [] rfl) hf
    · have hf := ite_f hf k_107
      refine lv_lload hx hb dX2_reckon_110 (lv_at hl 1 rfl) ?_
      refine lv_lload hx hb dX2_reckon_112 (lv_at hl 2 rfl) ?_
      obtain ⟨g_114, hf⟩ := nzl_some hf
      refine lv_ldiv hx hb dX2_reckon_114 g_114 ?_
      refine lv_goto (tgt := 120) hx hb dX2_reckon_115 (by decide) ?_
      exact J_120 (l6_99j / l8_99j) s1_99j c_lower_99j c_weights_99j H locs ls hP hD hS (lv_sub hl [] rfl) hf
  refine lv_aload_n hx hb dX2_reckon_0 rfl (lv_at hl 0 rfl) ?_
  refine lv_iload_n hx hb dX2_reckon_1 rfl (lv_at hl 1 rfl) ?_
  refine lv_iload_n hx hb dX2_reckon_2 rfl (lv_at hl 2 rfl) ?_
  obtain ⟨c_weights_3, hv_3, hf⟩ := bd1_some hf
  refine kWv (rV (C := RX2) [.int l1, .int l2] [] S (c_X2_weigh l dC dI cI cJ cZ h_this h_this_weights s.heap.size c_upper c_lower c_weights l1 l2 c_weights_3 hv_3) (cwV 2 hts gX2_reckon_X2_weigh rfl rfl rfl (by decide +kernel) ⟨Nat.le_of_ble_eq_true rfl, Nat.le_of_ble_eq_true rfl⟩) (va_recv hK hP (ci := 2) (q0 := 0) rfl rfl) hP hD hK hN [0, 1] rfl (by decide +kernel) rfl hl.1 rfl (Nat.le_of_ble_eq_true rfl) dX2_reckon_3 ⟨Nat.le_of_ble_eq_true rfl, Nat.le_of_ble_eq_true rfl⟩) hP hD hS hA [0, 1] rfl rfl [some 0, some 1] (by decide +kernel) rfl (fun H locs hP hD hS => ?_)
  have hP : va_P (dC, dI) vwCl (w_X2_reckon cI cJ cZ h_this h_this_weights c_upper c_lower c_weights_3) H := hP
  have hD : va_D A (w_X2_reckon cI cJ cZ h_this h_this_weights c_upper c_lower c_weights_3) := hD
  refine lv_lconst (v := 0) hx hb dX2_reckon_6 (by decide) ?_
  refine lv_lstore (lv' := [(4, .long 0), (0, .ref h_this), (1, .int l1), (2, .int l2), (3, .int l3)]) hx hb dX2_reckon_7 hl (by decide) rfl (fun ls hl => ?_)
  refine lv_iconst (v := 0) hx hb dX2_reckon_9 (by decide) ?_
  refine lv_istore (lv' := [(6, .int 0), (4, .long 0), (0, .ref h_this), (1, .int l1), (2, .int l2), (3, .int l3)]) hx hb dX2_reckon_10 hl (by decide) rfl (fun ls hl => ?_)
  obtain ⟨l4_12x, l6_12x, hq_12, hf⟩ := bd2_some hf
  have K_12 : ∀ (ls : Array Slot), lv_has ls 10 [(0, .ref h_this), (1, .int l1), (4, .long l4_12x)] → W p l e rm_X2_reckon s m args below meth c H locs 0 0 Z (F0 m 46 ls []) := by
    intro ls hl
    refine lv_lconst (v := 1) hx hb dX2_reckon_46 (by decide) ?_
    refine lv_lstore (lv' := [(6, .long 1), (0, .ref h_this), (1, .int l1), (4, .long l4_12x)]) hx hb dX2_reckon_47 hl (by decide) rfl (fun ls hl => ?_)
    refine lv_iconst (v := 0) hx hb dX2_reckon_49 (by decide) ?_
    refine lv_istore (lv' := [(8, .int 0), (6, .long 1), (0, .ref h_this), (1, .int l1), (4, .long l4_12x)]) hx hb dX2_reckon_50 hl (by decide) rfl (fun ls hl => ?_)
    obtain ⟨l6_52x, l8_52x, hq_52, hf⟩ := bd2_some hf
    have K_52 : ∀ (ls : Array Slot), lv_has ls 10 [(0, .ref h_this), (4, .long l4_12x), (6, .long l6_52x)] → W p l e rm_X2_reckon s m args below meth c H locs 0 0 Z (F0 m 72 ls []) := by
      intro ls hl
      refine lv_lload hx hb dX2_reckon_72 (lv_at hl 2 rfl) ?_
      refine lv_lload hx hb dX2_reckon_74 (lv_at hl 1 rfl) ?_
      obtain ⟨r_76, hv_76, hf⟩ := bd1_some hf
      refine kSl (rS [.long l6_52x, .long l4_12x] [] S (c_X2_commonDivisor l dC dI cI cJ cZ H.size l6_52x l4_12x r_76 hv_76) (va_cwS 2 hts gX2_reckon_X2_commonDivisor rfl rfl rfl (by decide +kernel) ⟨Nat.le_of_ble_eq_true rfl, Nat.le_of_ble_eq_true rfl⟩) hP hD hK hN [] rfl (by decide +kernel) rfl hl.1 rfl (Nat.le_of_ble_eq_true rfl) dX2_reckon_76 ⟨Nat.le_of_ble_eq_true rfl, Nat.le_of_ble_eq_true rfl⟩) ?_
      refine lv_lstore (lv' := [(8, .long r_76), (0, .ref h_this), (4, .long l4_12x), (6, .long l6_52x)]) hx hb dX2_reckon_79 hl (by decide) rfl (fun ls hl => ?_)
      refine lv_aload_n hx hb dX2_reckon_81 rfl (lv_at hl 1 rfl) ?_
      refine lv_lload hx hb dX2_reckon_82 (lv_at hl 0 rfl) ?_
      refine lv_lconst (v := 0) hx hb dX2_reckon_84 (by decide) ?_
      refine W.lcmp hx hb dX2_reckon_85 ?_
      refine lv_if_le (tgt := 97) hx hb dX2_reckon_86 (by decide) (fun k_86 => ?_) (fun k_86 => ?_)
      · have hf := ite_t hf k_86
        refine lv_lload hx hb dX2_reckon_97 (lv_at hl 2 rfl) ?_
        exact J_99 l6_52x r_76 l4_12x c_upper c_lower c_weights_3 H locs ls hP hD hS (lv_sub hl [1, 3, 0] rfl) hf
      · have hf := ite_f hf k_86
        refine lv_lload hx hb dX2_reckon_89 (lv_at hl 2 rfl) ?_
        refine lv_lload hx hb dX2_reckon_91 (lv_at hl 0 rfl) ?_
        obtain ⟨g_93, hf⟩ := nzl_some hf
        refine lv_ldiv hx hb dX2_reckon_93 g_93 ?_
        refine lv_goto (tgt := 99) hx hb dX2_reckon_94 (by decide) ?_
        exact J_99 l6_52x r_76 (l4_12x / r_76) c_upper c_lower c_weights_3 H locs ls hP hD hS (lv_sub hl [1, 3, 0] rfl) hf
    have L_52 : ∀ (n : Nat) (l6_52 : Int64) (l8_52 : Int32) (ls : Array Slot), lv_has ls 10 [(0, .ref h_this), (1, .int l1), (4, .long l4_12x), (6, .long l6_52), (8, .int l8_52)] → loopN (fun (q : Int64 × Int32) => f_X2_reckon_b52 l1 q.1 q.2) n (l6_52, l8_52) = some (l6_52x, l8_52x) → W p l e rm_X2_reckon s m args below meth c H locs 0 0 Z (F0 m 52 ls []) := by
      intro n
      induction n with
      | zero => intro l6_52 l8_52 ls hl hq; exact (loopN_zero hq).elim
      | succ n ih_52 =>
        intro l6_52 l8_52 ls hl hq
        obtain ⟨o_52, hf, ho1_52, ho2_52⟩ := loopN_step hq
        have hf : f_X2_reckon_b52 l1 l6_52 l8_52 = some o_52 := hf
        unfold f_X2_reckon_b52 at hf
        refine lv_iload hx hb dX2_reckon_52 (lv_at hl 4 rfl) ?_
        refine lv_iload_n hx hb dX2_reckon_54 rfl (lv_at hl 1 rfl) ?_
        refine lv_icmp_ge (tgt := 72) hx hb dX2_reckon_55 (by decide) (fun k_55 => ?_) (fun k_55 => ?_)
        · have hf := ite_t hf k_55
          have e_52 := ho2_52 _ (Option.some.inj hf).symm
          cases e_52
          exact K_52 ls (lv_sub hl [0, 2, 3] rfl)
        · have hf := ite_f hf k_55
          refine lv_lload hx hb dX2_reckon_58 (lv_at hl 3 rfl) ?_
          refine lv_ldc2 (v := 10) hx hb hown (hts _ m_X2_reckon_k26) dX2_reckon_60 ?_
          refine lv_lmul hx hb dX2_reckon_63 ?_
          refine lv_lstore (lv' := [(6, .long (l6_52 * 10)), (0, .ref h_this), (1, .int l1), (4, .long l4_12x), (8, .int l8_52)]) hx hb dX2_reckon_64 hl (by decide) rfl (fun ls hl => ?_)
          refine lv_iinc (v := (l8_52 + 1)) (lv' := [(8, .int (l8_52 + 1)), (6, .long (l6_52 * 10)), (0, .ref h_this), (1, .int l1), (4, .long l4_12x)]) hx hb dX2_reckon_66 hl (k := 4) rfl rfl (by decide) rfl (fun ls hl => ?_)
          refine lv_goto (tgt := 52) hx hb dX2_reckon_69 (by decide) ?_
          exact ih_52 (l6_52 * 10) (l8_52 + 1) ls (lv_sub hl [2, 3, 4, 1, 0] rfl) (ho1_52 _ (Option.some.inj hf).symm)
    exact L_52 FU 1 0 ls (lv_sub hl [2, 3, 4, 1, 0] rfl) hq_52
  have L_12 : ∀ (n : Nat) (l4_12 : Int64) (l6_12 : Int32) (ls : Array Slot), lv_has ls 10 [(0, .ref h_this), (1, .int l1), (3, .int l3), (4, .long l4_12), (6, .int l6_12)] → loopN (fun (q : Int64 × Int32) => f_X2_reckon_b12 l3 c_weights_3 q.1 q.2) n (l4_12, l6_12) = some (l4_12x, l6_12x) → W p l e rm_X2_reckon s m args below meth c H locs 0 0 Z (F0 m 12 ls []) := by
    intro n
    induction n with
    | zero => intro l4_12 l6_12 ls hl hq; exact (loopN_zero hq).elim
    | succ n ih_12 =>
      intro l4_12 l6_12 ls hl hq
      obtain ⟨o_12, hf, ho1_12, ho2_12⟩ := loopN_step hq
      have hf : f_X2_reckon_b12 l3 c_weights_3 l4_12 l6_12 = some o_12 := hf
      unfold f_X2_reckon_b12 at hf
      refine lv_iload hx hb dX2_reckon_12 (lv_at hl 4 rfl) ?_
      refine lv_aload_n hx hb dX2_reckon_14 rfl (lv_at hl 0 rfl) ?_
      refine va_get (D := (dC, dI)) (ci := 2) (v := .ref h_this_weights) (C := RX2) (T := TX2) (N := 3) hx hb hts in_X2_reckon_X2 hown hK hP 0 rfl rfl 0 (by decide) (hts _ m_X2_reckon_f9) (fun _ h9 => h9) rfl dX2_reckon_15 ?_
      refine va_alen (v := 13) hx hb hK hP 1 1 rfl rfl rfl dX2_reckon_18 ?_
      refine lv_icmp_ge (tgt := 46) hx hb dX2_reckon_19 (by decide) (fun k_19 => ?_) (fun k_19 => ?_)
      · have hf := ite_t hf k_19
        have e_12 := ho2_12 _ (Option.some.inj hf).symm
        cases e_12
        exact K_12 ls (lv_sub hl [0, 1, 3] rfl)
      · have hf := ite_f hf k_19
        refine lv_iload hx hb dX2_reckon_22 (lv_at hl 4 rfl) ?_
        refine lv_iload_n hx hb dX2_reckon_24 rfl (lv_at hl 2 rfl) ?_
        refine lv_icmp_lt (tgt := 40) hx hb dX2_reckon_25 (by decide) (fun k_25 => ?_) (fun k_25 => ?_)
        · have hf := ite_t hf k_25
          refine lv_iinc (v := (l6_12 + 1)) (lv' := [(6, .int (l6_12 + 1)), (0, .ref h_this), (1, .int l1), (3, .int l3), (4, .long l4_12)]) hx hb dX2_reckon_40 hl (k := 4) rfl rfl (by decide) rfl (fun ls hl => ?_)
          refine lv_goto (tgt := 12) hx hb dX2_reckon_43 (by decide) ?_
          exact ih_12 l4_12 (l6_12 + 1) ls (lv_sub hl [1, 2, 3, 4, 0] rfl) (ho1_12 _ (Option.some.inj hf).symm)
        · have hf := ite_f hf k_25
          refine lv_lload hx hb dX2_reckon_28 (lv_at hl 3 rfl) ?_
          refine lv_aload_n hx hb dX2_reckon_30 rfl (lv_at hl 0 rfl) ?_
          refine va_get (D := (dC, dI)) (ci := 2) (v := .ref h_this_weights) (C := RX2) (T := TX2) (N := 3) hx hb hts in_X2_reckon_X2 hown hK hP 0 rfl rfl 0 (by decide) (hts _ m_X2_reckon_f9) (fun _ h9 => h9) rfl dX2_reckon_31 ?_
          refine lv_iload hx hb dX2_reckon_34 (lv_at hl 4 rfl) ?_
          obtain ⟨g_36, hf⟩ := gd_some hf
          refine va_lald hx hb hK hP 1 1 rfl rfl g_36 dX2_reckon_36 ?_
          refine lv_ladd hx hb dX2_reckon_37 ?_
          obtain ⟨l4_38s, e_l4_38s, hf⟩ := nmv_some hf
          refine tpl e_l4_38s ?_
          refine lv_lstore (lv' := [(4, .long l4_38s), (0, .ref h_this), (1, .int l1), (3, .int l3), (6, .int l6_12)]) hx hb dX2_reckon_38 hl (by decide) rfl (fun ls hl => ?_)
          refine lv_iinc (v := (l6_12 + 1)) (lv' := [(6, .int (l6_12 + 1)), (4, .long l4_38s), (0, .ref h_this), (1, .int l1), (3, .int l3)]) hx hb dX2_reckon_40 hl (k := 4) rfl rfl (by decide) rfl (fun ls hl => ?_)
          refine lv_goto (tgt := 12) hx hb dX2_reckon_43 (by decide) ?_
          exact ih_12 l4_38s (l6_12 + 1) ls (lv_sub hl [2, 3, 4, 1, 0] rfl) (ho1_12 _ (Option.some.inj hf).symm)
  exact L_12 FU 0 0 ls (lv_sub hl [2, 3, 5, 1, 0] rfl) hq_12
