noncomputable def f_X10_within (l0 : Int32) (l1 : Int32) (l2 : Int32) : Option (Int32) :=
  (if l0 < l1 then some 0
  else (if l2 < l0 then some 0
  else some 1))
noncomputable def f_X10_isRow_j9 : Option (Int32) :=
  some 1
noncomputable def f_X10_isRow (l0 : Int32) : Option (Int32) :=
  (if l0 = 0 then f_X10_isRow_j9
  else (if l0 = 1 then f_X10_isRow_j9
  else some 0))
noncomputable def f_X10_at (n_a0 : Nat) (c_a0 : Nat → Int32) (l1 : Int32) : Option (Int32) :=
  (if l1 < 0 then some 0
  else (if (nI n_a0) ≤ l1 then some 0
  else gd l1 n_a0 (some (c_a0 (Int32.toNatClampNeg l1)))))
noncomputable def f_X10_put (n_a0 : Nat) (c_a0 : Nat → Int32) (l1 : Int32) (l2 : Int32) : Option ((Nat → Int32)) :=
  (if l1 < 0 then some c_a0
  else (if (nI n_a0) ≤ l1 then some c_a0
  else gd l1 n_a0 (some (upd c_a0 (Int32.toNatClampNeg l1) l2))))
noncomputable def f_X10_fill_b7 (n_a0 : Nat) (l1 : Int32) (l2_7 : Int32) (c_a0_7 : Nat → Int32) : Option ((Int32 × (Nat → Int32)) ⊕ (Int32 × (Nat → Int32))) :=
  (if (nI n_a0) ≤ l2_7 then some (.inr (l2_7, c_a0_7))
  else gd l2_7 n_a0 (some (.inl ((l2_7 + 1), (upd c_a0_7 (Int32.toNatClampNeg l2_7) l1)))))
noncomputable def f_X10_fill (n_a0 : Nat) (c_a0 : Nat → Int32) (l1 : Int32) : Option ((Nat → Int32)) :=
  bd2 (loopN (fun (q : Int32 × (Nat → Int32)) => f_X10_fill_b7 n_a0 l1 q.1 q.2) FU (0, c_a0)) (fun l2_7x c_a0_7x =>
  some c_a0_7x)
noncomputable def f_X10_copy_b11 (n_a0 : Nat) (n_a1 : Nat) (c_a0 : Nat → Int32) (l2_11 : Int32) (c_a1_11 : Nat → Int32) : Option ((Int32 × (Nat → Int32)) ⊕ (Int32 × (Nat → Int32))) :=
  (if (nI n_a0) ≤ l2_11 then some (.inr (l2_11, c_a1_11))
  else (if (nI n_a1) ≤ l2_11 then some (.inr (l2_11, c_a1_11))
  else gd l2_11 n_a0 (gd l2_11 n_a1 (some (.inl ((l2_11 + 1), (upd c_a1_11 (Int32.toNatClampNeg l2_11) (c_a0 (Int32.toNatClampNeg l2_11)))))))))
noncomputable def f_X10_copy (n_a0 : Nat) (n_a1 : Nat) (c_a0 : Nat → Int32) (c_a1 : Nat → Int32) : Option ((Nat → Int32)) :=
  bd2 (loopN (fun (q : Int32 × (Nat → Int32)) => f_X10_copy_b11 n_a0 n_a1 c_a0 q.1 q.2) FU (0, c_a1)) (fun l2_11x c_a1_11x =>
  some c_a1_11x)
noncomputable def f_J6_bitCount_0f7a4 (l0 : Int32) : Option (Int32) :=
  nmv (l0 - ((Int32.toUInt32 l0 >>> (Int32.toUInt32 1 &&& Int32.toUInt32 31)).toInt32 &&& 1431655765)) (fun l0_9s =>
  nmv ((l0_9s &&& 858993459) + ((Int32.toUInt32 l0_9s >>> (Int32.toUInt32 2 &&& Int32.toUInt32 31)).toInt32 &&& 858993459)) (fun l0_23s =>
  nmv ((l0_23s + (Int32.toUInt32 l0_23s >>> (Int32.toUInt32 4 &&& Int32.toUInt32 31)).toInt32) &&& 252645135) (fun l0_33s =>
  nmv (l0_33s + (Int32.toUInt32 l0_33s >>> (Int32.toUInt32 8 &&& Int32.toUInt32 31)).toInt32) (fun l0_40s =>
  nmv (l0_40s + (Int32.toUInt32 l0_40s >>> (Int32.toUInt32 16 &&& Int32.toUInt32 31)).toInt32) (fun l0_47s =>
  some (l0_47s &&& 63))))))
noncomputable def f_X0_begin : Option (Int32 × Int32) :=
  some ((-6), 0)
noncomputable def f_X0_offer_j17 (l1 : Int32) (l2 : Int32) : Option (Int32 × Int32) :=
  some (l1, l2)
noncomputable def f_X0_offer (c_by : Int32) (c_count : Int32) (l1 : Int32) (l2 : Int32) : Option (Int32 × Int32) :=
  (if c_by = (-6) then f_X0_offer_j17 l1 l2
  else (if c_count ≤ l2 then some (c_by, c_count)
  else f_X0_offer_j17 l1 l2))
noncomputable def f_X5_takeFrom (n_this : Nat) (n_a1 : Nat) (c_firsts : Nat → Int32) (c_seconds : Nat → Int32) (c_a1_count : Int32) (c_a1_firsts : Nat → Int32) (c_a1_seconds : Nat → Int32) : Option (Int32 × (Nat → Int32) × (Nat → Int32)) :=
  bd1 (f_X10_copy n_a1 n_this c_a1_firsts c_firsts) (fun c_firsts_13 =>
  bd1 (f_X10_copy n_a1 n_this c_a1_seconds c_seconds) (fun c_seconds_24 =>
  some (c_a1_count, c_firsts_13, c_seconds_24)))
noncomputable def f_X5_append (n_this : Nat) (c_count : Int32) (c_firsts : Nat → Int32) (c_seconds : Nat → Int32) (l1 : Int32) (l2 : Int32) : Option (Int32 × (Nat → Int32) × (Nat → Int32)) :=
  (if (nI n_this) ≤ c_count then some (c_count, c_firsts, c_seconds)
  else bd1 (f_X10_put n_this c_firsts c_count l1) (fun c_firsts_21 =>
  bd1 (f_X10_put n_this c_seconds c_count l2) (fun c_seconds_33 =>
  some ((c_count + 1), c_firsts_21, c_seconds_33))))
noncomputable def f_X5_empty (c_count : Int32) : Option (Int32 × Int32) :=
  some (c_count, 0)
noncomputable def f_X4_write (c_count : Int32) (c_signs : Nat → Int32) (l1 : Int32) : Option (Int32 × (Nat → Int32)) :=
  (if 60 ≤ c_count then some (c_count, c_signs)
  else bd1 (f_X10_put 60 c_signs c_count l1) (fun c_signs_21 =>
  some ((c_count + 1), c_signs_21)))
noncomputable def f_X4_empty (c_count : Int32) : Option (Int32 × Int32) :=
  some (c_count, 0)
noncomputable def f_X4_isLetter (l0 : Int32) : Option (Int32) :=
  (if l0 < 65 then some 0
  else (if 75 ≤ l0 then some 0
  else some 1))
noncomputable def f_X4_endsAsVerb_j18 : Option (Int32) :=
  some 1
noncomputable def f_X4_endsAsVerb (l0 : Int32) : Option (Int32) :=
  (if l0 = 100 then f_X4_endsAsVerb_j18
  else (if l0 = 117 then f_X4_endsAsVerb_j18
  else (if l0 = 45 then f_X4_endsAsVerb_j18
  else some 0)))
noncomputable def f_X4_wantsAfter (l0 : Int32) (l1 : Int32) : Option (Int32) :=
  (if l0 = 0 then (if l1 = 33 then some 0
  else bd1 (f_X4_isLetter l1) (fun r_37 =>
  (if r_37 = 0 then some 3
  else some 1)))
  else (if l0 = 1 then (if l1 = 120 then some 2
  else bd1 (f_X4_endsAsVerb l1) (fun r_58 =>
  (if r_58 = 0 then some 3
  else some 0)))
  else bd1 (f_X4_isLetter l1) (fun r_71 =>
  (if r_71 = 0 then some 3
  else some 0))))
noncomputable def f_X4_firstFault_b4 (c_count : Int32) (c_signs : Nat → Int32) (l1_4 : Int32) (l2_4 : Int32) : Option ((Int32 × Int32) ⊕ ((Int32 × Int32) ⊕ (Int32))) :=
  (if c_count ≤ l2_4 then some (.inr (.inl (l1_4, l2_4)))
  else bd1 (f_X10_at 60 c_signs l2_4) (fun r_18 =>
  bd1 (f_X4_wantsAfter l1_4 r_18) (fun r_21 =>
  (if r_21 = 3 then some (.inr (.inr l2_4))
  else some (.inl (r_21, (l2_4 + 1)))))))
noncomputable def f_X4_firstFault (c_count : Int32) (c_signs : Nat → Int32) : Option (Int32) :=
  bdr (loopN (fun (q : Int32 × Int32) => f_X4_firstFault_b4 c_count c_signs q.1 q.2) FU (0, 0)) (fun v => v) (fun (q_4 : Int32 × Int32) =>
  (if q_4.1 = 0 then some (-6)
  else some c_count))
noncomputable def f_X4_kindEndingAt (c_signs : Nat → Int32) (l1 : Int32) : Option (Int32) :=
  bd1 (f_X10_at 60 c_signs l1) (fun r_5 =>
  bd1 (f_X4_isLetter r_5) (fun r_10 =>
  (if r_10 = 0 then (if r_5 = 120 then some 0
  else some r_5)
  else bd1 (f_X10_at 60 c_signs (l1 - 1)) (fun r_23 =>
  (if r_23 = 120 then some 120
  else some 0)))))
noncomputable def f_X4_memberAt (c_signs : Nat → Int32) (l1 : Int32) : Option (Int32) :=
  bd1 (f_X10_at 60 c_signs l1) (fun r_5 =>
  some (r_5 - 65))
noncomputable def f_X7_takeFrom (c_rowOf : Nat → Int32) (c_placeOf : Nat → Int32) (c_a1_rung : Int32) (c_a1_rowOf : Nat → Int32) (c_a1_placeOf : Nat → Int32) : Option (Int32 × (Nat → Int32) × (Nat → Int32)) :=
  bd1 (f_X10_copy 10 10 c_a1_rowOf c_rowOf) (fun c_rowOf_13 =>
  bd1 (f_X10_copy 10 10 c_a1_placeOf c_placeOf) (fun c_placeOf_24 =>
  some (c_a1_rung, c_rowOf_13, c_placeOf_24)))
noncomputable def f_X7_lengthOf_b4 (c_rowOf : Nat → Int32) (l1 : Int32) (l2_4 : Int32) (l3_4 : Int32) : Option ((Int32 × Int32) ⊕ (Int32 × Int32)) :=
  (if 10 ≤ l3_4 then some (.inr (l2_4, l3_4))
  else gd l3_4 10 ((if (c_rowOf (Int32.toNatClampNeg l3_4)) = l1 then some (.inl ((l2_4 + 1), (l3_4 + 1)))
  else some (.inl (l2_4, (l3_4 + 1))))))
noncomputable def f_X7_lengthOf (c_rowOf : Nat → Int32) (l1 : Int32) : Option (Int32) :=
  bd2 (loopN (fun (q : Int32 × Int32) => f_X7_lengthOf_b4 c_rowOf l1 q.1 q.2) FU (0, 0)) (fun l2_4x l3_4x =>
  some l2_4x)
noncomputable def f_X7_whoIsAt_b2 (c_rowOf : Nat → Int32) (c_placeOf : Nat → Int32) (l1 : Int32) (l2 : Int32) (l3_2 : Int32) : Option ((Int32) ⊕ ((Int32) ⊕ (Int32))) :=
  (if 10 ≤ l3_2 then some (.inr (.inl l3_2))
  else bd1 (f_X10_at 10 c_rowOf l3_2) (fun r_13 =>
  (if r_13 = l1 then bd1 (f_X10_at 10 c_placeOf l3_2) (fun r_25 =>
  (if r_25 = l2 then some (.inr (.inr l3_2))
  else some (.inl (l3_2 + 1))))
  else some (.inl (l3_2 + 1)))))
noncomputable def f_X7_whoIsAt (c_rowOf : Nat → Int32) (c_placeOf : Nat → Int32) (l1 : Int32) (l2 : Int32) : Option (Int32) :=
  bdr (loopN (fun (q : Int32) => f_X7_whoIsAt_b2 c_rowOf c_placeOf l1 l2 q) FU 0) (fun v => v) (fun (q_2 : Int32) =>
  some (-6))
noncomputable def f_X7_reasonAgainstJoining (c_rowOf : Nat → Int32) (l1 : Int32) (l2 : Int32) : Option (Int32) :=
  bd1 (f_X10_at 10 c_rowOf l1) (fun r_5 =>
  (if r_5 = 2 then bd1 (f_X7_lengthOf c_rowOf l2) (fun r_16 =>
  (if r_16 < 6 then some 0
  else some 2))
  else some 1))
noncomputable def f_X7_reasonAgainst (c_rung : Int32) (c_rowOf : Nat → Int32) (l1 : Int32) (l2 : Int32) (l3 : Int32) : Option (Int32) :=
  (if l1 = 45 then bd1 (f_X10_at 10 c_rowOf l2) (fun r_63 =>
  (if r_63 = 2 then some 1
  else some 0))
  else (if l1 = 100 then bd1 (f_X7_reasonAgainstJoining c_rowOf l2 0) (fun r_47 =>
  some r_47)
  else (if l1 = 117 then bd1 (f_X7_reasonAgainstJoining c_rowOf l2 1) (fun r_54 =>
  some r_54)
  else (if l1 = 120 then bd1 (f_X10_at 10 c_rowOf l2) (fun r_81 =>
  (if r_81 = 2 then some 1
  else bd1 (f_X10_at 10 c_rowOf l3) (fun r_93 =>
  (if r_93 = 2 then some 1
  else (if l2 = l3 then some 3
  else some 0)))))
  else (if c_rung < 99 then some 0
  else some 4)))))
noncomputable def f_X7_join (c_rowOf : Nat → Int32) (c_placeOf : Nat → Int32) (l1 : Int32) (l2 : Int32) : Option ((Nat → Int32) × (Nat → Int32)) :=
  bd1 (f_X7_lengthOf c_rowOf l2) (fun r_7 =>
  bd1 (f_X10_put 10 c_placeOf l1 r_7) (fun c_placeOf_10 =>
  bd1 (f_X10_put 10 c_rowOf l1 l2) (fun c_rowOf_19 =>
  some (c_rowOf_19, c_placeOf_10))))
noncomputable def f_X7_leave_b40 (r_5 : Int32) (r_14 : Int32) (c_rowOf_24 : Nat → Int32) (l4_40 : Int32) (c_placeOf_40 : Nat → Int32) : Option ((Int32 × (Nat → Int32)) ⊕ (Int32 × (Nat → Int32))) :=
  (if 10 ≤ l4_40 then some (.inr (l4_40, c_placeOf_40))
  else bd1 (f_X10_at 10 c_placeOf_40 l4_40) (fun r_53 =>
  bd1 (f_X10_at 10 c_rowOf_24 l4_40) (fun r_64 =>
  (if r_64 = r_5 then (if r_53 ≤ r_14 then some (.inl ((l4_40 + 1), c_placeOf_40))
  else bd1 (f_X10_put 10 c_placeOf_40 l4_40 (r_53 - 1)) (fun c_placeOf_87 =>
  some (.inl ((l4_40 + 1), c_placeOf_87))))
  else some (.inl ((l4_40 + 1), c_placeOf_40))))))
noncomputable def f_X7_leave (c_rowOf : Nat → Int32) (c_placeOf : Nat → Int32) (l1 : Int32) : Option ((Nat → Int32) × (Nat → Int32)) :=
  bd1 (f_X10_at 10 c_rowOf l1) (fun r_5 =>
  bd1 (f_X10_at 10 c_placeOf l1) (fun r_14 =>
  bd1 (f_X10_put 10 c_rowOf l1 2) (fun c_rowOf_24 =>
  bd1 (f_X10_put 10 c_placeOf l1 (-6)) (fun c_placeOf_34 =>
  bd2 (loopN (fun (q : Int32 × (Nat → Int32)) => f_X7_leave_b40 r_5 r_14 c_rowOf_24 q.1 q.2) FU (0, c_placeOf_34)) (fun l4_40x c_placeOf_40x =>
  some (c_rowOf_24, c_placeOf_40x))))))
noncomputable def f_X7_swap (n_a0 : Nat) (c_a0 : Nat → Int32) (l1 : Int32) (l2 : Int32) : Option ((Nat → Int32)) :=
  bd1 (f_X10_at n_a0 c_a0 l1) (fun r_2 =>
  bd1 (f_X10_at n_a0 c_a0 l2) (fun r_10 =>
  bd1 (f_X10_put n_a0 c_a0 l1 r_10) (fun c_a0_13 =>
  bd1 (f_X10_put n_a0 c_a0_13 l2 r_2) (fun c_a0_19 =>
  some c_a0_19))))
noncomputable def f_X7_carryOut (c_rung : Int32) (c_rowOf : Nat → Int32) (c_placeOf : Nat → Int32) (l1 : Int32) (l2 : Int32) (l3 : Int32) : Option (Int32 × (Nat → Int32) × (Nat → Int32)) :=
  (if l1 = 45 then bd2 (f_X7_leave c_rowOf c_placeOf l2) (fun c_rowOf_64 c_placeOf_64 =>
  some (c_rung, c_rowOf_64, c_placeOf_64))
  else (if l1 = 100 then bd2 (f_X7_join c_rowOf c_placeOf l2 0) (fun c_rowOf_47 c_placeOf_47 =>
  some (c_rung, c_rowOf_47, c_placeOf_47))
  else (if l1 = 117 then bd2 (f_X7_join c_rowOf c_placeOf l2 1) (fun c_rowOf_56 c_placeOf_56 =>
  some (c_rung, c_rowOf_56, c_placeOf_56))
  else (if l1 = 120 then bd1 (f_X7_swap 10 c_rowOf l2 l3) (fun c_rowOf_76 =>
  bd1 (f_X7_swap 10 c_placeOf l2 l3) (fun c_placeOf_85 =>
  some (c_rung, c_rowOf_76, c_placeOf_85)))
  else some ((c_rung + 1), c_rowOf, c_placeOf)))))
noncomputable def f_X7_attempt (c_rung : Int32) (c_rowOf : Nat → Int32) (c_placeOf : Nat → Int32) (l1 : Int32) (l2 : Int32) (l3 : Int32) : Option (Int32 × Int32 × (Nat → Int32) × (Nat → Int32)) :=
  bd1 (f_X7_reasonAgainst c_rung c_rowOf l1 l2 l3) (fun r_4 =>
  (if r_4 = 0 then bd3 (f_X7_carryOut c_rung c_rowOf c_placeOf l1 l2 l3) (fun c_rung_18 c_rowOf_18 c_placeOf_18 =>
  some (r_4, c_rung_18, c_rowOf_18, c_placeOf_18))
  else some (r_4, c_rung, c_rowOf, c_placeOf)))
noncomputable def f_X7_drawnKind (l0 : Int32) : Option (Int32) :=
  (if l0 < 0 then some 33
  else (if 8 ≤ l0 then some 33
  else gd l0 8 (some (tab_DRAWN (l0).toNatClampNeg))))
noncomputable def f_X7_drawYear_b5 (l2 : Int32) (l3_5 : Int32) (l4_5 : Int32) (c_rung_5 : Int32) (c_rowOf_5 : Nat → Int32) (c_placeOf_5 : Nat → Int32) : Option ((Int32 × Int32 × Int32 × (Nat → Int32) × (Nat → Int32)) ⊕ (Int32 × Int32 × Int32 × (Nat → Int32) × (Nat → Int32))) :=
  (if l2 ≤ l4_5 then some (.inr (l3_5, l4_5, c_rung_5, c_rowOf_5, c_placeOf_5))
  else nmv (((75 * l3_5) + 74) - (((75 * l3_5) + 74) / 65537) * 65537) (fun l3_21s =>
  bd1 (f_X7_drawnKind ((l3_21s / 10) - ((l3_21s / 10) / 8) * 8)) (fun r_30 =>
  bd4 (f_X7_attempt c_rung_5 c_rowOf_5 c_placeOf_5 r_30 (l3_21s - (l3_21s / 10) * 10) ((l3_21s / 80) - ((l3_21s / 80) / 10) * 10)) (fun r_44 c_rung_44 c_rowOf_44 c_placeOf_44 =>
  some (.inl (l3_21s, (l4_5 + 1), c_rung_44, c_rowOf_44, c_placeOf_44))))))
noncomputable def f_X7_drawYear (c_rung : Int32) (c_rowOf : Nat → Int32) (c_placeOf : Nat → Int32) (l1 : Int32) (l2 : Int32) : Option (Int32 × (Nat → Int32) × (Nat → Int32)) :=
  bd5 (loopN (fun (q : Int32 × Int32 × Int32 × (Nat → Int32) × (Nat → Int32)) => f_X7_drawYear_b5 l2 q.1 q.2.1 q.2.2.1 q.2.2.2.1 q.2.2.2.2) FU (l1, 0, c_rung, c_rowOf, c_placeOf)) (fun l3_5x l4_5x c_rung_5x c_rowOf_5x c_placeOf_5x =>
  some (c_rung_5x, c_rowOf_5x, c_placeOf_5x))
noncomputable def f_X8_takeFrom (c_widths : Nat → Int32) (c_keys : Nat → Int32) (c_cells : Nat → Int32) (c_delays : Nat → Int32) (c_rows_rowOf : Nat → Int32) (c_rows_placeOf : Nat → Int32) (c_rules_firsts : Nat → Int32) (c_rules_seconds : Nat → Int32) (c_sights_firsts : Nat → Int32) (c_sights_seconds : Nat → Int32) (c_a1_widths : Nat → Int32) (c_a1_keys : Nat → Int32) (c_a1_cells : Nat → Int32) (c_a1_delays : Nat → Int32) (c_a1_rows_rung : Int32) (c_a1_rows_rowOf : Nat → Int32) (c_a1_rows_placeOf : Nat → Int32) (c_a1_rules_count : Int32) (c_a1_rules_firsts : Nat → Int32) (c_a1_rules_seconds : Nat → Int32) (c_a1_sights_count : Int32) (c_a1_sights_firsts : Nat → Int32) (c_a1_sights_seconds : Nat → Int32) : Option ((Nat → Int32) × (Nat → Int32) × (Nat → Int32) × (Nat → Int32) × Int32 × (Nat → Int32) × (Nat → Int32) × Int32 × (Nat → Int32) × (Nat → Int32) × Int32 × (Nat → Int32) × (Nat → Int32)) :=
  bd1 (f_X10_copy 10 10 c_a1_widths c_widths) (fun c_widths_13 =>
  bd1 (f_X10_copy 10 10 c_a1_keys c_keys) (fun c_keys_24 =>
  bd1 (f_X10_copy 17 17 c_a1_cells c_cells) (fun c_cells_35 =>
  bd1 (f_X10_copy 2 2 c_a1_delays c_delays) (fun c_delays_46 =>
  bd3 (f_X7_takeFrom c_rows_rowOf c_rows_placeOf c_a1_rows_rung c_a1_rows_rowOf c_a1_rows_placeOf) (fun c_rows_rung_57 c_rows_rowOf_57 c_rows_placeOf_57 =>
  bd3 (f_X5_takeFrom 10 10 c_rules_firsts c_rules_seconds c_a1_rules_count c_a1_rules_firsts c_a1_rules_seconds) (fun c_rules_count_68 c_rules_firsts_68 c_rules_seconds_68 =>
  bd3 (f_X5_takeFrom 8 8 c_sights_firsts c_sights_seconds c_a1_sights_count c_a1_sights_firsts c_a1_sights_seconds) (fun c_sights_count_79 c_sights_firsts_79 c_sights_seconds_79 =>
  some (c_widths_13, c_keys_24, c_cells_35, c_delays_46, c_rows_rung_57, c_rows_rowOf_57, c_rows_placeOf_57, c_rules_count_68, c_rules_firsts_68, c_rules_seconds_68, c_sights_count_79, c_sights_firsts_79, c_sights_seconds_79))))))))
noncomputable def f_X8_startOf (c_delays : Nat → Int32) (c_rows_rowOf : Nat → Int32) (c_rows_placeOf : Nat → Int32) (l1 : Int32) : Option (Int32) :=
  bd1 (f_X10_at 10 c_rows_rowOf l1) (fun r_12 =>
  bd1 (f_X10_at 2 c_delays r_12) (fun r_15 =>
  bd1 (f_X10_at 10 c_rows_placeOf l1) (fun r_26 =>
  some (r_15 + r_26))))
noncomputable def f_X8_emptyFrom (c_delays : Nat → Int32) (c_rows_rowOf : Nat → Int32) (l1 : Int32) : Option (Int32) :=
  bd1 (f_X7_lengthOf c_rows_rowOf l1) (fun r_5 =>
  (if r_5 = 0 then some 0
  else bd1 (f_X10_at 2 c_delays l1) (fun r_22 =>
  some (((r_22 + r_5) - 1) + 17))))
noncomputable def f_X8_spotOf (l0 : Int32) (l1 : Int32) : Option (Int32) :=
  bd1 (f_X10_within ((16 + l1) - l0) 0 32) (fun r_11 =>
  (if r_11 = 0 then some (-6)
  else some ((16 + l1) - l0)))
noncomputable def f_X8_clash (c_widths : Nat → Int32) (c_cells : Nat → Int32) (l1 : Int32) (l2 : Int32) (l3 : Int32) : Option (Int32) :=
  (if l1 = (-6) then some 0
  else bd1 (f_X10_at 17 c_cells (l1 / 2)) (fun r_15 =>
  bd1 (f_X10_at 17 c_cells ((l1 + 1) / 2)) (fun r_27 =>
  bd1 (f_X10_at 10 c_widths l2) (fun r_42 =>
  bd1 (f_X10_at 10 c_widths l3) (fun r_50 =>
  (if (r_42 + r_50) ≤ (if r_27 < r_15 then r_27 else r_15) then some 0
  else some 1))))))
noncomputable def f_X8_clashesIn_j75 (c_widths : Nat → Int32) (c_cells : Nat → Int32) (l3 : Int32) (l5_75j : Int32) (l6_75j : Int32) (s0_75j : Int32) : Option ((Int32 × Int32) ⊕ (Int32 × Int32)) :=
  bd1 (f_X8_clash c_widths c_cells s0_75j l3 l6_75j) (fun r_83 =>
  (if r_83 = 0 then some (.inl (l5_75j, (l6_75j + 1)))
  else some (.inl ((l5_75j + 1), (l6_75j + 1)))))
noncomputable def f_X8_clashesIn_b18 (c_widths : Nat → Int32) (c_cells : Nat → Int32) (c_delays : Nat → Int32) (c_rows_rowOf : Nat → Int32) (c_rows_placeOf : Nat → Int32) (l1 : Int32) (l3 : Int32) (l5_18 : Int32) (l6_18 : Int32) (l4_18 : Int32) : Option ((Int32 × Int32) ⊕ (Int32 × Int32)) :=
  (if 10 ≤ l6_18 then some (.inr (l5_18, l6_18))
  else bd1 (f_X10_at 10 c_rows_rowOf l6_18) (fun r_34 =>
  (if r_34 = (1 - l1) then (if l1 = 0 then bd1 (f_X8_startOf c_delays c_rows_rowOf c_rows_placeOf l6_18) (fun r_55 =>
  bd1 (f_X8_spotOf l4_18 r_55) (fun r_58 =>
  f_X8_clashesIn_j75 c_widths c_cells l3 l5_18 l6_18 r_58))
  else bd1 (f_X8_startOf c_delays c_rows_rowOf c_rows_placeOf l6_18) (fun r_67 =>
  bd1 (f_X8_spotOf r_67 l4_18) (fun r_72 =>
  f_X8_clashesIn_j75 c_widths c_cells l3 l5_18 l6_18 r_72)))
  else some (.inl (l5_18, (l6_18 + 1))))))
noncomputable def f_X8_clashesIn (c_widths : Nat → Int32) (c_cells : Nat → Int32) (c_delays : Nat → Int32) (c_rows_rowOf : Nat → Int32) (c_rows_placeOf : Nat → Int32) (l1 : Int32) (l2 : Int32) (l3 : Int32) : Option (Int32) :=
  bd1 (f_X10_at 2 c_delays l1) (fun r_5 =>
  bd2 (loopN (fun (q : Int32 × Int32) => f_X8_clashesIn_b18 c_widths c_cells c_delays c_rows_rowOf c_rows_placeOf l1 l3 q.1 q.2 (r_5 + l2)) FU (0, 0)) (fun l5_18x l6_18x =>
  some l5_18x))
noncomputable def f_X6_play_j71 (c_a1_signs : Nat → Int32) (c_a3_widths_25 : Nat → Int32) (c_a3_keys_25 : Nat → Int32) (c_a3_cells_25 : Nat → Int32) (c_a3_delays_25 : Nat → Int32) (c_a3_rules_count_25 : Int32) (c_a3_rules_firsts_25 : Nat → Int32) (c_a3_rules_seconds_25 : Nat → Int32) (c_a3_sights_count_25 : Int32) (c_a3_sights_firsts_25 : Nat → Int32) (c_a3_sights_seconds_25 : Nat → Int32) (l4_71j : Int32) (l5_71j : Int32) (c_acts_71j : Int32) (c_a3_rows_rung_71j : Int32) (c_a3_rows_rowOf_71j : Nat → Int32) (c_a3_rows_placeOf_71j : Nat → Int32) (s0_71j : Int32) : Option ((Int32 × Int32 × Int32 × Int32 × (Nat → Int32) × (Nat → Int32)) ⊕ ((Int32 × Int32 × Int32 × Int32 × (Nat → Int32) × (Nat → Int32)) ⊕ (Int32 × Int32 × (Nat → Int32) × (Nat → Int32) × (Nat → Int32) × (Nat → Int32) × Int32 × (Nat → Int32) × (Nat → Int32) × Int32 × (Nat → Int32) × (Nat → Int32) × Int32 × (Nat → Int32) × (Nat → Int32)))) :=
  bd1 (f_X4_memberAt c_a1_signs s0_71j) (fun r_83 =>
  bd1 (f_X4_memberAt c_a1_signs l4_71j) (fun r_89 =>
  bd4 (f_X7_attempt c_a3_rows_rung_71j c_a3_rows_rowOf_71j c_a3_rows_placeOf_71j l5_71j r_83 r_89) (fun r_92 c_a3_rows_rung_92 c_a3_rows_rowOf_92 c_a3_rows_placeOf_92 =>
  (if r_92 = 0 then some (.inl ((l4_71j + 1), (c_acts_71j + 1), r_92, c_a3_rows_rung_92, c_a3_rows_rowOf_92, c_a3_rows_placeOf_92))
  else some (.inr (.inr (c_acts_71j, r_92, c_a3_widths_25, c_a3_keys_25, c_a3_cells_25, c_a3_delays_25, c_a3_rows_rung_92, c_a3_rows_rowOf_92, c_a3_rows_placeOf_92, c_a3_rules_count_25, c_a3_rules_firsts_25, c_a3_rules_seconds_25, c_a3_sights_count_25, c_a3_sights_firsts_25, c_a3_sights_seconds_25)))))))
noncomputable def f_X6_play_b31 (c_a1_count : Int32) (c_a1_signs : Nat → Int32) (c_a3_widths_25 : Nat → Int32) (c_a3_keys_25 : Nat → Int32) (c_a3_cells_25 : Nat → Int32) (c_a3_delays_25 : Nat → Int32) (c_a3_rules_count_25 : Int32) (c_a3_rules_firsts_25 : Nat → Int32) (c_a3_rules_seconds_25 : Nat → Int32) (c_a3_sights_count_25 : Int32) (c_a3_sights_firsts_25 : Nat → Int32) (c_a3_sights_seconds_25 : Nat → Int32) (l4_31 : Int32) (c_acts_31 : Int32) (c_why_31 : Int32) (c_a3_rows_rung_31 : Int32) (c_a3_rows_rowOf_31 : Nat → Int32) (c_a3_rows_placeOf_31 : Nat → Int32) : Option ((Int32 × Int32 × Int32 × Int32 × (Nat → Int32) × (Nat → Int32)) ⊕ ((Int32 × Int32 × Int32 × Int32 × (Nat → Int32) × (Nat → Int32)) ⊕ (Int32 × Int32 × (Nat → Int32) × (Nat → Int32) × (Nat → Int32) × (Nat → Int32) × Int32 × (Nat → Int32) × (Nat → Int32) × Int32 × (Nat → Int32) × (Nat → Int32) × Int32 × (Nat → Int32) × (Nat → Int32)))) :=
  (if c_a1_count ≤ l4_31 then some (.inr (.inl (l4_31, c_acts_31, c_why_31, c_a3_rows_rung_31, c_a3_rows_rowOf_31, c_a3_rows_placeOf_31)))
  else bd1 (f_X4_kindEndingAt c_a1_signs l4_31) (fun r_43 =>
  (if r_43 = 0 then some (.inl ((l4_31 + 1), c_acts_31, c_why_31, c_a3_rows_rung_31, c_a3_rows_rowOf_31, c_a3_rows_placeOf_31))
  else (if r_43 = 120 then f_X6_play_j71 c_a1_signs c_a3_widths_25 c_a3_keys_25 c_a3_cells_25 c_a3_delays_25 c_a3_rules_count_25 c_a3_rules_firsts_25 c_a3_rules_seconds_25 c_a3_sights_count_25 c_a3_sights_firsts_25 c_a3_sights_seconds_25 l4_31 r_43 c_acts_31 c_a3_rows_rung_31 c_a3_rows_rowOf_31 c_a3_rows_placeOf_31 (l4_31 - 2)
  else f_X6_play_j71 c_a1_signs c_a3_widths_25 c_a3_keys_25 c_a3_cells_25 c_a3_delays_25 c_a3_rules_count_25 c_a3_rules_firsts_25 c_a3_rules_seconds_25 c_a3_sights_count_25 c_a3_sights_firsts_25 c_a3_sights_seconds_25 l4_31 r_43 c_acts_31 c_a3_rows_rung_31 c_a3_rows_rowOf_31 c_a3_rows_placeOf_31 (l4_31 - 1)))))
noncomputable def f_X6_play (c_a1_count : Int32) (c_a1_signs : Nat → Int32) (c_a2_widths : Nat → Int32) (c_a2_keys : Nat → Int32) (c_a2_cells : Nat → Int32) (c_a2_delays : Nat → Int32) (c_a2_rows_rung : Int32) (c_a2_rows_rowOf : Nat → Int32) (c_a2_rows_placeOf : Nat → Int32) (c_a2_rules_count : Int32) (c_a2_rules_firsts : Nat → Int32) (c_a2_rules_seconds : Nat → Int32) (c_a2_sights_count : Int32) (c_a2_sights_firsts : Nat → Int32) (c_a2_sights_seconds : Nat → Int32) (c_a3_widths : Nat → Int32) (c_a3_keys : Nat → Int32) (c_a3_cells : Nat → Int32) (c_a3_delays : Nat → Int32) (c_a3_rows_rowOf : Nat → Int32) (c_a3_rows_placeOf : Nat → Int32) (c_a3_rules_firsts : Nat → Int32) (c_a3_rules_seconds : Nat → Int32) (c_a3_sights_firsts : Nat → Int32) (c_a3_sights_seconds : Nat → Int32) : Option (Int32 × Int32 × (Nat → Int32) × (Nat → Int32) × (Nat → Int32) × (Nat → Int32) × Int32 × (Nat → Int32) × (Nat → Int32) × Int32 × (Nat → Int32) × (Nat → Int32) × Int32 × (Nat → Int32) × (Nat → Int32)) :=
  bd13 (f_X8_takeFrom c_a3_widths c_a3_keys c_a3_cells c_a3_delays c_a3_rows_rowOf c_a3_rows_placeOf c_a3_rules_firsts c_a3_rules_seconds c_a3_sights_firsts c_a3_sights_seconds c_a2_widths c_a2_keys c_a2_cells c_a2_delays c_a2_rows_rung c_a2_rows_rowOf c_a2_rows_placeOf c_a2_rules_count c_a2_rules_firsts c_a2_rules_seconds c_a2_sights_count c_a2_sights_firsts c_a2_sights_seconds) (fun c_a3_widths_25 c_a3_keys_25 c_a3_cells_25 c_a3_delays_25 c_a3_rows_rung_25 c_a3_rows_rowOf_25 c_a3_rows_placeOf_25 c_a3_rules_count_25 c_a3_rules_firsts_25 c_a3_rules_seconds_25 c_a3_sights_count_25 c_a3_sights_firsts_25 c_a3_sights_seconds_25 =>
  bdr (loopN (fun (q : Int32 × Int32 × Int32 × Int32 × (Nat → Int32) × (Nat → Int32)) => f_X6_play_b31 c_a1_count c_a1_signs c_a3_widths_25 c_a3_keys_25 c_a3_cells_25 c_a3_delays_25 c_a3_rules_count_25 c_a3_rules_firsts_25 c_a3_rules_seconds_25 c_a3_sights_count_25 c_a3_sights_firsts_25 c_a3_sights_seconds_25 q.1 q.2.1 q.2.2.1 q.2.2.2.1 q.2.2.2.2.1 q.2.2.2.2.2) FU (0, 0, 0, c_a3_rows_rung_25, c_a3_rows_rowOf_25, c_a3_rows_placeOf_25)) (fun v => v) (fun (q_31 : Int32 × Int32 × Int32 × Int32 × (Nat → Int32) × (Nat → Int32)) =>
  some (q_31.2.1, q_31.2.2.1, c_a3_widths_25, c_a3_keys_25, c_a3_cells_25, c_a3_delays_25, q_31.2.2.2.1, q_31.2.2.2.2.1, q_31.2.2.2.2.2, c_a3_rules_count_25, c_a3_rules_firsts_25, c_a3_rules_seconds_25, c_a3_sights_count_25, c_a3_sights_firsts_25, c_a3_sights_seconds_25)))
noncomputable def f_X1_noteClash_j30 (c_clashes_30j : Int32) (c_first_30j : Int32) (c_where_30j : Int32) (c_firstTurn_30j : Int32) : Option (Int32 × Int32 × Int32 × Int32) :=
  some ((c_clashes_30j + 1), c_first_30j, c_where_30j, c_firstTurn_30j)
noncomputable def f_X1_noteClash_j15 (l1 : Int32) (l2 : Int32) (l3 : Int32) (c_clashes_15j : Int32) : Option (Int32 × Int32 × Int32 × Int32) :=
  f_X1_noteClash_j30 c_clashes_15j l1 l2 l3
noncomputable def f_X1_noteClash (c_clashes : Int32) (c_first : Int32) (c_where : Int32) (c_firstTurn : Int32) (l1 : Int32) (l2 : Int32) (l3 : Int32) : Option (Int32 × Int32 × Int32 × Int32) :=
  (if c_clashes = 0 then f_X1_noteClash_j15 l1 l2 l3 c_clashes
  else (if c_firstTurn ≤ l3 then f_X1_noteClash_j30 c_clashes c_first c_where c_firstTurn
  else f_X1_noteClash_j15 l1 l2 l3 c_clashes))
noncomputable def f_X1_countOf_j64 (c_a1_widths : Nat → Int32) (c_a1_cells : Nat → Int32) (c_a1_delays : Nat → Int32) (c_a1_rows_rowOf : Nat → Int32) (c_a1_rows_placeOf : Nat → Int32) (l2 : Int32) (r_2 : Int32) (l4_64j : Int32) (l5_64j : Int32) (c_twos_64j : Int32) (c_clashes_64j : Int32) (c_first_64j : Int32) (c_where_64j : Int32) (c_firstTurn_64j : Int32) : Option ((Int32 × Int32 × Int32 × Int32 × Int32 × Int32) ⊕ (Int32 × Int32 × Int32 × Int32 × Int32 × Int32)) :=
  bd1 (f_X8_clash c_a1_widths c_a1_cells l5_64j l2 l4_64j) (fun r_70 =>
  (if r_70 = 0 then some (.inl ((l4_64j + 1), c_twos_64j, c_clashes_64j, c_first_64j, c_where_64j, c_firstTurn_64j))
  else bd1 (f_X8_startOf c_a1_delays c_a1_rows_rowOf c_a1_rows_placeOf l4_64j) (fun r_80 =>
  bd1 (f_X10_at 10 c_a1_rows_placeOf l2) (fun r_95 =>
  bd4 (f_X1_noteClash c_clashes_64j c_first_64j c_where_64j c_firstTurn_64j ((10 * l2) + l4_64j) l5_64j (((r_2 + r_80) * 6) + r_95)) (fun c_clashes_113 c_first_113 c_where_113 c_firstTurn_113 =>
  some (.inl ((l4_64j + 1), c_twos_64j, c_clashes_113, c_first_113, c_where_113, c_firstTurn_113)))))))
noncomputable def f_X1_countOf_b9 (c_a1_widths : Nat → Int32) (c_a1_cells : Nat → Int32) (c_a1_delays : Nat → Int32) (c_a1_rows_rowOf : Nat → Int32) (c_a1_rows_placeOf : Nat → Int32) (l2 : Int32) (r_2 : Int32) (l4_9 : Int32) (c_twos_9 : Int32) (c_clashes_9 : Int32) (c_first_9 : Int32) (c_where_9 : Int32) (c_firstTurn_9 : Int32) : Option ((Int32 × Int32 × Int32 × Int32 × Int32 × Int32) ⊕ (Int32 × Int32 × Int32 × Int32 × Int32 × Int32)) :=
  (if 10 ≤ l4_9 then some (.inr (l4_9, c_twos_9, c_clashes_9, c_first_9, c_where_9, c_firstTurn_9))
  else bd1 (f_X10_at 10 c_a1_rows_rowOf l4_9) (fun r_25 =>
  (if r_25 = 1 then bd1 (f_X8_startOf c_a1_delays c_a1_rows_rowOf c_a1_rows_placeOf l4_9) (fun r_39 =>
  bd1 (f_X8_spotOf r_2 r_39) (fun r_42 =>
  (if r_42 = (-6) then f_X1_countOf_j64 c_a1_widths c_a1_cells c_a1_delays c_a1_rows_rowOf c_a1_rows_placeOf l2 r_2 l4_9 r_42 c_twos_9 c_clashes_9 c_first_9 c_where_9 c_firstTurn_9
  else f_X1_countOf_j64 c_a1_widths c_a1_cells c_a1_delays c_a1_rows_rowOf c_a1_rows_placeOf l2 r_2 l4_9 r_42 (c_twos_9 + 1) c_clashes_9 c_first_9 c_where_9 c_firstTurn_9)))
  else some (.inl ((l4_9 + 1), c_twos_9, c_clashes_9, c_first_9, c_where_9, c_firstTurn_9)))))
noncomputable def f_X1_countOf (c_twos : Int32) (c_clashes : Int32) (c_first : Int32) (c_where : Int32) (c_firstTurn : Int32) (c_a1_widths : Nat → Int32) (c_a1_cells : Nat → Int32) (c_a1_delays : Nat → Int32) (c_a1_rows_rowOf : Nat → Int32) (c_a1_rows_placeOf : Nat → Int32) (l2 : Int32) : Option (Int32 × Int32 × Int32 × Int32 × Int32) :=
  bd1 (f_X8_startOf c_a1_delays c_a1_rows_rowOf c_a1_rows_placeOf l2) (fun r_2 =>
  bd6 (loopN (fun (q : Int32 × Int32 × Int32 × Int32 × Int32 × Int32) => f_X1_countOf_b9 c_a1_widths c_a1_cells c_a1_delays c_a1_rows_rowOf c_a1_rows_placeOf l2 r_2 q.1 q.2.1 q.2.2.1 q.2.2.2.1 q.2.2.2.2.1 q.2.2.2.2.2) FU (0, c_twos, c_clashes, c_first, c_where, c_firstTurn)) (fun l4_9x c_twos_9x c_clashes_9x c_first_9x c_where_9x c_firstTurn_9x =>
  some (c_twos_9x, c_clashes_9x, c_first_9x, c_where_9x, c_firstTurn_9x)))
noncomputable def f_X1_count_b29 (c_a1_widths : Nat → Int32) (c_a1_cells : Nat → Int32) (c_a1_delays : Nat → Int32) (c_a1_rows_rowOf : Nat → Int32) (c_a1_rows_placeOf : Nat → Int32) (l2_29 : Int32) (c_twos_29 : Int32) (c_clashes_29 : Int32) (c_first_29 : Int32) (c_where_29 : Int32) (c_firstTurn_29 : Int32) : Option ((Int32 × Int32 × Int32 × Int32 × Int32 × Int32) ⊕ (Int32 × Int32 × Int32 × Int32 × Int32 × Int32)) :=
  (if 10 ≤ l2_29 then some (.inr (l2_29, c_twos_29, c_clashes_29, c_first_29, c_where_29, c_firstTurn_29))
  else bd1 (f_X10_at 10 c_a1_rows_rowOf l2_29) (fun r_43 =>
  (if r_43 = 0 then bd5 (f_X1_countOf c_twos_29 c_clashes_29 c_first_29 c_where_29 c_firstTurn_29 c_a1_widths c_a1_cells c_a1_delays c_a1_rows_rowOf c_a1_rows_placeOf l2_29) (fun c_twos_52 c_clashes_52 c_first_52 c_where_52 c_firstTurn_52 =>
  some (.inl ((l2_29 + 1), c_twos_52, c_clashes_52, c_first_52, c_where_52, c_firstTurn_52)))
  else some (.inl ((l2_29 + 1), c_twos_29, c_clashes_29, c_first_29, c_where_29, c_firstTurn_29)))))
noncomputable def f_X1_count (c_firstTurn : Int32) (c_a1_widths : Nat → Int32) (c_a1_cells : Nat → Int32) (c_a1_delays : Nat → Int32) (c_a1_rows_rowOf : Nat → Int32) (c_a1_rows_placeOf : Nat → Int32) : Option (Int32 × Int32 × Int32 × Int32 × Int32) :=
  bd6 (loopN (fun (q : Int32 × Int32 × Int32 × Int32 × Int32 × Int32) => f_X1_count_b29 c_a1_widths c_a1_cells c_a1_delays c_a1_rows_rowOf c_a1_rows_placeOf q.1 q.2.1 q.2.2.1 q.2.2.2.1 q.2.2.2.2.1 q.2.2.2.2.2) FU (0, 0, 0, (-6), (-6), c_firstTurn)) (fun l2_29x c_twos_29x c_clashes_29x c_first_29x c_where_29x c_firstTurn_29x =>
  some (c_twos_29x, c_clashes_29x, c_first_29x, c_where_29x, c_firstTurn_29x))
noncomputable def f_X1_gratingWith_j115 (l3_115j : Int32) (l4_115j : Int32) : Option ((Int32 × Int32) ⊕ (Int32 × Int32)) :=
  some (.inl ((l3_115j + 1), (l4_115j + 1)))
noncomputable def f_X1_gratingWith_b5 (c_a0_keys : Nat → Int32) (c_a0_delays : Nat → Int32) (c_a0_rows_rowOf : Nat → Int32) (c_a0_rows_placeOf : Nat → Int32) (l1 : Int32) (l2 : Int32) (l3_5 : Int32) (l4_5 : Int32) : Option ((Int32 × Int32) ⊕ (Int32 × Int32)) :=
  (if 10 ≤ l4_5 then some (.inr (l3_5, l4_5))
  else bd1 (f_X10_at 10 c_a0_rows_rowOf l4_5) (fun r_21 =>
  (if r_21 = 1 then bd1 (f_X10_at 10 c_a0_keys l4_5) (fun r_34 =>
  (if r_34 = 12 then some (.inl (l3_5, (l4_5 + 1)))
  else bd1 (f_X8_startOf c_a0_delays c_a0_rows_rowOf c_a0_rows_placeOf l1) (fun r_47 =>
  bd1 (f_X8_startOf c_a0_delays c_a0_rows_rowOf c_a0_rows_placeOf l4_5) (fun r_53 =>
  bd1 (f_X8_spotOf r_47 r_53) (fun r_56 =>
  (if r_56 = (-6) then some (.inl (l3_5, (l4_5 + 1)))
  else bd1 (f_X10_at 10 c_a0_keys l1) (fun r_72 =>
  bd1 (f_X10_at 10 c_a0_keys l4_5) (fun r_81 =>
  nmv (if 0 ≤ (r_72 - ((r_81 + l2) - ((r_81 + l2) / 12) * 12)) then (r_72 - ((r_81 + l2) - ((r_81 + l2) / 12) * 12)) else 0 - (r_72 - ((r_81 + l2) - ((r_81 + l2) / 12) * 12))) (fun l5_93s =>
  (if l5_93s = 1 then f_X1_gratingWith_j115 l3_5 l4_5
  else (if l5_93s = 6 then f_X1_gratingWith_j115 l3_5 l4_5
  else (if l5_93s = 11 then f_X1_gratingWith_j115 l3_5 l4_5
  else some (.inl (l3_5, (l4_5 + 1)))))))))))))))
  else some (.inl (l3_5, (l4_5 + 1))))))
noncomputable def f_X1_gratingWith (c_a0_keys : Nat → Int32) (c_a0_delays : Nat → Int32) (c_a0_rows_rowOf : Nat → Int32) (c_a0_rows_placeOf : Nat → Int32) (l1 : Int32) (l2 : Int32) : Option (Int32) :=
  bd2 (loopN (fun (q : Int32 × Int32) => f_X1_gratingWith_b5 c_a0_keys c_a0_delays c_a0_rows_rowOf c_a0_rows_placeOf l1 l2 q.1 q.2) FU (0, 0)) (fun l3_5x l4_5x =>
  some l3_5x)
noncomputable def f_X1_grating_b11 (c_a1_keys : Nat → Int32) (c_a1_delays : Nat → Int32) (c_a1_rows_rowOf : Nat → Int32) (c_a1_rows_placeOf : Nat → Int32) (l2 : Int32) (l3_11 : Int32) (l4_11 : Int32) : Option ((Int32 × Int32) ⊕ (Int32 × Int32)) :=
  (if 10 ≤ l4_11 then some (.inr (l3_11, l4_11))
  else bd1 (f_X10_at 10 c_a1_rows_rowOf l4_11) (fun r_27 =>
  (if r_27 = 0 then bd1 (f_X10_at 10 c_a1_keys l4_11) (fun r_39 =>
  (if r_39 = 12 then some (.inl (l3_11, (l4_11 + 1)))
  else bd1 (f_X1_gratingWith c_a1_keys c_a1_delays c_a1_rows_rowOf c_a1_rows_placeOf l4_11 l2) (fun r_52 =>
  some (.inl ((l3_11 + r_52), (l4_11 + 1))))))
  else some (.inl (l3_11, (l4_11 + 1))))))
noncomputable def f_X1_grating (c_a1_keys : Nat → Int32) (c_a1_delays : Nat → Int32) (c_a1_rows_rowOf : Nat → Int32) (c_a1_rows_placeOf : Nat → Int32) (l2 : Int32) : Option (Int32) :=
  bd2 (loopN (fun (q : Int32 × Int32) => f_X1_grating_b11 c_a1_keys c_a1_delays c_a1_rows_rowOf c_a1_rows_placeOf l2 q.1 q.2) FU (0, 0)) (fun l3_11x l4_11x =>
  some l3_11x)
noncomputable def f_X3_gather_b12 (c_a1_rowOf : Nat → Int32) (l2 : Int32) (l3_12 : Int32) (c_size_12 : Int32) (c_crowd_12 : Nat → Int32) : Option ((Int32 × Int32 × (Nat → Int32)) ⊕ (Int32 × Int32 × (Nat → Int32))) :=
  (if 10 ≤ l3_12 then some (.inr (l3_12, c_size_12, c_crowd_12))
  else bd1 (f_X10_at 10 c_a1_rowOf l3_12) (fun r_23 =>
  (if r_23 = l2 then (if 6 ≤ c_size_12 then some (.inl ((l3_12 + 1), c_size_12, c_crowd_12))
  else bd1 (f_X10_put 6 c_crowd_12 c_size_12 l3_12) (fun c_crowd_48 =>
  some (.inl ((l3_12 + 1), (c_size_12 + 1), c_crowd_48))))
  else some (.inl ((l3_12 + 1), c_size_12, c_crowd_12)))))
noncomputable def f_X3_gather (c_crowd : Nat → Int32) (c_a1_rowOf : Nat → Int32) (l2 : Int32) : Option (Int32 × (Nat → Int32)) :=
  bd3 (loopN (fun (q : Int32 × Int32 × (Nat → Int32)) => f_X3_gather_b12 c_a1_rowOf l2 q.1 q.2.1 q.2.2) FU (0, 0, c_crowd)) (fun l3_12x c_size_12x c_crowd_12x =>
  some (c_size_12x, c_crowd_12x))
noncomputable def f_X3_all (c_size : Int32) : Option (Int32) :=
  some ((1 <<< (c_size &&& 31)) - 1)
noncomputable def f_X3_answerForAll (c_size : Int32) (c_answers : Nat → Int32) : Option (Int32) :=
  bd1 (f_X3_all c_size) (fun r_5 =>
  bd1 (f_X10_at 64 c_answers r_5) (fun r_8 =>
  some r_8))
noncomputable def f_X3_holds (l0 : Int32) (l1 : Int32) : Option (Int32) :=
  (if (l0 &&& (1 <<< (l1 &&& 31))) = 0 then some 0
  else some 1)
noncomputable def f_X3_without (l0 : Int32) (l1 : Int32) : Option (Int32) :=
  some (l0 &&& ((1 <<< (l1 &&& 31)) ^^^ (-1)))
noncomputable def f_X3_ledBy (c_size : Int32) (c_costs : Nat → Int32) (c_answers : Nat → Int32) (l1 : Int32) (l2 : Int32) : Option (Int32) :=
  bd1 (f_J6_bitCount_0f7a4 l1) (fun r_5 =>
  bd1 (f_X10_at 36 c_costs ((l2 * 6) + (c_size - r_5))) (fun r_20 =>
  bd1 (f_X3_without l1 l2) (fun r_29 =>
  bd1 (f_X10_at 64 c_answers r_29) (fun r_32 =>
  some (r_20 + r_32)))))
noncomputable def f_X3_fewestOf_j46 (l3_46j : Int32) (s0_46j : Int32) : Option ((Int32 × Int32) ⊕ (Int32 × Int32)) :=
  some (.inl (s0_46j, (l3_46j + 1)))
noncomputable def f_X3_fewestOf_b5 (c_size : Int32) (c_costs : Nat → Int32) (c_answers : Nat → Int32) (l1 : Int32) (l2_5 : Int32) (l3_5 : Int32) : Option ((Int32 × Int32) ⊕ (Int32 × Int32)) :=
  (if c_size ≤ l3_5 then some (.inr (l2_5, l3_5))
  else bd1 (f_X3_holds l1 l3_5) (fun r_15 =>
  (if r_15 = 0 then some (.inl (l2_5, (l3_5 + 1)))
  else bd1 (f_X3_ledBy c_size c_costs c_answers l1 l3_5) (fun r_24 =>
  (if l2_5 = (-6) then f_X3_fewestOf_j46 l3_5 r_24
  else f_X3_fewestOf_j46 l3_5 (if r_24 < l2_5 then r_24 else l2_5))))))
noncomputable def f_X3_fewestOf (c_size : Int32) (c_costs : Nat → Int32) (c_answers : Nat → Int32) (l1 : Int32) : Option (Int32) :=
  bd2 (loopN (fun (q : Int32 × Int32) => f_X3_fewestOf_b5 c_size c_costs c_answers l1 q.1 q.2) FU ((-6), 0)) (fun l2_5x l3_5x =>
  some l2_5x)
noncomputable def f_X3_countClashes_b18 (c_size : Int32) (c_crowd : Nat → Int32) (c_a1_widths : Nat → Int32) (c_a1_cells : Nat → Int32) (c_a1_delays : Nat → Int32) (c_a1_rows_rowOf : Nat → Int32) (c_a1_rows_placeOf : Nat → Int32) (l2 : Int32) (l3_7 : Int32) (l4_18 : Int32) (c_costs_18 : Nat → Int32) : Option ((Int32 × (Nat → Int32)) ⊕ (Int32 × (Nat → Int32))) :=
  (if c_size ≤ l4_18 then some (.inr (l4_18, c_costs_18))
  else bd1 (f_X10_at 6 c_crowd l3_7) (fun r_47 =>
  bd1 (f_X8_clashesIn c_a1_widths c_a1_cells c_a1_delays c_a1_rows_rowOf c_a1_rows_placeOf l2 l4_18 r_47) (fun r_50 =>
  bd1 (f_X10_put 36 c_costs_18 ((l3_7 * 6) + l4_18) r_50) (fun c_costs_53 =>
  some (.inl ((l4_18 + 1), c_costs_53))))))
noncomputable def f_X3_countClashes_b7 (c_size : Int32) (c_crowd : Nat → Int32) (c_a1_widths : Nat → Int32) (c_a1_cells : Nat → Int32) (c_a1_delays : Nat → Int32) (c_a1_rows_rowOf : Nat → Int32) (c_a1_rows_placeOf : Nat → Int32) (l2 : Int32) (l3_7 : Int32) (c_costs_7 : Nat → Int32) : Option ((Int32 × (Nat → Int32)) ⊕ (Int32 × (Nat → Int32))) :=
  (if c_size ≤ l3_7 then some (.inr (l3_7, c_costs_7))
  else bd2 (loopN (fun (q : Int32 × (Nat → Int32)) => f_X3_countClashes_b18 c_size c_crowd c_a1_widths c_a1_cells c_a1_delays c_a1_rows_rowOf c_a1_rows_placeOf l2 l3_7 q.1 q.2) FU (0, c_costs_7)) (fun l4_18x c_costs_18x =>
  some (.inl ((l3_7 + 1), c_costs_18x))))
noncomputable def f_X3_countClashes_b85 (c_size : Int32) (c_costs_7x : Nat → Int32) (r_69 : Int32) (l4_85 : Int32) (c_answers_85 : Nat → Int32) : Option ((Int32 × (Nat → Int32)) ⊕ (Int32 × (Nat → Int32))) :=
  (if r_69 < l4_85 then some (.inr (l4_85, c_answers_85))
  else bd1 (f_X3_fewestOf c_size c_costs_7x c_answers_85 l4_85) (fun r_100 =>
  bd1 (f_X10_put 64 c_answers_85 l4_85 r_100) (fun c_answers_103 =>
  some (.inl ((l4_85 + 1), c_answers_103)))))
noncomputable def f_X3_countClashes (c_size : Int32) (c_crowd : Nat → Int32) (c_costs : Nat → Int32) (c_answers : Nat → Int32) (c_a1_widths : Nat → Int32) (c_a1_cells : Nat → Int32) (c_a1_delays : Nat → Int32) (c_a1_rows_rowOf : Nat → Int32) (c_a1_rows_placeOf : Nat → Int32) (l2 : Int32) : Option ((Nat → Int32) × (Nat → Int32)) :=
  bd2 (loopN (fun (q : Int32 × (Nat → Int32)) => f_X3_countClashes_b7 c_size c_crowd c_a1_widths c_a1_cells c_a1_delays c_a1_rows_rowOf c_a1_rows_placeOf l2 q.1 q.2) FU (0, c_costs)) (fun l3_7x c_costs_7x =>
  bd1 (f_X3_all c_size) (fun r_69 =>
  bd1 (f_X10_put 64 c_answers 0 0) (fun c_answers_79 =>
  bd2 (loopN (fun (q : Int32 × (Nat → Int32)) => f_X3_countClashes_b85 c_size c_costs_7x r_69 q.1 q.2) FU (1, c_answers_79)) (fun l4_85x c_answers_85x =>
  some (c_costs_7x, c_answers_85x)))))
noncomputable def f_X3_firstOfFewest_b28 (c_size : Int32) (c_costs : Nat → Int32) (c_answers : Nat → Int32) (l1_9 : Int32) (l4_28 : Int32) (l5_28 : Int32) : Option ((Int32 × Int32) ⊕ (Int32 × Int32)) :=
  (if l5_28 < 0 then some (.inr (l4_28, l5_28))
  else bd1 (f_X3_holds l1_9 l5_28) (fun r_36 =>
  (if r_36 = 0 then some (.inl (l4_28, (l5_28 + (-1))))
  else bd1 (f_X3_ledBy c_size c_costs c_answers l1_9 l5_28) (fun r_46 =>
  bd1 (f_X10_at 64 c_answers l1_9) (fun r_54 =>
  (if r_46 = r_54 then some (.inl (l5_28, (l5_28 + (-1))))
  else some (.inl (l4_28, (l5_28 + (-1))))))))))
noncomputable def f_X3_firstOfFewest_b9 (c_size : Int32) (c_crowd : Nat → Int32) (c_costs : Nat → Int32) (c_answers : Nat → Int32) (l1_9 : Int32) (l2_9 : Int32) (l3_9 : Int32) : Option ((Int32 × Int32 × Int32) ⊕ (Int32 × Int32 × Int32)) :=
  (if c_size ≤ l3_9 then some (.inr (l1_9, l2_9, l3_9))
  else bd2 (loopN (fun (q : Int32 × Int32) => f_X3_firstOfFewest_b28 c_size c_costs c_answers l1_9 q.1 q.2) FU (0, (c_size - 1))) (fun l4_28x l5_28x =>
  bd1 (f_X10_at 6 c_crowd l4_28x) (fun r_80 =>
  bd1 (f_X3_without l1_9 l4_28x) (fun r_88 =>
  some (.inl (r_88, ((10 * l2_9) + r_80), (l3_9 + 1)))))))
noncomputable def f_X3_firstOfFewest (c_size : Int32) (c_crowd : Nat → Int32) (c_costs : Nat → Int32) (c_answers : Nat → Int32) : Option (Int32) :=
  bd1 (f_X3_all c_size) (fun r_1 =>
  bd3 (loopN (fun (q : Int32 × Int32 × Int32) => f_X3_firstOfFewest_b9 c_size c_crowd c_costs c_answers q.1 q.2.1 q.2.2) FU (r_1, 0, 0)) (fun l1_9x l2_9x l3_9x =>
  some l2_9x))
noncomputable def f_X3_holdsMember_b2 (c_size : Int32) (c_crowd : Nat → Int32) (l1 : Int32) (l2 : Int32) (l3_2 : Int32) : Option ((Int32) ⊕ ((Int32) ⊕ (Int32))) :=
  (if c_size ≤ l3_2 then some (.inr (.inl l3_2))
  else bd1 (f_X3_holds l1 l3_2) (fun r_12 =>
  (if r_12 = 0 then some (.inl (l3_2 + 1))
  else bd1 (f_X10_at 6 c_crowd l3_2) (fun r_23 =>
  (if r_23 = l2 then some (.inr (.inr 1))
  else some (.inl (l3_2 + 1)))))))
noncomputable def f_X3_holdsMember (c_size : Int32) (c_crowd : Nat → Int32) (l1 : Int32) (l2 : Int32) : Option (Int32) :=
  bdr (loopN (fun (q : Int32) => f_X3_holdsMember_b2 c_size c_crowd l1 l2 q) FU 0) (fun v => v) (fun (q_2 : Int32) =>
  some 0)
noncomputable def f_X3_mayLead_b9 (n_a1 : Nat) (c_size : Int32) (c_crowd : Nat → Int32) (c_a1_count : Int32) (c_a1_firsts : Nat → Int32) (c_a1_seconds : Nat → Int32) (l2 : Int32) (l3 : Int32) (l4_9 : Int32) : Option ((Int32) ⊕ ((Int32) ⊕ (Int32))) :=
  (if c_a1_count ≤ l4_9 then some (.inr (.inl l4_9))
  else bd1 (f_X10_at n_a1 c_a1_seconds l4_9) (fun r_24 =>
  bd1 (f_X10_at 6 c_crowd l3) (fun r_32 =>
  (if r_24 = r_32 then bd1 (f_X10_at n_a1 c_a1_firsts l4_9) (fun r_46 =>
  bd1 (f_X3_holdsMember c_size c_crowd l2 r_46) (fun r_49 =>
  (if r_49 = 0 then some (.inl (l4_9 + 1))
  else some (.inr (.inr 0)))))
  else some (.inl (l4_9 + 1))))))
noncomputable def f_X3_mayLead (n_a1 : Nat) (c_size : Int32) (c_crowd : Nat → Int32) (c_a1_count : Int32) (c_a1_firsts : Nat → Int32) (c_a1_seconds : Nat → Int32) (l2 : Int32) (l3 : Int32) : Option (Int32) :=
  bdr (loopN (fun (q : Int32) => f_X3_mayLead_b9 n_a1 c_size c_crowd c_a1_count c_a1_firsts c_a1_seconds l2 l3 q) FU 0) (fun v => v) (fun (q_9 : Int32) =>
  some 1)
noncomputable def f_X3_countOrders_b27 (n_a1 : Nat) (c_size : Int32) (c_crowd : Nat → Int32) (c_a1_count : Int32) (c_a1_firsts : Nat → Int32) (c_a1_seconds : Nat → Int32) (l3_16 : Int32) (c_answers_16 : Nat → Int32) (l4_27 : Int32) (l5_27 : Int32) : Option ((Int32 × Int32) ⊕ (Int32 × Int32)) :=
  (if c_size ≤ l5_27 then some (.inr (l4_27, l5_27))
  else bd1 (f_X3_holds l3_16 l5_27) (fun r_39 =>
  (if r_39 = 0 then some (.inl (l4_27, (l5_27 + 1)))
  else bd1 (f_X3_mayLead n_a1 c_size c_crowd c_a1_count c_a1_firsts c_a1_seconds l3_16 l5_27) (fun r_50 =>
  (if r_50 = 0 then some (.inl (l4_27, (l5_27 + 1)))
  else bd1 (f_X3_without l3_16 l5_27) (fun r_65 =>
  bd1 (f_X10_at 64 c_answers_16 r_65) (fun r_68 =>
  some (.inl ((l4_27 + r_68), (l5_27 + 1))))))))))
noncomputable def f_X3_countOrders_b16 (n_a1 : Nat) (c_size : Int32) (c_crowd : Nat → Int32) (c_a1_count : Int32) (c_a1_firsts : Nat → Int32) (c_a1_seconds : Nat → Int32) (r_1 : Int32) (l3_16 : Int32) (c_answers_16 : Nat → Int32) : Option ((Int32 × (Nat → Int32)) ⊕ (Int32 × (Nat → Int32))) :=
  (if r_1 < l3_16 then some (.inr (l3_16, c_answers_16))
  else bd2 (loopN (fun (q : Int32 × Int32) => f_X3_countOrders_b27 n_a1 c_size c_crowd c_a1_count c_a1_firsts c_a1_seconds l3_16 c_answers_16 q.1 q.2) FU (0, 0)) (fun l4_27x l5_27x =>
  bd1 (f_X10_put 64 c_answers_16 l3_16 l4_27x) (fun c_answers_87 =>
  some (.inl ((l3_16 + 1), c_answers_87)))))
noncomputable def f_X3_countOrders (n_a1 : Nat) (c_size : Int32) (c_crowd : Nat → Int32) (c_answers : Nat → Int32) (c_a1_count : Int32) (c_a1_firsts : Nat → Int32) (c_a1_seconds : Nat → Int32) : Option ((Nat → Int32)) :=
  bd1 (f_X3_all c_size) (fun r_1 =>
  bd1 (f_X10_put 64 c_answers 0 1) (fun c_answers_11 =>
  bd2 (loopN (fun (q : Int32 × (Nat → Int32)) => f_X3_countOrders_b16 n_a1 c_size c_crowd c_a1_count c_a1_firsts c_a1_seconds r_1 q.1 q.2) FU (1, c_answers_11)) (fun l3_16x c_answers_16x =>
  some c_answers_16x)))
noncomputable def f_X3_firstByRules_b40 (n_a1 : Nat) (c_size : Int32) (c_crowd : Nat → Int32) (c_a1_count : Int32) (c_a1_firsts : Nat → Int32) (c_a1_seconds : Nat → Int32) (l2_20 : Int32) (l5_40 : Int32) (l6_40 : Int32) : Option ((Int32 × Int32) ⊕ (Int32 × Int32)) :=
  (if l6_40 < 0 then some (.inr (l5_40, l6_40))
  else bd1 (f_X3_holds l2_20 l6_40) (fun r_48 =>
  (if r_48 = 0 then some (.inl (l5_40, (l6_40 + (-1))))
  else bd1 (f_X3_mayLead n_a1 c_size c_crowd c_a1_count c_a1_firsts c_a1_seconds l2_20 l6_40) (fun r_59 =>
  (if r_59 = 0 then some (.inl (l5_40, (l6_40 + (-1))))
  else some (.inl (l6_40, (l6_40 + (-1)))))))))
noncomputable def f_X3_firstByRules_b20 (n_a1 : Nat) (c_size : Int32) (c_crowd : Nat → Int32) (c_a1_count : Int32) (c_a1_firsts : Nat → Int32) (c_a1_seconds : Nat → Int32) (l2_20 : Int32) (l3_20 : Int32) (l4_20 : Int32) : Option ((Int32 × Int32 × Int32) ⊕ (Int32 × Int32 × Int32)) :=
  (if c_size ≤ l4_20 then some (.inr (l2_20, l3_20, l4_20))
  else bd2 (loopN (fun (q : Int32 × Int32) => f_X3_firstByRules_b40 n_a1 c_size c_crowd c_a1_count c_a1_firsts c_a1_seconds l2_20 q.1 q.2) FU (0, (c_size - 1))) (fun l5_40x l6_40x =>
  bd1 (f_X10_at 6 c_crowd l5_40x) (fun r_85 =>
  bd1 (f_X3_without l2_20 l5_40x) (fun r_93 =>
  some (.inl (r_93, ((10 * l3_20) + r_85), (l4_20 + 1)))))))
noncomputable def f_X3_firstByRules (n_a1 : Nat) (c_size : Int32) (c_crowd : Nat → Int32) (c_answers : Nat → Int32) (c_a1_count : Int32) (c_a1_firsts : Nat → Int32) (c_a1_seconds : Nat → Int32) : Option (Int32) :=
  bd1 (f_X3_answerForAll c_size c_answers) (fun r_1 =>
  (if r_1 = 0 then some (-6)
  else bd1 (f_X3_all c_size) (fun r_11 =>
  bd3 (loopN (fun (q : Int32 × Int32 × Int32) => f_X3_firstByRules_b20 n_a1 c_size c_crowd c_a1_count c_a1_firsts c_a1_seconds q.1 q.2.1 q.2.2) FU (r_11, 0, 0)) (fun l2_20x l3_20x l4_20x =>
  some l3_20x))))
noncomputable def f_X9_cellAt (l0 : Int32) (l1 : Int32) (l2 : Int32) : Option (Int32) :=
  bd1 (f_X10_within (l2 - l1) 0 16) (fun r_8 =>
  (if r_8 = 0 then some 17
  else (if l0 = 0 then some (l2 - l1)
  else some (16 - (l2 - l1)))))
noncomputable def f_X9_allAreSo_b8 (n_a0 : Nat) (c_a0_count : Int32) (c_a0_firsts : Nat → Int32) (c_a0_seconds : Nat → Int32) (l1 : Int32) (l2 : Int32) (l3_8 : Int32) : Option ((Int32) ⊕ ((Int32) ⊕ (Int32))) :=
  (if c_a0_count ≤ l3_8 then some (.inr (.inl l3_8))
  else bd1 (f_X10_at n_a0 c_a0_seconds l3_8) (fun r_23 =>
  bd1 (f_X9_cellAt l1 l2 r_23) (fun r_26 =>
  bd1 (f_X10_at n_a0 c_a0_firsts l3_8) (fun r_34 =>
  (if r_26 = r_34 then some (.inl (l3_8 + 1))
  else some (.inr (.inr 0)))))))
noncomputable def f_X9_allAreSo (n_a0 : Nat) (c_a0_count : Int32) (c_a0_firsts : Nat → Int32) (c_a0_seconds : Nat → Int32) (l1 : Int32) (l2 : Int32) : Option (Int32) :=
  bdr (loopN (fun (q : Int32) => f_X9_allAreSo_b8 n_a0 c_a0_count c_a0_firsts c_a0_seconds l1 l2 q) FU 0) (fun v => v) (fun (q_8 : Int32) =>
  some 1)
noncomputable def f_X9_fit_b43 (c_a1_delays : Nat → Int32) (c_a1_rows_rowOf : Nat → Int32) (c_a1_rows_placeOf : Nat → Int32) (c_a1_sights_count : Int32) (c_a1_sights_firsts : Nat → Int32) (c_a1_sights_seconds : Nat → Int32) (l2_22 : Int32) (r_36 : Int32) (l4_43 : Int32) (c_count_43 : Int32) (c_memberBits_43 : Int32) (c_lateBits_43 : Int32) (c_rowOf_43 : Nat → Int32) (c_startOf_43 : Nat → Int32) : Option ((Int32 × Int32 × Int32 × Int32 × (Nat → Int32) × (Nat → Int32)) ⊕ (Int32 × Int32 × Int32 × Int32 × (Nat → Int32) × (Nat → Int32))) :=
  (if r_36 = 2 then some (.inr (l4_43, c_count_43, c_memberBits_43, c_lateBits_43, c_rowOf_43, c_startOf_43))
  else (if 10 ≤ l4_43 then some (.inr (l4_43, c_count_43, c_memberBits_43, c_lateBits_43, c_rowOf_43, c_startOf_43))
  else bd1 (f_X8_startOf c_a1_delays c_a1_rows_rowOf c_a1_rows_placeOf l2_22) (fun r_57 =>
  bd1 (f_X9_allAreSo 8 c_a1_sights_count c_a1_sights_firsts c_a1_sights_seconds r_36 (r_57 + l4_43)) (fun r_72 =>
  (if r_72 = 0 then some (.inl ((l4_43 + 1), c_count_43, c_memberBits_43, c_lateBits_43, c_rowOf_43, c_startOf_43))
  else bd1 (f_X10_put 100 c_rowOf_43 c_count_43 r_36) (fun c_rowOf_87 =>
  bd1 (f_X10_put 100 c_startOf_43 c_count_43 (r_57 + l4_43)) (fun c_startOf_100 =>
  some (.inl ((l4_43 + 1), (c_count_43 + 1), (c_memberBits_43 ||| (1 <<< (l2_22 &&& 31))), (c_lateBits_43 ||| (1 <<< (l4_43 &&& 31))), c_rowOf_87, c_startOf_100)))))))))
noncomputable def f_X9_fit_b22 (c_a1_delays : Nat → Int32) (c_a1_rows_rowOf : Nat → Int32) (c_a1_rows_placeOf : Nat → Int32) (c_a1_sights_count : Int32) (c_a1_sights_firsts : Nat → Int32) (c_a1_sights_seconds : Nat → Int32) (l2_22 : Int32) (c_count_22 : Int32) (c_memberBits_22 : Int32) (c_lateBits_22 : Int32) (c_rowOf_22 : Nat → Int32) (c_startOf_22 : Nat → Int32) : Option ((Int32 × Int32 × Int32 × Int32 × (Nat → Int32) × (Nat → Int32)) ⊕ (Int32 × Int32 × Int32 × Int32 × (Nat → Int32) × (Nat → Int32))) :=
  (if 10 ≤ l2_22 then some (.inr (l2_22, c_count_22, c_memberBits_22, c_lateBits_22, c_rowOf_22, c_startOf_22))
  else bd1 (f_X10_at 10 c_a1_rows_rowOf l2_22) (fun r_36 =>
  bd6 (loopN (fun (q : Int32 × Int32 × Int32 × Int32 × (Nat → Int32) × (Nat → Int32)) => f_X9_fit_b43 c_a1_delays c_a1_rows_rowOf c_a1_rows_placeOf c_a1_sights_count c_a1_sights_firsts c_a1_sights_seconds l2_22 r_36 q.1 q.2.1 q.2.2.1 q.2.2.2.1 q.2.2.2.2.1 q.2.2.2.2.2) FU (0, c_count_22, c_memberBits_22, c_lateBits_22, c_rowOf_22, c_startOf_22)) (fun l4_43x c_count_43x c_memberBits_43x c_lateBits_43x c_rowOf_43x c_startOf_43x =>
  some (.inl ((l2_22 + 1), c_count_43x, c_memberBits_43x, c_lateBits_43x, c_rowOf_43x, c_startOf_43x)))))
noncomputable def f_X9_fit (c_rowOf : Nat → Int32) (c_startOf : Nat → Int32) (c_a1_delays : Nat → Int32) (c_a1_rows_rowOf : Nat → Int32) (c_a1_rows_placeOf : Nat → Int32) (c_a1_sights_count : Int32) (c_a1_sights_firsts : Nat → Int32) (c_a1_sights_seconds : Nat → Int32) : Option (Int32 × Int32 × Int32 × (Nat → Int32) × (Nat → Int32)) :=
  bd6 (loopN (fun (q : Int32 × Int32 × Int32 × Int32 × (Nat → Int32) × (Nat → Int32)) => f_X9_fit_b22 c_a1_delays c_a1_rows_rowOf c_a1_rows_placeOf c_a1_sights_count c_a1_sights_firsts c_a1_sights_seconds q.1 q.2.1 q.2.2.1 q.2.2.2.1 q.2.2.2.2.1 q.2.2.2.2.2) FU (0, 0, 0, 0, c_rowOf, c_startOf)) (fun l2_22x c_count_22x c_memberBits_22x c_lateBits_22x c_rowOf_22x c_startOf_22x =>
  some (c_count_22x, c_memberBits_22x, c_lateBits_22x, c_rowOf_22x, c_startOf_22x))
noncomputable def f_X9_mostLeftAt_b12 (c_count : Int32) (c_rowOf : Nat → Int32) (c_startOf : Nat → Int32) (l1 : Int32) (l2_12 : Int32) (l3_12 : Int32) (c_tally_12 : Nat → Int32) : Option ((Int32 × Int32 × (Nat → Int32)) ⊕ (Int32 × Int32 × (Nat → Int32))) :=
  (if c_count ≤ l3_12 then some (.inr (l2_12, l3_12, c_tally_12))
  else bd1 (f_X10_at 100 c_rowOf l3_12) (fun r_25 =>
  bd1 (f_X10_at 100 c_startOf l3_12) (fun r_33 =>
  bd1 (f_X9_cellAt r_25 r_33 l1) (fun r_37 =>
  bd1 (f_X10_at 18 c_tally_12 r_37) (fun r_48 =>
  bd1 (f_X10_put 18 c_tally_12 r_37 (r_48 + 1)) (fun c_tally_63 =>
  nmv (if l2_12 < (r_48 + 1) then (r_48 + 1) else l2_12) (fun l2_72s =>
  some (.inl (l2_72s, (l3_12 + 1), c_tally_63)))))))))
noncomputable def f_X9_mostLeftAt (c_count : Int32) (c_rowOf : Nat → Int32) (c_startOf : Nat → Int32) (c_tally : Nat → Int32) (l1 : Int32) : Option (Int32 × (Nat → Int32)) :=
  bd1 (f_X10_fill 18 c_tally 0) (fun c_tally_5 =>
  bd3 (loopN (fun (q : Int32 × Int32 × (Nat → Int32)) => f_X9_mostLeftAt_b12 c_count c_rowOf c_startOf l1 q.1 q.2.1 q.2.2) FU (0, 0, c_tally_5)) (fun l2_12x l3_12x c_tally_12x =>
  some (l2_12x, c_tally_12x)))
noncomputable def f_X2_weigh_j25 (l3_25j : Int32) (c_weights_25j : Nat → Int64) (s1_25j : Int32) (s2_25j : Int64) : Option ((Int32 × (Nat → Int64)) ⊕ (Int32 × (Nat → Int64))) :=
  gd s1_25j 13 (some (.inl ((l3_25j + 1), (vp_updL c_weights_25j (Int32.toNatClampNeg s1_25j) s2_25j))))
noncomputable def f_X2_weigh_b2 (l3_2 : Int32) (c_weights_2 : Nat → Int64) : Option ((Int32 × (Nat → Int64)) ⊕ (Int32 × (Nat → Int64))) :=
  (if 13 ≤ l3_2 then some (.inr (l3_2, c_weights_2))
  else (if l3_2 = 0 then f_X2_weigh_j25 l3_2 c_weights_2 l3_2 1
  else f_X2_weigh_j25 l3_2 c_weights_2 l3_2 0))
noncomputable def f_X2_weigh_j71 (l2 : Int32) (l4_71j : Int32) (c_weights_71j : Nat → Int64) (s0_71j : Int64) : Option ((Int32 × (Nat → Int64)) ⊕ (Int32 × (Nat → Int64))) :=
  gd l4_71j 13 (gd l4_71j 13 (some (.inl ((l4_71j + (-1)), (vp_updL c_weights_71j (Int32.toNatClampNeg l4_71j) (((c_weights_71j (Int32.toNatClampNeg l4_71j)) * (Int32.toInt64 l2)) + (s0_71j * (Int32.toInt64 (10 - l2)))))))))
noncomputable def f_X2_weigh_b48 (l2 : Int32) (l4_48 : Int32) (c_weights_48 : Nat → Int64) : Option ((Int32 × (Nat → Int64)) ⊕ (Int32 × (Nat → Int64))) :=
  (if l4_48 < 0 then some (.inr (l4_48, c_weights_48))
  else (if l4_48 ≤ 0 then f_X2_weigh_j71 l2 l4_48 c_weights_48 0
  else gd (l4_48 - 1) 13 (f_X2_weigh_j71 l2 l4_48 c_weights_48 (c_weights_48 (Int32.toNatClampNeg (l4_48 - 1))))))
noncomputable def f_X2_weigh_b34 (l1 : Int32) (l2 : Int32) (l3_34 : Int32) (c_weights_34 : Nat → Int64) : Option ((Int32 × (Nat → Int64)) ⊕ (Int32 × (Nat → Int64))) :=
  (if l1 ≤ l3_34 then some (.inr (l3_34, c_weights_34))
  else bd2 (loopN (fun (q : Int32 × (Nat → Int64)) => f_X2_weigh_b48 l2 q.1 q.2) FU ((13 - 1), c_weights_34)) (fun l4_48x c_weights_48x =>
  some (.inl ((l3_34 + 1), c_weights_48x))))
noncomputable def f_X2_weigh (c_weights : Nat → Int64) (l1 : Int32) (l2 : Int32) : Option ((Nat → Int64)) :=
  bd2 (loopN (fun (q : Int32 × (Nat → Int64)) => f_X2_weigh_b2 q.1 q.2) FU (0, c_weights)) (fun l3_2x c_weights_2x =>
  bd2 (loopN (fun (q : Int32 × (Nat → Int64)) => f_X2_weigh_b34 l1 l2 q.1 q.2) FU (0, c_weights_2x)) (fun l3_34x c_weights_34x =>
  some c_weights_34x))
noncomputable def f_X2_commonDivisor_b9 (l4_9 : Int64) (l6_9 : Int64) (l8_9 : Int32) : Option ((Int64 × Int64 × Int32) ⊕ (Int64 × Int64 × Int32)) :=
  (if 200 ≤ l8_9 then some (.inr (l4_9, l6_9, l8_9))
  else (if (lg_cmp l6_9 0) = 0 then some (.inr (l4_9, l6_9, l8_9))
  else nzl l6_9 (some (.inl (l6_9, (l4_9 - (l4_9 / l6_9) * l6_9), (l8_9 + 1))))))
noncomputable def f_X2_commonDivisor (l0 : Int64) (l2 : Int64) : Option (Int64) :=
  bd3 (loopN (fun (q : Int64 × Int64 × Int32) => f_X2_commonDivisor_b9 q.1 q.2.1 q.2.2) FU (l0, l2, 0)) (fun l4_9x l6_9x l8_9x =>
  some l4_9x)
noncomputable def f_X2_reckon_j120 (c_upper_120j : Int64) (c_weights_120j : Nat → Int64) (s1_120j : Int64) : Option (Int64 × Int64 × (Nat → Int64)) :=
  some (c_upper_120j, s1_120j, c_weights_120j)
noncomputable def f_X2_reckon_j99 (l6_99j : Int64) (l8_99j : Int64) (c_weights_99j : Nat → Int64) (s1_99j : Int64) : Option (Int64 × Int64 × (Nat → Int64)) :=
  (if (lg_cmp l8_99j 0) ≤ 0 then f_X2_reckon_j120 s1_99j c_weights_99j l6_99j
  else nzl l8_99j (f_X2_reckon_j120 s1_99j c_weights_99j (l6_99j / l8_99j)))
noncomputable def f_X2_reckon_b12 (l3 : Int32) (c_weights_3 : Nat → Int64) (l4_12 : Int64) (l6_12 : Int32) : Option ((Int64 × Int32) ⊕ (Int64 × Int32)) :=
  (if 13 ≤ l6_12 then some (.inr (l4_12, l6_12))
  else (if l6_12 < l3 then some (.inl (l4_12, (l6_12 + 1)))
  else gd l6_12 13 (nmv (l4_12 + (c_weights_3 (Int32.toNatClampNeg l6_12))) (fun l4_38s =>
  some (.inl (l4_38s, (l6_12 + 1)))))))
noncomputable def f_X2_reckon_b52 (l1 : Int32) (l6_52 : Int64) (l8_52 : Int32) : Option ((Int64 × Int32) ⊕ (Int64 × Int32)) :=
  (if l1 ≤ l8_52 then some (.inr (l6_52, l8_52))
  else some (.inl ((l6_52 * 10), (l8_52 + 1))))
noncomputable def f_X2_reckon (c_weights : Nat → Int64) (l1 : Int32) (l2 : Int32) (l3 : Int32) : Option (Int64 × Int64 × (Nat → Int64)) :=
  bd1 (f_X2_weigh c_weights l1 l2) (fun c_weights_3 =>
  bd2 (loopN (fun (q : Int64 × Int32) => f_X2_reckon_b12 l3 c_weights_3 q.1 q.2) FU (0, 0)) (fun l4_12x l6_12x =>
  bd2 (loopN (fun (q : Int64 × Int32) => f_X2_reckon_b52 l1 q.1 q.2) FU (1, 0)) (fun l6_52x l8_52x =>
  bd1 (f_X2_commonDivisor l6_52x l4_12x) (fun r_76 =>
  (if (lg_cmp r_76 0) ≤ 0 then f_X2_reckon_j99 l6_52x r_76 c_weights_3 l4_12x
  else nzl r_76 (f_X2_reckon_j99 l6_52x r_76 c_weights_3 (l4_12x / r_76)))))))
noncomputable def f_X10_daysCanBe (c_town_widths : Nat → Int32) (c_town_keys : Nat → Int32) (c_town_cells : Nat → Int32) (c_town_delays : Nat → Int32) (c_town_rows_rung : Int32) (c_town_rows_rowOf : Nat → Int32) (c_town_rows_placeOf : Nat → Int32) (c_town_rules_count : Int32) (c_town_rules_firsts : Nat → Int32) (c_town_rules_seconds : Nat → Int32) (c_town_sights_count : Int32) (c_town_sights_firsts : Nat → Int32) (c_town_sights_seconds : Nat → Int32) (c_trial_widths : Nat → Int32) (c_trial_keys : Nat → Int32) (c_trial_cells : Nat → Int32) (c_trial_delays : Nat → Int32) (c_trial_rows_rung : Int32) (c_trial_rows_rowOf : Nat → Int32) (c_trial_rows_placeOf : Nat → Int32) (c_trial_rules_count : Int32) (c_trial_rules_firsts : Nat → Int32) (c_trial_rules_seconds : Nat → Int32) (c_trial_sights_count : Int32) (c_trial_sights_firsts : Nat → Int32) (c_trial_sights_seconds : Nat → Int32) (c_pad_count : Int32) (c_pad_signs : Nat → Int32) (c_rehearsal_acts : Int32) (c_rehearsal_why : Int32) : Option (Int32 × (Nat → Int32) × (Nat → Int32) × (Nat → Int32) × (Nat → Int32) × Int32 × (Nat → Int32) × (Nat → Int32) × Int32 × (Nat → Int32) × (Nat → Int32) × Int32 × (Nat → Int32) × (Nat → Int32) × Int32 × Int32) :=
  bd1 (f_X4_firstFault c_pad_count c_pad_signs) (fun r_4 =>
  (if r_4 = (-6) then bd15 (f_X6_play c_pad_count c_pad_signs c_town_widths c_town_keys c_town_cells c_town_delays c_town_rows_rung c_town_rows_rowOf c_town_rows_placeOf c_town_rules_count c_town_rules_firsts c_town_rules_seconds c_town_sights_count c_town_sights_firsts c_town_sights_seconds c_trial_widths c_trial_keys c_trial_cells c_trial_delays c_trial_rows_rowOf c_trial_rows_placeOf c_trial_rules_firsts c_trial_rules_seconds c_trial_sights_firsts c_trial_sights_seconds) (fun c_rehearsal_acts_30 c_rehearsal_why_30 c_trial_widths_30 c_trial_keys_30 c_trial_cells_30 c_trial_delays_30 c_trial_rows_rung_30 c_trial_rows_rowOf_30 c_trial_rows_placeOf_30 c_trial_rules_count_30 c_trial_rules_firsts_30 c_trial_rules_seconds_30 c_trial_sights_count_30 c_trial_sights_firsts_30 c_trial_sights_seconds_30 =>
  (if c_rehearsal_why_30 = 0 then some (1, c_trial_widths_30, c_trial_keys_30, c_trial_cells_30, c_trial_delays_30, c_trial_rows_rung_30, c_trial_rows_rowOf_30, c_trial_rows_placeOf_30, c_trial_rules_count_30, c_trial_rules_firsts_30, c_trial_rules_seconds_30, c_trial_sights_count_30, c_trial_sights_firsts_30, c_trial_sights_seconds_30, c_rehearsal_acts_30, c_rehearsal_why_30)
  else some (0, c_trial_widths_30, c_trial_keys_30, c_trial_cells_30, c_trial_delays_30, c_trial_rows_rung_30, c_trial_rows_rowOf_30, c_trial_rows_placeOf_30, c_trial_rules_count_30, c_trial_rules_firsts_30, c_trial_rules_seconds_30, c_trial_sights_count_30, c_trial_sights_firsts_30, c_trial_sights_seconds_30, c_rehearsal_acts_30, c_rehearsal_why_30)))
  else some (0, c_trial_widths, c_trial_keys, c_trial_cells, c_trial_delays, c_trial_rows_rung, c_trial_rows_rowOf, c_trial_rows_placeOf, c_trial_rules_count, c_trial_rules_firsts, c_trial_rules_seconds, c_trial_sights_count, c_trial_sights_firsts, c_trial_sights_seconds, c_rehearsal_acts, c_rehearsal_why)))
noncomputable def f_X10_member (c_town_widths : Nat → Int32) (c_town_keys : Nat → Int32) (l1 : Int32) (l2 : Int32) (l3 : Int32) : Option (Int32 × (Nat → Int32) × (Nat → Int32)) :=
  bd1 (f_X10_within l1 0 9) (fun r_4 =>
  (if r_4 = 0 then some ((-1), c_town_widths, c_town_keys)
  else bd1 (f_X10_within l2 1 15) (fun r_16 =>
  (if r_16 = 0 then some ((-2), c_town_widths, c_town_keys)
  else bd1 (f_X10_within l3 0 12) (fun r_26 =>
  (if r_26 = 0 then some ((-2), c_town_widths, c_town_keys)
  else bd1 (f_X10_at 10 c_town_widths l1) (fun r_43 =>
  bd1 (f_X10_put 10 c_town_widths l1 l2) (fun c_town_widths_57 =>
  bd1 (f_X10_put 10 c_town_keys l1 l3) (fun c_town_keys_69 =>
  some (r_43, c_town_widths_57, c_town_keys_69))))))))))
noncomputable def f_X10_wide (c_town_cells : Nat → Int32) (l1 : Int32) (l2 : Int32) : Option (Int32 × (Nat → Int32)) :=
  bd1 (f_X10_within l1 0 16) (fun r_4 =>
  (if r_4 = 0 then some ((-1), c_town_cells)
  else bd1 (f_X10_within l2 1 30) (fun r_16 =>
  (if r_16 = 0 then some ((-2), c_town_cells)
  else bd1 (f_X10_at 17 c_town_cells l1) (fun r_33 =>
  bd1 (f_X10_put 17 c_town_cells l1 l2) (fun c_town_cells_46 =>
  some (r_33, c_town_cells_46)))))))
noncomputable def f_X10_delay (c_town_delays : Nat → Int32) (l1 : Int32) (l2 : Int32) : Option (Int32 × (Nat → Int32)) :=
  bd1 (f_X10_isRow l1) (fun r_1 =>
  (if r_1 = 0 then some ((-2), c_town_delays)
  else bd1 (f_X10_within l2 0 20) (fun r_11 =>
  (if r_11 = 0 then some ((-2), c_town_delays)
  else bd1 (f_X10_at 2 c_town_delays l1) (fun r_28 =>
  bd1 (f_X10_put 2 c_town_delays l1 l2) (fun c_town_delays_41 =>
  some (r_28, c_town_delays_41)))))))
noncomputable def f_X10_say (c_pad_count : Int32) (c_pad_signs : Nat → Int32) (l1 : Int32) : Option (Int32 × Int32 × (Nat → Int32)) :=
  bd1 (f_X10_within l1 33 126) (fun r_5 =>
  (if r_5 = 0 then some ((-2), c_pad_count, c_pad_signs)
  else (if c_pad_count < 60 then bd2 (f_X4_write c_pad_count c_pad_signs l1) (fun c_pad_count_34 c_pad_signs_34 =>
  some (c_pad_count_34, c_pad_count_34, c_pad_signs_34))
  else some ((-4), c_pad_count, c_pad_signs))))
noncomputable def f_X10_wipe (c_pad_count : Int32) : Option (Int32 × Int32) :=
  bd2 (f_X4_empty c_pad_count) (fun r_4 c_pad_count_4 =>
  some (r_4, c_pad_count_4))
noncomputable def f_X10_fault (c_pad_count : Int32) (c_pad_signs : Nat → Int32) : Option (Int32) :=
  bd1 (f_X4_firstFault c_pad_count c_pad_signs) (fun r_4 =>
  some r_4)
noncomputable def f_X10_judge (c_town_widths : Nat → Int32) (c_town_keys : Nat → Int32) (c_town_cells : Nat → Int32) (c_town_delays : Nat → Int32) (c_town_rows_rung : Int32) (c_town_rows_rowOf : Nat → Int32) (c_town_rows_placeOf : Nat → Int32) (c_town_rules_count : Int32) (c_town_rules_firsts : Nat → Int32) (c_town_rules_seconds : Nat → Int32) (c_town_sights_count : Int32) (c_town_sights_firsts : Nat → Int32) (c_town_sights_seconds : Nat → Int32) (c_trial_widths : Nat → Int32) (c_trial_keys : Nat → Int32) (c_trial_cells : Nat → Int32) (c_trial_delays : Nat → Int32) (c_trial_rows_rung : Int32) (c_trial_rows_rowOf : Nat → Int32) (c_trial_rows_placeOf : Nat → Int32) (c_trial_rules_count : Int32) (c_trial_rules_firsts : Nat → Int32) (c_trial_rules_seconds : Nat → Int32) (c_trial_sights_count : Int32) (c_trial_sights_firsts : Nat → Int32) (c_trial_sights_seconds : Nat → Int32) (c_pad_count : Int32) (c_pad_signs : Nat → Int32) (c_rehearsal_acts : Int32) (c_rehearsal_why : Int32) (l1 : Int32) : Option (Int32 × (Nat → Int32) × (Nat → Int32) × (Nat → Int32) × (Nat → Int32) × Int32 × (Nat → Int32) × (Nat → Int32) × Int32 × (Nat → Int32) × (Nat → Int32) × Int32 × (Nat → Int32) × (Nat → Int32) × Int32 × Int32) :=
  bd1 (f_X10_within l1 0 1) (fun r_3 =>
  (if r_3 = 0 then some ((-2), c_trial_widths, c_trial_keys, c_trial_cells, c_trial_delays, c_trial_rows_rung, c_trial_rows_rowOf, c_trial_rows_placeOf, c_trial_rules_count, c_trial_rules_firsts, c_trial_rules_seconds, c_trial_sights_count, c_trial_sights_firsts, c_trial_sights_seconds, c_rehearsal_acts, c_rehearsal_why)
  else bd1 (f_X4_firstFault c_pad_count c_pad_signs) (fun r_16 =>
  (if r_16 = (-6) then bd15 (f_X6_play c_pad_count c_pad_signs c_town_widths c_town_keys c_town_cells c_town_delays c_town_rows_rung c_town_rows_rowOf c_town_rows_placeOf c_town_rules_count c_town_rules_firsts c_town_rules_seconds c_town_sights_count c_town_sights_firsts c_town_sights_seconds c_trial_widths c_trial_keys c_trial_cells c_trial_delays c_trial_rows_rowOf c_trial_rows_placeOf c_trial_rules_firsts c_trial_rules_seconds c_trial_sights_firsts c_trial_sights_seconds) (fun c_rehearsal_acts_43 c_rehearsal_why_43 c_trial_widths_43 c_trial_keys_43 c_trial_cells_43 c_trial_delays_43 c_trial_rows_rung_43 c_trial_rows_rowOf_43 c_trial_rows_placeOf_43 c_trial_rules_count_43 c_trial_rules_firsts_43 c_trial_rules_seconds_43 c_trial_sights_count_43 c_trial_sights_firsts_43 c_trial_sights_seconds_43 =>
  (if c_rehearsal_why_43 = 0 then some ((-6), c_trial_widths_43, c_trial_keys_43, c_trial_cells_43, c_trial_delays_43, c_trial_rows_rung_43, c_trial_rows_rowOf_43, c_trial_rows_placeOf_43, c_trial_rules_count_43, c_trial_rules_firsts_43, c_trial_rules_seconds_43, c_trial_sights_count_43, c_trial_sights_firsts_43, c_trial_sights_seconds_43, c_rehearsal_acts_43, c_rehearsal_why_43)
  else (if l1 = 0 then some (c_rehearsal_acts_43, c_trial_widths_43, c_trial_keys_43, c_trial_cells_43, c_trial_delays_43, c_trial_rows_rung_43, c_trial_rows_rowOf_43, c_trial_rows_placeOf_43, c_trial_rules_count_43, c_trial_rules_firsts_43, c_trial_rules_seconds_43, c_trial_sights_count_43, c_trial_sights_firsts_43, c_trial_sights_seconds_43, c_rehearsal_acts_43, c_rehearsal_why_43)
  else some (c_rehearsal_why_43, c_trial_widths_43, c_trial_keys_43, c_trial_cells_43, c_trial_delays_43, c_trial_rows_rung_43, c_trial_rows_rowOf_43, c_trial_rows_placeOf_43, c_trial_rules_count_43, c_trial_rules_firsts_43, c_trial_rules_seconds_43, c_trial_sights_count_43, c_trial_sights_firsts_43, c_trial_sights_seconds_43, c_rehearsal_acts_43, c_rehearsal_why_43))))
  else some ((-5), c_trial_widths, c_trial_keys, c_trial_cells, c_trial_delays, c_trial_rows_rung, c_trial_rows_rowOf, c_trial_rows_placeOf, c_trial_rules_count, c_trial_rules_firsts, c_trial_rules_seconds, c_trial_sights_count, c_trial_sights_firsts, c_trial_sights_seconds, c_rehearsal_acts, c_rehearsal_why)))))
noncomputable def f_X10_done (c_town_widths : Nat → Int32) (c_town_keys : Nat → Int32) (c_town_cells : Nat → Int32) (c_town_delays : Nat → Int32) (c_town_rows_rung : Int32) (c_town_rows_rowOf : Nat → Int32) (c_town_rows_placeOf : Nat → Int32) (c_town_rules_count : Int32) (c_town_rules_firsts : Nat → Int32) (c_town_rules_seconds : Nat → Int32) (c_town_sights_count : Int32) (c_town_sights_firsts : Nat → Int32) (c_town_sights_seconds : Nat → Int32) (c_trial_widths : Nat → Int32) (c_trial_keys : Nat → Int32) (c_trial_cells : Nat → Int32) (c_trial_delays : Nat → Int32) (c_trial_rows_rung : Int32) (c_trial_rows_rowOf : Nat → Int32) (c_trial_rows_placeOf : Nat → Int32) (c_trial_rules_count : Int32) (c_trial_rules_firsts : Nat → Int32) (c_trial_rules_seconds : Nat → Int32) (c_trial_sights_count : Int32) (c_trial_sights_firsts : Nat → Int32) (c_trial_sights_seconds : Nat → Int32) (c_pad_count : Int32) (c_pad_signs : Nat → Int32) (c_rehearsal_acts : Int32) (c_rehearsal_why : Int32) : Option (Int32 × Int32 × (Nat → Int32) × (Nat → Int32) × (Nat → Int32) × (Nat → Int32) × (Nat → Int32) × (Nat → Int32) × Int32 × (Nat → Int32) × (Nat → Int32) × Int32 × (Nat → Int32) × (Nat → Int32) × Int32 × (Nat → Int32) × (Nat → Int32) × Int32 × Int32 × Int32) :=
  bd16 (f_X10_daysCanBe c_town_widths c_town_keys c_town_cells c_town_delays c_town_rows_rung c_town_rows_rowOf c_town_rows_placeOf c_town_rules_count c_town_rules_firsts c_town_rules_seconds c_town_sights_count c_town_sights_firsts c_town_sights_seconds c_trial_widths c_trial_keys c_trial_cells c_trial_delays c_trial_rows_rung c_trial_rows_rowOf c_trial_rows_placeOf c_trial_rules_count c_trial_rules_firsts c_trial_rules_seconds c_trial_sights_count c_trial_sights_firsts c_trial_sights_seconds c_pad_count c_pad_signs c_rehearsal_acts c_rehearsal_why) (fun r_1 c_trial_widths_1 c_trial_keys_1 c_trial_cells_1 c_trial_delays_1 c_trial_rows_rung_1 c_trial_rows_rowOf_1 c_trial_rows_placeOf_1 c_trial_rules_count_1 c_trial_rules_firsts_1 c_trial_rules_seconds_1 c_trial_sights_count_1 c_trial_sights_firsts_1 c_trial_sights_seconds_1 c_rehearsal_acts_1 c_rehearsal_why_1 =>
  (if r_1 = 0 then some ((-5), c_town_rows_rung, c_town_rows_rowOf, c_town_rows_placeOf, c_trial_widths_1, c_trial_keys_1, c_trial_cells_1, c_trial_delays_1, c_trial_rows_rung_1, c_trial_rows_rowOf_1, c_trial_rows_placeOf_1, c_trial_rules_count_1, c_trial_rules_firsts_1, c_trial_rules_seconds_1, c_trial_sights_count_1, c_trial_sights_firsts_1, c_trial_sights_seconds_1, c_pad_count, c_rehearsal_acts_1, c_rehearsal_why_1)
  else bd3 (f_X7_takeFrom c_town_rows_rowOf c_town_rows_placeOf c_trial_rows_rung_1 c_trial_rows_rowOf_1 c_trial_rows_placeOf_1) (fun c_town_rows_rung_24 c_town_rows_rowOf_24 c_town_rows_placeOf_24 =>
  bd2 (f_X4_empty c_pad_count) (fun r_31 c_pad_count_31 =>
  some (c_rehearsal_acts_1, c_town_rows_rung_24, c_town_rows_rowOf_24, c_town_rows_placeOf_24, c_trial_widths_1, c_trial_keys_1, c_trial_cells_1, c_trial_delays_1, c_trial_rows_rung_1, c_trial_rows_rowOf_1, c_trial_rows_placeOf_1, c_trial_rules_count_1, c_trial_rules_firsts_1, c_trial_rules_seconds_1, c_trial_sights_count_1, c_trial_sights_firsts_1, c_trial_sights_seconds_1, c_pad_count_31, c_rehearsal_acts_1, c_rehearsal_why_1)))))
noncomputable def f_X10_place (c_town_widths : Nat → Int32) (c_town_keys : Nat → Int32) (c_town_cells : Nat → Int32) (c_town_delays : Nat → Int32) (c_town_rows_rung : Int32) (c_town_rows_rowOf : Nat → Int32) (c_town_rows_placeOf : Nat → Int32) (c_town_rules_count : Int32) (c_town_rules_firsts : Nat → Int32) (c_town_rules_seconds : Nat → Int32) (c_town_sights_count : Int32) (c_town_sights_firsts : Nat → Int32) (c_town_sights_seconds : Nat → Int32) (c_trial_widths : Nat → Int32) (c_trial_keys : Nat → Int32) (c_trial_cells : Nat → Int32) (c_trial_delays : Nat → Int32) (c_trial_rows_rung : Int32) (c_trial_rows_rowOf : Nat → Int32) (c_trial_rows_placeOf : Nat → Int32) (c_trial_rules_count : Int32) (c_trial_rules_firsts : Nat → Int32) (c_trial_rules_seconds : Nat → Int32) (c_trial_sights_count : Int32) (c_trial_sights_firsts : Nat → Int32) (c_trial_sights_seconds : Nat → Int32) (c_pad_count : Int32) (c_pad_signs : Nat → Int32) (c_rehearsal_acts : Int32) (c_rehearsal_why : Int32) (l1 : Int32) (l2 : Int32) : Option (Int32 × (Nat → Int32) × (Nat → Int32) × (Nat → Int32) × (Nat → Int32) × Int32 × (Nat → Int32) × (Nat → Int32) × Int32 × (Nat → Int32) × (Nat → Int32) × Int32 × (Nat → Int32) × (Nat → Int32) × Int32 × Int32) :=
  bd1 (f_X10_isRow l1) (fun r_1 =>
  (if r_1 = 0 then some ((-2), c_trial_widths, c_trial_keys, c_trial_cells, c_trial_delays, c_trial_rows_rung, c_trial_rows_rowOf, c_trial_rows_placeOf, c_trial_rules_count, c_trial_rules_firsts, c_trial_rules_seconds, c_trial_sights_count, c_trial_sights_firsts, c_trial_sights_seconds, c_rehearsal_acts, c_rehearsal_why)
  else bd1 (f_X10_within l2 0 5) (fun r_10 =>
  (if r_10 = 0 then some ((-2), c_trial_widths, c_trial_keys, c_trial_cells, c_trial_delays, c_trial_rows_rung, c_trial_rows_rowOf, c_trial_rows_placeOf, c_trial_rules_count, c_trial_rules_firsts, c_trial_rules_seconds, c_trial_sights_count, c_trial_sights_firsts, c_trial_sights_seconds, c_rehearsal_acts, c_rehearsal_why)
  else bd16 (f_X10_daysCanBe c_town_widths c_town_keys c_town_cells c_town_delays c_town_rows_rung c_town_rows_rowOf c_town_rows_placeOf c_town_rules_count c_town_rules_firsts c_town_rules_seconds c_town_sights_count c_town_sights_firsts c_town_sights_seconds c_trial_widths c_trial_keys c_trial_cells c_trial_delays c_trial_rows_rung c_trial_rows_rowOf c_trial_rows_placeOf c_trial_rules_count c_trial_rules_firsts c_trial_rules_seconds c_trial_sights_count c_trial_sights_firsts c_trial_sights_seconds c_pad_count c_pad_signs c_rehearsal_acts c_rehearsal_why) (fun r_20 c_trial_widths_20 c_trial_keys_20 c_trial_cells_20 c_trial_delays_20 c_trial_rows_rung_20 c_trial_rows_rowOf_20 c_trial_rows_placeOf_20 c_trial_rules_count_20 c_trial_rules_firsts_20 c_trial_rules_seconds_20 c_trial_sights_count_20 c_trial_sights_firsts_20 c_trial_sights_seconds_20 c_rehearsal_acts_20 c_rehearsal_why_20 =>
  (if r_20 = 0 then some ((-5), c_trial_widths_20, c_trial_keys_20, c_trial_cells_20, c_trial_delays_20, c_trial_rows_rung_20, c_trial_rows_rowOf_20, c_trial_rows_placeOf_20, c_trial_rules_count_20, c_trial_rules_firsts_20, c_trial_rules_seconds_20, c_trial_sights_count_20, c_trial_sights_firsts_20, c_trial_sights_seconds_20, c_rehearsal_acts_20, c_rehearsal_why_20)
  else bd1 (f_X7_whoIsAt c_trial_rows_rowOf_20 c_trial_rows_placeOf_20 l1 l2) (fun r_35 =>
  some (r_35, c_trial_widths_20, c_trial_keys_20, c_trial_cells_20, c_trial_delays_20, c_trial_rows_rung_20, c_trial_rows_rowOf_20, c_trial_rows_placeOf_20, c_trial_rules_count_20, c_trial_rules_firsts_20, c_trial_rules_seconds_20, c_trial_sights_count_20, c_trial_sights_firsts_20, c_trial_sights_seconds_20, c_rehearsal_acts_20, c_rehearsal_why_20))))))))
noncomputable def f_X10_of (c_town_widths : Nat → Int32) (c_town_keys : Nat → Int32) (c_town_cells : Nat → Int32) (c_town_delays : Nat → Int32) (c_town_rows_rung : Int32) (c_town_rows_rowOf : Nat → Int32) (c_town_rows_placeOf : Nat → Int32) (c_town_rules_count : Int32) (c_town_rules_firsts : Nat → Int32) (c_town_rules_seconds : Nat → Int32) (c_town_sights_count : Int32) (c_town_sights_firsts : Nat → Int32) (c_town_sights_seconds : Nat → Int32) (c_trial_widths : Nat → Int32) (c_trial_keys : Nat → Int32) (c_trial_cells : Nat → Int32) (c_trial_delays : Nat → Int32) (c_trial_rows_rung : Int32) (c_trial_rows_rowOf : Nat → Int32) (c_trial_rows_placeOf : Nat → Int32) (c_trial_rules_count : Int32) (c_trial_rules_firsts : Nat → Int32) (c_trial_rules_seconds : Nat → Int32) (c_trial_sights_count : Int32) (c_trial_sights_firsts : Nat → Int32) (c_trial_sights_seconds : Nat → Int32) (c_pad_count : Int32) (c_pad_signs : Nat → Int32) (c_rehearsal_acts : Int32) (c_rehearsal_why : Int32) (l1 : Int32) (l2 : Int32) : Option (Int32 × (Nat → Int32) × (Nat → Int32) × (Nat → Int32) × (Nat → Int32) × Int32 × (Nat → Int32) × (Nat → Int32) × Int32 × (Nat → Int32) × (Nat → Int32) × Int32 × (Nat → Int32) × (Nat → Int32) × Int32 × Int32) :=
  bd1 (f_X10_within l1 0 9) (fun r_4 =>
  (if r_4 = 0 then some ((-1), c_trial_widths, c_trial_keys, c_trial_cells, c_trial_delays, c_trial_rows_rung, c_trial_rows_rowOf, c_trial_rows_placeOf, c_trial_rules_count, c_trial_rules_firsts, c_trial_rules_seconds, c_trial_sights_count, c_trial_sights_firsts, c_trial_sights_seconds, c_rehearsal_acts, c_rehearsal_why)
  else bd1 (f_X10_within l2 0 1) (fun r_15 =>
  (if r_15 = 0 then some ((-2), c_trial_widths, c_trial_keys, c_trial_cells, c_trial_delays, c_trial_rows_rung, c_trial_rows_rowOf, c_trial_rows_placeOf, c_trial_rules_count, c_trial_rules_firsts, c_trial_rules_seconds, c_trial_sights_count, c_trial_sights_firsts, c_trial_sights_seconds, c_rehearsal_acts, c_rehearsal_why)
  else bd16 (f_X10_daysCanBe c_town_widths c_town_keys c_town_cells c_town_delays c_town_rows_rung c_town_rows_rowOf c_town_rows_placeOf c_town_rules_count c_town_rules_firsts c_town_rules_seconds c_town_sights_count c_town_sights_firsts c_town_sights_seconds c_trial_widths c_trial_keys c_trial_cells c_trial_delays c_trial_rows_rung c_trial_rows_rowOf c_trial_rows_placeOf c_trial_rules_count c_trial_rules_firsts c_trial_rules_seconds c_trial_sights_count c_trial_sights_firsts c_trial_sights_seconds c_pad_count c_pad_signs c_rehearsal_acts c_rehearsal_why) (fun r_25 c_trial_widths_25 c_trial_keys_25 c_trial_cells_25 c_trial_delays_25 c_trial_rows_rung_25 c_trial_rows_rowOf_25 c_trial_rows_placeOf_25 c_trial_rules_count_25 c_trial_rules_firsts_25 c_trial_rules_seconds_25 c_trial_sights_count_25 c_trial_sights_firsts_25 c_trial_sights_seconds_25 c_rehearsal_acts_25 c_rehearsal_why_25 =>
  (if r_25 = 0 then some ((-5), c_trial_widths_25, c_trial_keys_25, c_trial_cells_25, c_trial_delays_25, c_trial_rows_rung_25, c_trial_rows_rowOf_25, c_trial_rows_placeOf_25, c_trial_rules_count_25, c_trial_rules_firsts_25, c_trial_rules_seconds_25, c_trial_sights_count_25, c_trial_sights_firsts_25, c_trial_sights_seconds_25, c_rehearsal_acts_25, c_rehearsal_why_25)
  else (if l2 = 0 then bd1 (f_X10_at 10 c_trial_rows_rowOf_25 l1) (fun r_49 =>
  some (r_49, c_trial_widths_25, c_trial_keys_25, c_trial_cells_25, c_trial_delays_25, c_trial_rows_rung_25, c_trial_rows_rowOf_25, c_trial_rows_placeOf_25, c_trial_rules_count_25, c_trial_rules_firsts_25, c_trial_rules_seconds_25, c_trial_sights_count_25, c_trial_sights_firsts_25, c_trial_sights_seconds_25, c_rehearsal_acts_25, c_rehearsal_why_25))
  else bd1 (f_X10_at 10 c_trial_rows_placeOf_25 l1) (fun r_66 =>
  some (r_66, c_trial_widths_25, c_trial_keys_25, c_trial_cells_25, c_trial_delays_25, c_trial_rows_rung_25, c_trial_rows_rowOf_25, c_trial_rows_placeOf_25, c_trial_rules_count_25, c_trial_rules_firsts_25, c_trial_rules_seconds_25, c_trial_sights_count_25, c_trial_sights_firsts_25, c_trial_sights_seconds_25, c_rehearsal_acts_25, c_rehearsal_why_25)))))))))
noncomputable def f_X10_bells (c_town_widths : Nat → Int32) (c_town_keys : Nat → Int32) (c_town_cells : Nat → Int32) (c_town_delays : Nat → Int32) (c_town_rows_rung : Int32) (c_town_rows_rowOf : Nat → Int32) (c_town_rows_placeOf : Nat → Int32) (c_town_rules_count : Int32) (c_town_rules_firsts : Nat → Int32) (c_town_rules_seconds : Nat → Int32) (c_town_sights_count : Int32) (c_town_sights_firsts : Nat → Int32) (c_town_sights_seconds : Nat → Int32) (c_trial_widths : Nat → Int32) (c_trial_keys : Nat → Int32) (c_trial_cells : Nat → Int32) (c_trial_delays : Nat → Int32) (c_trial_rows_rung : Int32) (c_trial_rows_rowOf : Nat → Int32) (c_trial_rows_placeOf : Nat → Int32) (c_trial_rules_count : Int32) (c_trial_rules_firsts : Nat → Int32) (c_trial_rules_seconds : Nat → Int32) (c_trial_sights_count : Int32) (c_trial_sights_firsts : Nat → Int32) (c_trial_sights_seconds : Nat → Int32) (c_pad_count : Int32) (c_pad_signs : Nat → Int32) (c_rehearsal_acts : Int32) (c_rehearsal_why : Int32) : Option (Int32 × (Nat → Int32) × (Nat → Int32) × (Nat → Int32) × (Nat → Int32) × Int32 × (Nat → Int32) × (Nat → Int32) × Int32 × (Nat → Int32) × (Nat → Int32) × Int32 × (Nat → Int32) × (Nat → Int32) × Int32 × Int32) :=
  bd16 (f_X10_daysCanBe c_town_widths c_town_keys c_town_cells c_town_delays c_town_rows_rung c_town_rows_rowOf c_town_rows_placeOf c_town_rules_count c_town_rules_firsts c_town_rules_seconds c_town_sights_count c_town_sights_firsts c_town_sights_seconds c_trial_widths c_trial_keys c_trial_cells c_trial_delays c_trial_rows_rung c_trial_rows_rowOf c_trial_rows_placeOf c_trial_rules_count c_trial_rules_firsts c_trial_rules_seconds c_trial_sights_count c_trial_sights_firsts c_trial_sights_seconds c_pad_count c_pad_signs c_rehearsal_acts c_rehearsal_why) (fun r_1 c_trial_widths_1 c_trial_keys_1 c_trial_cells_1 c_trial_delays_1 c_trial_rows_rung_1 c_trial_rows_rowOf_1 c_trial_rows_placeOf_1 c_trial_rules_count_1 c_trial_rules_firsts_1 c_trial_rules_seconds_1 c_trial_sights_count_1 c_trial_sights_firsts_1 c_trial_sights_seconds_1 c_rehearsal_acts_1 c_rehearsal_why_1 =>
  (if r_1 = 0 then some ((-5), c_trial_widths_1, c_trial_keys_1, c_trial_cells_1, c_trial_delays_1, c_trial_rows_rung_1, c_trial_rows_rowOf_1, c_trial_rows_placeOf_1, c_trial_rules_count_1, c_trial_rules_firsts_1, c_trial_rules_seconds_1, c_trial_sights_count_1, c_trial_sights_firsts_1, c_trial_sights_seconds_1, c_rehearsal_acts_1, c_rehearsal_why_1)
  else some (c_trial_rows_rung_1, c_trial_widths_1, c_trial_keys_1, c_trial_cells_1, c_trial_delays_1, c_trial_rows_rung_1, c_trial_rows_rowOf_1, c_trial_rows_placeOf_1, c_trial_rules_count_1, c_trial_rules_firsts_1, c_trial_rules_seconds_1, c_trial_sights_count_1, c_trial_sights_firsts_1, c_trial_sights_seconds_1, c_rehearsal_acts_1, c_rehearsal_why_1)))
noncomputable def f_X10_meets (c_town_widths : Nat → Int32) (c_town_cells : Nat → Int32) (c_town_delays : Nat → Int32) (c_town_rows_rowOf : Nat → Int32) (c_town_rows_placeOf : Nat → Int32) (c_meetings_twos : Int32) (c_meetings_clashes : Int32) (c_meetings_first : Int32) (c_meetings_where : Int32) (c_meetings_firstTurn : Int32) (l1 : Int32) : Option (Int32 × Int32 × Int32 × Int32 × Int32 × Int32) :=
  bd1 (f_X10_within l1 0 3) (fun r_3 =>
  (if r_3 = 0 then some ((-2), c_meetings_twos, c_meetings_clashes, c_meetings_first, c_meetings_where, c_meetings_firstTurn)
  else bd5 (f_X1_count c_meetings_firstTurn c_town_widths c_town_cells c_town_delays c_town_rows_rowOf c_town_rows_placeOf) (fun c_meetings_twos_20 c_meetings_clashes_20 c_meetings_first_20 c_meetings_where_20 c_meetings_firstTurn_20 =>
  (if l1 = 0 then some (c_meetings_twos_20, c_meetings_twos_20, c_meetings_clashes_20, c_meetings_first_20, c_meetings_where_20, c_meetings_firstTurn_20)
  else (if l1 = 1 then some (c_meetings_clashes_20, c_meetings_twos_20, c_meetings_clashes_20, c_meetings_first_20, c_meetings_where_20, c_meetings_firstTurn_20)
  else (if l1 = 2 then some (c_meetings_first_20, c_meetings_twos_20, c_meetings_clashes_20, c_meetings_first_20, c_meetings_where_20, c_meetings_firstTurn_20)
  else some (c_meetings_where_20, c_meetings_twos_20, c_meetings_clashes_20, c_meetings_first_20, c_meetings_where_20, c_meetings_firstTurn_20)))))))
noncomputable def f_X10_runs (c_town_delays : Nat → Int32) (c_town_rows_rowOf : Nat → Int32) : Option (Int32) :=
  bd1 (f_X8_emptyFrom c_town_delays c_town_rows_rowOf 0) (fun r_5 =>
  bd1 (f_X8_emptyFrom c_town_delays c_town_rows_rowOf 1) (fun r_13 =>
  some (if r_5 < r_13 then r_13 else r_5)))
noncomputable def f_X10_order (c_town_widths : Nat → Int32) (c_town_cells : Nat → Int32) (c_town_delays : Nat → Int32) (c_town_rows_rowOf : Nat → Int32) (c_town_rows_placeOf : Nat → Int32) (c_arranging_size : Int32) (c_arranging_crowd : Nat → Int32) (c_arranging_costs : Nat → Int32) (c_arranging_answers : Nat → Int32) (l1 : Int32) (l2 : Int32) : Option (Int32 × Int32 × (Nat → Int32) × (Nat → Int32) × (Nat → Int32)) :=
  bd1 (f_X10_isRow l1) (fun r_1 =>
  (if r_1 = 0 then some ((-2), c_arranging_size, c_arranging_crowd, c_arranging_costs, c_arranging_answers)
  else bd1 (f_X10_within l2 0 1) (fun r_10 =>
  (if r_10 = 0 then some ((-2), c_arranging_size, c_arranging_crowd, c_arranging_costs, c_arranging_answers)
  else bd2 (f_X3_gather c_arranging_crowd c_town_rows_rowOf l1) (fun c_arranging_size_31 c_arranging_crowd_31 =>
  bd2 (f_X3_countClashes c_arranging_size_31 c_arranging_crowd_31 c_arranging_costs c_arranging_answers c_town_widths c_town_cells c_town_delays c_town_rows_rowOf c_town_rows_placeOf l1) (fun c_arranging_costs_43 c_arranging_answers_43 =>
  (if l2 = 0 then bd1 (f_X3_answerForAll c_arranging_size_31 c_arranging_answers_43) (fun r_54 =>
  some (r_54, c_arranging_size_31, c_arranging_crowd_31, c_arranging_costs_43, c_arranging_answers_43))
  else bd1 (f_X3_firstOfFewest c_arranging_size_31 c_arranging_crowd_31 c_arranging_costs_43 c_arranging_answers_43) (fun r_64 =>
  some (r_64, c_arranging_size_31, c_arranging_crowd_31, c_arranging_costs_43, c_arranging_answers_43)))))))))
noncomputable def f_X10_start_b32 (c_trial_widths_20 : Nat → Int32) (c_trial_cells_20 : Nat → Int32) (c_trial_rows_rowOf_20 : Nat → Int32) (c_trial_rows_placeOf_20 : Nat → Int32) (l2_32 : Int32) (c_trial_delays_32 : Nat → Int32) (c_meetings_twos_32 : Int32) (c_meetings_clashes_32 : Int32) (c_meetings_first_32 : Int32) (c_meetings_where_32 : Int32) (c_meetings_firstTurn_32 : Int32) (c_fewest_by_32 : Int32) (c_fewest_count_32 : Int32) : Option ((Int32 × (Nat → Int32) × Int32 × Int32 × Int32 × Int32 × Int32 × Int32 × Int32) ⊕ (Int32 × (Nat → Int32) × Int32 × Int32 × Int32 × Int32 × Int32 × Int32 × Int32)) :=
  (if 20 < l2_32 then some (.inr (l2_32, c_trial_delays_32, c_meetings_twos_32, c_meetings_clashes_32, c_meetings_first_32, c_meetings_where_32, c_meetings_firstTurn_32, c_fewest_by_32, c_fewest_count_32))
  else bd1 (f_X10_put 2 c_trial_delays_32 0 l2_32) (fun c_trial_delays_47 =>
  bd5 (f_X1_count c_meetings_firstTurn_32 c_trial_widths_20 c_trial_cells_20 c_trial_delays_47 c_trial_rows_rowOf_20 c_trial_rows_placeOf_20) (fun c_meetings_twos_58 c_meetings_clashes_58 c_meetings_first_58 c_meetings_where_58 c_meetings_firstTurn_58 =>
  bd2 (f_X0_offer c_fewest_by_32 c_fewest_count_32 l2_32 c_meetings_clashes_58) (fun c_fewest_by_73 c_fewest_count_73 =>
  some (.inl ((l2_32 + 1), c_trial_delays_47, c_meetings_twos_58, c_meetings_clashes_58, c_meetings_first_58, c_meetings_where_58, c_meetings_firstTurn_58, c_fewest_by_73, c_fewest_count_73))))))
noncomputable def f_X10_start (c_town_widths : Nat → Int32) (c_town_keys : Nat → Int32) (c_town_cells : Nat → Int32) (c_town_delays : Nat → Int32) (c_town_rows_rung : Int32) (c_town_rows_rowOf : Nat → Int32) (c_town_rows_placeOf : Nat → Int32) (c_town_rules_count : Int32) (c_town_rules_firsts : Nat → Int32) (c_town_rules_seconds : Nat → Int32) (c_town_sights_count : Int32) (c_town_sights_firsts : Nat → Int32) (c_town_sights_seconds : Nat → Int32) (c_trial_widths : Nat → Int32) (c_trial_keys : Nat → Int32) (c_trial_cells : Nat → Int32) (c_trial_delays : Nat → Int32) (c_trial_rows_rung : Int32) (c_trial_rows_rowOf : Nat → Int32) (c_trial_rows_placeOf : Nat → Int32) (c_trial_rules_count : Int32) (c_trial_rules_firsts : Nat → Int32) (c_trial_rules_seconds : Nat → Int32) (c_trial_sights_count : Int32) (c_trial_sights_firsts : Nat → Int32) (c_trial_sights_seconds : Nat → Int32) (c_meetings_twos : Int32) (c_meetings_clashes : Int32) (c_meetings_first : Int32) (c_meetings_where : Int32) (c_meetings_firstTurn : Int32) (c_fewest_by : Int32) (c_fewest_count : Int32) (l1 : Int32) : Option (Int32 × (Nat → Int32) × (Nat → Int32) × (Nat → Int32) × (Nat → Int32) × Int32 × (Nat → Int32) × (Nat → Int32) × Int32 × (Nat → Int32) × (Nat → Int32) × Int32 × (Nat → Int32) × (Nat → Int32) × Int32 × Int32 × Int32 × Int32 × Int32 × Int32 × Int32) :=
  bd1 (f_X10_within l1 0 1) (fun r_3 =>
  (if r_3 = 0 then some ((-2), c_trial_widths, c_trial_keys, c_trial_cells, c_trial_delays, c_trial_rows_rung, c_trial_rows_rowOf, c_trial_rows_placeOf, c_trial_rules_count, c_trial_rules_firsts, c_trial_rules_seconds, c_trial_sights_count, c_trial_sights_firsts, c_trial_sights_seconds, c_meetings_twos, c_meetings_clashes, c_meetings_first, c_meetings_where, c_meetings_firstTurn, c_fewest_by, c_fewest_count)
  else bd13 (f_X8_takeFrom c_trial_widths c_trial_keys c_trial_cells c_trial_delays c_trial_rows_rowOf c_trial_rows_placeOf c_trial_rules_firsts c_trial_rules_seconds c_trial_sights_firsts c_trial_sights_seconds c_town_widths c_town_keys c_town_cells c_town_delays c_town_rows_rung c_town_rows_rowOf c_town_rows_placeOf c_town_rules_count c_town_rules_firsts c_town_rules_seconds c_town_sights_count c_town_sights_firsts c_town_sights_seconds) (fun c_trial_widths_20 c_trial_keys_20 c_trial_cells_20 c_trial_delays_20 c_trial_rows_rung_20 c_trial_rows_rowOf_20 c_trial_rows_placeOf_20 c_trial_rules_count_20 c_trial_rules_firsts_20 c_trial_rules_seconds_20 c_trial_sights_count_20 c_trial_sights_firsts_20 c_trial_sights_seconds_20 =>
  bd2 (f_X0_begin) (fun c_fewest_by_27 c_fewest_count_27 =>
  bd9 (loopN (fun (q : Int32 × (Nat → Int32) × Int32 × Int32 × Int32 × Int32 × Int32 × Int32 × Int32) => f_X10_start_b32 c_trial_widths_20 c_trial_cells_20 c_trial_rows_rowOf_20 c_trial_rows_placeOf_20 q.1 q.2.1 q.2.2.1 q.2.2.2.1 q.2.2.2.2.1 q.2.2.2.2.2.1 q.2.2.2.2.2.2.1 q.2.2.2.2.2.2.2.1 q.2.2.2.2.2.2.2.2) FU (0, c_trial_delays_20, c_meetings_twos, c_meetings_clashes, c_meetings_first, c_meetings_where, c_meetings_firstTurn, c_fewest_by_27, c_fewest_count_27)) (fun l2_32x c_trial_delays_32x c_meetings_twos_32x c_meetings_clashes_32x c_meetings_first_32x c_meetings_where_32x c_meetings_firstTurn_32x c_fewest_by_32x c_fewest_count_32x =>
  (if l1 = 0 then some (c_fewest_count_32x, c_trial_widths_20, c_trial_keys_20, c_trial_cells_20, c_trial_delays_32x, c_trial_rows_rung_20, c_trial_rows_rowOf_20, c_trial_rows_placeOf_20, c_trial_rules_count_20, c_trial_rules_firsts_20, c_trial_rules_seconds_20, c_trial_sights_count_20, c_trial_sights_firsts_20, c_trial_sights_seconds_20, c_meetings_twos_32x, c_meetings_clashes_32x, c_meetings_first_32x, c_meetings_where_32x, c_meetings_firstTurn_32x, c_fewest_by_32x, c_fewest_count_32x)
  else some (c_fewest_by_32x, c_trial_widths_20, c_trial_keys_20, c_trial_cells_20, c_trial_delays_32x, c_trial_rows_rung_20, c_trial_rows_rowOf_20, c_trial_rows_placeOf_20, c_trial_rules_count_20, c_trial_rules_firsts_20, c_trial_rules_seconds_20, c_trial_sights_count_20, c_trial_sights_firsts_20, c_trial_sights_seconds_20, c_meetings_twos_32x, c_meetings_clashes_32x, c_meetings_first_32x, c_meetings_where_32x, c_meetings_firstTurn_32x, c_fewest_by_32x, c_fewest_count_32x)))))))
noncomputable def f_X10_door_b42 (l1 : Int32) (c_trial_widths_30 : Nat → Int32) (c_trial_delays_30 : Nat → Int32) (c_trial_rows_rowOf_30 : Nat → Int32) (c_trial_rows_placeOf_30 : Nat → Int32) (l3_42 : Int32) (c_trial_cells_42 : Nat → Int32) (c_meetings_twos_42 : Int32) (c_meetings_clashes_42 : Int32) (c_meetings_first_42 : Int32) (c_meetings_where_42 : Int32) (c_meetings_firstTurn_42 : Int32) (c_fewest_by_42 : Int32) (c_fewest_count_42 : Int32) : Option ((Int32 × (Nat → Int32) × Int32 × Int32 × Int32 × Int32 × Int32 × Int32 × Int32) ⊕ (Int32 × (Nat → Int32) × Int32 × Int32 × Int32 × Int32 × Int32 × Int32 × Int32)) :=
  (if 17 ≤ l3_42 then some (.inr (l3_42, c_trial_cells_42, c_meetings_twos_42, c_meetings_clashes_42, c_meetings_first_42, c_meetings_where_42, c_meetings_firstTurn_42, c_fewest_by_42, c_fewest_count_42))
  else bd1 (f_X10_at 17 c_trial_cells_42 l3_42) (fun r_56 =>
  bd1 (f_X10_put 17 c_trial_cells_42 l3_42 (r_56 + l1)) (fun c_trial_cells_73 =>
  bd5 (f_X1_count c_meetings_firstTurn_42 c_trial_widths_30 c_trial_cells_73 c_trial_delays_30 c_trial_rows_rowOf_30 c_trial_rows_placeOf_30) (fun c_meetings_twos_84 c_meetings_clashes_84 c_meetings_first_84 c_meetings_where_84 c_meetings_firstTurn_84 =>
  bd1 (f_X10_put 17 c_trial_cells_73 l3_42 r_56) (fun c_trial_cells_97 =>
  bd2 (f_X0_offer c_fewest_by_42 c_fewest_count_42 l3_42 c_meetings_clashes_84) (fun c_fewest_by_112 c_fewest_count_112 =>
  some (.inl ((l3_42 + 1), c_trial_cells_97, c_meetings_twos_84, c_meetings_clashes_84, c_meetings_first_84, c_meetings_where_84, c_meetings_firstTurn_84, c_fewest_by_112, c_fewest_count_112))))))))
noncomputable def f_X10_door (c_town_widths : Nat → Int32) (c_town_keys : Nat → Int32) (c_town_cells : Nat → Int32) (c_town_delays : Nat → Int32) (c_town_rows_rung : Int32) (c_town_rows_rowOf : Nat → Int32) (c_town_rows_placeOf : Nat → Int32) (c_town_rules_count : Int32) (c_town_rules_firsts : Nat → Int32) (c_town_rules_seconds : Nat → Int32) (c_town_sights_count : Int32) (c_town_sights_firsts : Nat → Int32) (c_town_sights_seconds : Nat → Int32) (c_trial_widths : Nat → Int32) (c_trial_keys : Nat → Int32) (c_trial_cells : Nat → Int32) (c_trial_delays : Nat → Int32) (c_trial_rows_rung : Int32) (c_trial_rows_rowOf : Nat → Int32) (c_trial_rows_placeOf : Nat → Int32) (c_trial_rules_count : Int32) (c_trial_rules_firsts : Nat → Int32) (c_trial_rules_seconds : Nat → Int32) (c_trial_sights_count : Int32) (c_trial_sights_firsts : Nat → Int32) (c_trial_sights_seconds : Nat → Int32) (c_meetings_twos : Int32) (c_meetings_clashes : Int32) (c_meetings_first : Int32) (c_meetings_where : Int32) (c_meetings_firstTurn : Int32) (c_fewest_by : Int32) (c_fewest_count : Int32) (l1 : Int32) (l2 : Int32) : Option (Int32 × (Nat → Int32) × (Nat → Int32) × (Nat → Int32) × (Nat → Int32) × Int32 × (Nat → Int32) × (Nat → Int32) × Int32 × (Nat → Int32) × (Nat → Int32) × Int32 × (Nat → Int32) × (Nat → Int32) × Int32 × Int32 × Int32 × Int32 × Int32 × Int32 × Int32) :=
  bd1 (f_X10_within l1 0 30) (fun r_4 =>
  (if r_4 = 0 then some ((-2), c_trial_widths, c_trial_keys, c_trial_cells, c_trial_delays, c_trial_rows_rung, c_trial_rows_rowOf, c_trial_rows_placeOf, c_trial_rules_count, c_trial_rules_firsts, c_trial_rules_seconds, c_trial_sights_count, c_trial_sights_firsts, c_trial_sights_seconds, c_meetings_twos, c_meetings_clashes, c_meetings_first, c_meetings_where, c_meetings_firstTurn, c_fewest_by, c_fewest_count)
  else bd1 (f_X10_within l2 0 1) (fun r_13 =>
  (if r_13 = 0 then some ((-2), c_trial_widths, c_trial_keys, c_trial_cells, c_trial_delays, c_trial_rows_rung, c_trial_rows_rowOf, c_trial_rows_placeOf, c_trial_rules_count, c_trial_rules_firsts, c_trial_rules_seconds, c_trial_sights_count, c_trial_sights_firsts, c_trial_sights_seconds, c_meetings_twos, c_meetings_clashes, c_meetings_first, c_meetings_where, c_meetings_firstTurn, c_fewest_by, c_fewest_count)
  else bd13 (f_X8_takeFrom c_trial_widths c_trial_keys c_trial_cells c_trial_delays c_trial_rows_rowOf c_trial_rows_placeOf c_trial_rules_firsts c_trial_rules_seconds c_trial_sights_firsts c_trial_sights_seconds c_town_widths c_town_keys c_town_cells c_town_delays c_town_rows_rung c_town_rows_rowOf c_town_rows_placeOf c_town_rules_count c_town_rules_firsts c_town_rules_seconds c_town_sights_count c_town_sights_firsts c_town_sights_seconds) (fun c_trial_widths_30 c_trial_keys_30 c_trial_cells_30 c_trial_delays_30 c_trial_rows_rung_30 c_trial_rows_rowOf_30 c_trial_rows_placeOf_30 c_trial_rules_count_30 c_trial_rules_firsts_30 c_trial_rules_seconds_30 c_trial_sights_count_30 c_trial_sights_firsts_30 c_trial_sights_seconds_30 =>
  bd2 (f_X0_begin) (fun c_fewest_by_37 c_fewest_count_37 =>
  bd9 (loopN (fun (q : Int32 × (Nat → Int32) × Int32 × Int32 × Int32 × Int32 × Int32 × Int32 × Int32) => f_X10_door_b42 l1 c_trial_widths_30 c_trial_delays_30 c_trial_rows_rowOf_30 c_trial_rows_placeOf_30 q.1 q.2.1 q.2.2.1 q.2.2.2.1 q.2.2.2.2.1 q.2.2.2.2.2.1 q.2.2.2.2.2.2.1 q.2.2.2.2.2.2.2.1 q.2.2.2.2.2.2.2.2) FU (0, c_trial_cells_30, c_meetings_twos, c_meetings_clashes, c_meetings_first, c_meetings_where, c_meetings_firstTurn, c_fewest_by_37, c_fewest_count_37)) (fun l3_42x c_trial_cells_42x c_meetings_twos_42x c_meetings_clashes_42x c_meetings_first_42x c_meetings_where_42x c_meetings_firstTurn_42x c_fewest_by_42x c_fewest_count_42x =>
  (if l2 = 0 then some (c_fewest_count_42x, c_trial_widths_30, c_trial_keys_30, c_trial_cells_42x, c_trial_delays_30, c_trial_rows_rung_30, c_trial_rows_rowOf_30, c_trial_rows_placeOf_30, c_trial_rules_count_30, c_trial_rules_firsts_30, c_trial_rules_seconds_30, c_trial_sights_count_30, c_trial_sights_firsts_30, c_trial_sights_seconds_30, c_meetings_twos_42x, c_meetings_clashes_42x, c_meetings_first_42x, c_meetings_where_42x, c_meetings_firstTurn_42x, c_fewest_by_42x, c_fewest_count_42x)
  else some (c_fewest_by_42x, c_trial_widths_30, c_trial_keys_30, c_trial_cells_42x, c_trial_delays_30, c_trial_rows_rung_30, c_trial_rows_rowOf_30, c_trial_rows_placeOf_30, c_trial_rules_count_30, c_trial_rules_firsts_30, c_trial_rules_seconds_30, c_trial_sights_count_30, c_trial_sights_firsts_30, c_trial_sights_seconds_30, c_meetings_twos_42x, c_meetings_clashes_42x, c_meetings_first_42x, c_meetings_where_42x, c_meetings_firstTurn_42x, c_fewest_by_42x, c_fewest_count_42x)))))))))
noncomputable def f_X10_grate_b38 (c_town_keys : Nat → Int32) (c_town_delays : Nat → Int32) (c_town_rows_rowOf : Nat → Int32) (c_town_rows_placeOf : Nat → Int32) (l2_38 : Int32) (c_fewest_by_38 : Int32) (c_fewest_count_38 : Int32) : Option ((Int32 × Int32 × Int32) ⊕ (Int32 × Int32 × Int32)) :=
  (if 12 ≤ l2_38 then some (.inr (l2_38, c_fewest_by_38, c_fewest_count_38))
  else bd1 (f_X1_grating c_town_keys c_town_delays c_town_rows_rowOf c_town_rows_placeOf l2_38) (fun r_58 =>
  bd2 (f_X0_offer c_fewest_by_38 c_fewest_count_38 l2_38 r_58) (fun c_fewest_by_61 c_fewest_count_61 =>
  some (.inl ((l2_38 + 1), c_fewest_by_61, c_fewest_count_61)))))
noncomputable def f_X10_grate (c_town_keys : Nat → Int32) (c_town_delays : Nat → Int32) (c_town_rows_rowOf : Nat → Int32) (c_town_rows_placeOf : Nat → Int32) (c_fewest_by : Int32) (c_fewest_count : Int32) (l1 : Int32) : Option (Int32 × Int32 × Int32) :=
  bd1 (f_X10_within l1 0 2) (fun r_3 =>
  (if r_3 = 0 then some ((-2), c_fewest_by, c_fewest_count)
  else (if l1 = 0 then bd1 (f_X1_grating c_town_keys c_town_delays c_town_rows_rowOf c_town_rows_placeOf 0) (fun r_25 =>
  some (r_25, c_fewest_by, c_fewest_count))
  else bd2 (f_X0_begin) (fun c_fewest_by_33 c_fewest_count_33 =>
  bd3 (loopN (fun (q : Int32 × Int32 × Int32) => f_X10_grate_b38 c_town_keys c_town_delays c_town_rows_rowOf c_town_rows_placeOf q.1 q.2.1 q.2.2) FU (0, c_fewest_by_33, c_fewest_count_33)) (fun l2_38x c_fewest_by_38x c_fewest_count_38x =>
  (if l1 = 1 then some (c_fewest_by_38x, c_fewest_by_38x, c_fewest_count_38x)
  else some (c_fewest_count_38x, c_fewest_by_38x, c_fewest_count_38x)))))))
noncomputable def f_X10_rule (c_town_rules_count : Int32) (c_town_rules_firsts : Nat → Int32) (c_town_rules_seconds : Nat → Int32) (l1 : Int32) (l2 : Int32) : Option (Int32 × Int32 × (Nat → Int32) × (Nat → Int32)) :=
  bd1 (f_X10_within l1 0 9) (fun r_4 =>
  (if r_4 = 0 then some ((-1), c_town_rules_count, c_town_rules_firsts, c_town_rules_seconds)
  else bd1 (f_X10_within l2 0 9) (fun r_14 =>
  (if r_14 = 0 then some ((-1), c_town_rules_count, c_town_rules_firsts, c_town_rules_seconds)
  else (if l1 = l2 then some ((-1), c_town_rules_count, c_town_rules_firsts, c_town_rules_seconds)
  else (if c_town_rules_count < 10 then bd3 (f_X5_append 10 c_town_rules_count c_town_rules_firsts c_town_rules_seconds l1 l2) (fun c_town_rules_count_54 c_town_rules_firsts_54 c_town_rules_seconds_54 =>
  some (c_town_rules_count_54, c_town_rules_count_54, c_town_rules_firsts_54, c_town_rules_seconds_54))
  else some ((-4), c_town_rules_count, c_town_rules_firsts, c_town_rules_seconds)))))))
noncomputable def f_X10_unrule (c_town_rules_count : Int32) : Option (Int32 × Int32) :=
  bd2 (f_X5_empty c_town_rules_count) (fun r_7 c_town_rules_count_7 =>
  some (r_7, c_town_rules_count_7))
noncomputable def f_X10_orders (c_town_rows_rowOf : Nat → Int32) (c_town_rules_count : Int32) (c_town_rules_firsts : Nat → Int32) (c_town_rules_seconds : Nat → Int32) (c_arranging_size : Int32) (c_arranging_crowd : Nat → Int32) (c_arranging_answers : Nat → Int32) (l1 : Int32) (l2 : Int32) : Option (Int32 × Int32 × (Nat → Int32) × (Nat → Int32)) :=
  bd1 (f_X10_isRow l1) (fun r_1 =>
  (if r_1 = 0 then some ((-2), c_arranging_size, c_arranging_crowd, c_arranging_answers)
  else bd1 (f_X10_within l2 0 1) (fun r_10 =>
  (if r_10 = 0 then some ((-2), c_arranging_size, c_arranging_crowd, c_arranging_answers)
  else bd2 (f_X3_gather c_arranging_crowd c_town_rows_rowOf l1) (fun c_arranging_size_31 c_arranging_crowd_31 =>
  bd1 (f_X3_countOrders 10 c_arranging_size_31 c_arranging_crowd_31 c_arranging_answers c_town_rules_count c_town_rules_firsts c_town_rules_seconds) (fun c_arranging_answers_45 =>
  (if l2 = 0 then bd1 (f_X3_answerForAll c_arranging_size_31 c_arranging_answers_45) (fun r_56 =>
  some (r_56, c_arranging_size_31, c_arranging_crowd_31, c_arranging_answers_45))
  else bd1 (f_X3_firstByRules 10 c_arranging_size_31 c_arranging_crowd_31 c_arranging_answers_45 c_town_rules_count c_town_rules_firsts c_town_rules_seconds) (fun r_73 =>
  some (r_73, c_arranging_size_31, c_arranging_crowd_31, c_arranging_answers_45)))))))))
noncomputable def f_X10_seen (c_town_sights_count : Int32) (c_town_sights_firsts : Nat → Int32) (c_town_sights_seconds : Nat → Int32) (l1 : Int32) (l2 : Int32) : Option (Int32 × Int32 × (Nat → Int32) × (Nat → Int32)) :=
  bd1 (f_X10_within l1 0 16) (fun r_4 =>
  (if r_4 = 0 then some ((-1), c_town_sights_count, c_town_sights_firsts, c_town_sights_seconds)
  else bd1 (f_X10_within l2 0 60) (fun r_16 =>
  (if r_16 = 0 then some ((-2), c_town_sights_count, c_town_sights_firsts, c_town_sights_seconds)
  else (if c_town_sights_count < 8 then bd3 (f_X5_append 8 c_town_sights_count c_town_sights_firsts c_town_sights_seconds l1 l2) (fun c_town_sights_count_52 c_town_sights_firsts_52 c_town_sights_seconds_52 =>
  some (c_town_sights_count_52, c_town_sights_count_52, c_town_sights_firsts_52, c_town_sights_seconds_52))
  else some ((-4), c_town_sights_count, c_town_sights_firsts, c_town_sights_seconds))))))
noncomputable def f_X10_forget (c_town_sights_count : Int32) : Option (Int32 × Int32) :=
  bd2 (f_X5_empty c_town_sights_count) (fun r_7 c_town_sights_count_7 =>
  some (r_7, c_town_sights_count_7))
noncomputable def f_X10_who (c_town_delays : Nat → Int32) (c_town_rows_rowOf : Nat → Int32) (c_town_rows_placeOf : Nat → Int32) (c_town_sights_count : Int32) (c_town_sights_firsts : Nat → Int32) (c_town_sights_seconds : Nat → Int32) (c_watch_count : Int32) (c_watch_memberBits : Int32) (c_watch_lateBits : Int32) (c_watch_rowOf : Nat → Int32) (c_watch_startOf : Nat → Int32) (l1 : Int32) : Option (Int32 × Int32 × Int32 × Int32 × (Nat → Int32) × (Nat → Int32)) :=
  bd1 (f_X10_within l1 0 2) (fun r_3 =>
  (if r_3 = 0 then some ((-2), c_watch_count, c_watch_memberBits, c_watch_lateBits, c_watch_rowOf, c_watch_startOf)
  else bd5 (f_X9_fit c_watch_rowOf c_watch_startOf c_town_delays c_town_rows_rowOf c_town_rows_placeOf c_town_sights_count c_town_sights_firsts c_town_sights_seconds) (fun c_watch_count_20 c_watch_memberBits_20 c_watch_lateBits_20 c_watch_rowOf_20 c_watch_startOf_20 =>
  (if l1 = 0 then some (c_watch_count_20, c_watch_count_20, c_watch_memberBits_20, c_watch_lateBits_20, c_watch_rowOf_20, c_watch_startOf_20)
  else (if l1 = 1 then some (c_watch_memberBits_20, c_watch_count_20, c_watch_memberBits_20, c_watch_lateBits_20, c_watch_rowOf_20, c_watch_startOf_20)
  else some (c_watch_lateBits_20, c_watch_count_20, c_watch_memberBits_20, c_watch_lateBits_20, c_watch_rowOf_20, c_watch_startOf_20))))))
noncomputable def f_X10_look_b45 (c_watch_count_20 : Int32) (c_watch_rowOf_20 : Nat → Int32) (c_watch_startOf_20 : Nat → Int32) (l2_45 : Int32) (c_watch_tally_45 : Nat → Int32) (c_fewest_by_45 : Int32) (c_fewest_count_45 : Int32) : Option ((Int32 × (Nat → Int32) × Int32 × Int32) ⊕ (Int32 × (Nat → Int32) × Int32 × Int32)) :=
  (if 60 < l2_45 then some (.inr (l2_45, c_watch_tally_45, c_fewest_by_45, c_fewest_count_45))
  else bd2 (f_X9_mostLeftAt c_watch_count_20 c_watch_rowOf_20 c_watch_startOf_20 c_watch_tally_45 l2_45) (fun r_61 c_watch_tally_61 =>
  bd2 (f_X0_offer c_fewest_by_45 c_fewest_count_45 l2_45 r_61) (fun c_fewest_by_64 c_fewest_count_64 =>
  some (.inl ((l2_45 + 1), c_watch_tally_61, c_fewest_by_64, c_fewest_count_64)))))
noncomputable def f_X10_look (c_town_delays : Nat → Int32) (c_town_rows_rowOf : Nat → Int32) (c_town_rows_placeOf : Nat → Int32) (c_town_sights_count : Int32) (c_town_sights_firsts : Nat → Int32) (c_town_sights_seconds : Nat → Int32) (c_watch_count : Int32) (c_watch_memberBits : Int32) (c_watch_lateBits : Int32) (c_watch_rowOf : Nat → Int32) (c_watch_startOf : Nat → Int32) (c_watch_tally : Nat → Int32) (c_fewest_by : Int32) (c_fewest_count : Int32) (l1 : Int32) : Option (Int32 × Int32 × Int32 × Int32 × (Nat → Int32) × (Nat → Int32) × (Nat → Int32) × Int32 × Int32) :=
  bd1 (f_X10_within l1 0 1) (fun r_3 =>
  (if r_3 = 0 then some ((-2), c_watch_count, c_watch_memberBits, c_watch_lateBits, c_watch_rowOf, c_watch_startOf, c_watch_tally, c_fewest_by, c_fewest_count)
  else bd5 (f_X9_fit c_watch_rowOf c_watch_startOf c_town_delays c_town_rows_rowOf c_town_rows_placeOf c_town_sights_count c_town_sights_firsts c_town_sights_seconds) (fun c_watch_count_20 c_watch_memberBits_20 c_watch_lateBits_20 c_watch_rowOf_20 c_watch_startOf_20 =>
  (if c_watch_count_20 = 0 then some ((-6), c_watch_count_20, c_watch_memberBits_20, c_watch_lateBits_20, c_watch_rowOf_20, c_watch_startOf_20, c_watch_tally, c_fewest_by, c_fewest_count)
  else bd2 (f_X0_begin) (fun c_fewest_by_40 c_fewest_count_40 =>
  bd4 (loopN (fun (q : Int32 × (Nat → Int32) × Int32 × Int32) => f_X10_look_b45 c_watch_count_20 c_watch_rowOf_20 c_watch_startOf_20 q.1 q.2.1 q.2.2.1 q.2.2.2) FU (0, c_watch_tally, c_fewest_by_40, c_fewest_count_40)) (fun l2_45x c_watch_tally_45x c_fewest_by_45x c_fewest_count_45x =>
  (if l1 = 0 then some (c_fewest_by_45x, c_watch_count_20, c_watch_memberBits_20, c_watch_lateBits_20, c_watch_rowOf_20, c_watch_startOf_20, c_watch_tally_45x, c_fewest_by_45x, c_fewest_count_45x)
  else some (c_fewest_count_45x, c_watch_count_20, c_watch_memberBits_20, c_watch_lateBits_20, c_watch_rowOf_20, c_watch_startOf_20, c_watch_tally_45x, c_fewest_by_45x, c_fewest_count_45x))))))))
noncomputable def f_X10_chance (c_town_widths : Nat → Int32) (c_town_cells : Nat → Int32) (c_town_delays : Nat → Int32) (c_town_rows_rowOf : Nat → Int32) (c_town_rows_placeOf : Nat → Int32) (c_meetings_twos : Int32) (c_meetings_clashes : Int32) (c_meetings_first : Int32) (c_meetings_where : Int32) (c_meetings_firstTurn : Int32) (c_odds_upper : Int64) (c_odds_lower : Int64) (c_odds_weights : Nat → Int64) (l1 : Int32) (l2 : Int32) (l3 : Int32) : Option (Int64 × Int32 × Int32 × Int32 × Int32 × Int32 × Int64 × Int64 × (Nat → Int64)) :=
  bd1 (f_X10_within l1 0 10) (fun r_4 =>
  (if r_4 = 0 then some ((-1000000000000000002), c_meetings_twos, c_meetings_clashes, c_meetings_first, c_meetings_where, c_meetings_firstTurn, c_odds_upper, c_odds_lower, c_odds_weights)
  else bd1 (f_X10_within l2 0 12) (fun r_14 =>
  (if r_14 = 0 then some ((-1000000000000000002), c_meetings_twos, c_meetings_clashes, c_meetings_first, c_meetings_where, c_meetings_firstTurn, c_odds_upper, c_odds_lower, c_odds_weights)
  else bd1 (f_X10_within l3 0 1) (fun r_23 =>
  (if r_23 = 0 then some ((-1000000000000000002), c_meetings_twos, c_meetings_clashes, c_meetings_first, c_meetings_where, c_meetings_firstTurn, c_odds_upper, c_odds_lower, c_odds_weights)
  else bd5 (f_X1_count c_meetings_firstTurn c_town_widths c_town_cells c_town_delays c_town_rows_rowOf c_town_rows_placeOf) (fun c_meetings_twos_41 c_meetings_clashes_41 c_meetings_first_41 c_meetings_where_41 c_meetings_firstTurn_41 =>
  (if c_meetings_clashes_41 ≤ 12 then bd3 (f_X2_reckon c_odds_weights c_meetings_clashes_41 l1 l2) (fun c_odds_upper_73 c_odds_lower_73 c_odds_weights_73 =>
  (if l3 = 0 then some (c_odds_upper_73, c_meetings_twos_41, c_meetings_clashes_41, c_meetings_first_41, c_meetings_where_41, c_meetings_firstTurn_41, c_odds_upper_73, c_odds_lower_73, c_odds_weights_73)
  else some (c_odds_lower_73, c_meetings_twos_41, c_meetings_clashes_41, c_meetings_first_41, c_meetings_where_41, c_meetings_firstTurn_41, c_odds_upper_73, c_odds_lower_73, c_odds_weights_73)))
  else some ((-1000000000000000003), c_meetings_twos_41, c_meetings_clashes_41, c_meetings_first_41, c_meetings_where_41, c_meetings_firstTurn_41, c_odds_upper, c_odds_lower, c_odds_weights)))))))))
noncomputable def f_X10_toldCount (c_town_rows_rung : Int32) (c_town_rows_rowOf : Nat → Int32) (c_town_rules_count : Int32) (c_town_sights_count : Int32) (c_pad_count : Int32) (l1 : Int32) : Option (Int32) :=
  (if l1 = 0 then some c_pad_count
  else (if l1 = 1 then bd1 (f_X7_lengthOf c_town_rows_rowOf 0) (fun r_52 =>
  some r_52)
  else (if l1 = 2 then bd1 (f_X7_lengthOf c_town_rows_rowOf 1) (fun r_64 =>
  some r_64)
  else (if l1 = 3 then some c_town_rows_rung
  else (if l1 = 4 then some c_town_rules_count
  else some c_town_sights_count)))))
noncomputable def f_X10_told (c_town_widths : Nat → Int32) (c_town_keys : Nat → Int32) (c_town_cells : Nat → Int32) (c_town_delays : Nat → Int32) (c_town_rows_rung : Int32) (c_town_rows_rowOf : Nat → Int32) (c_town_rows_placeOf : Nat → Int32) (c_town_rules_count : Int32) (c_town_sights_count : Int32) (c_pad_count : Int32) (l1 : Int32) : Option (Int32) :=
  bd1 (f_X10_within l1 0 5) (fun r_3 =>
  (if r_3 = 0 then bd1 (f_X10_within l1 6 7) (fun r_20 =>
  (if r_20 = 0 then bd1 (f_X10_within l1 20 36) (fun r_46 =>
  (if r_46 = 0 then bd1 (f_X10_within l1 40 49) (fun r_72 =>
  (if r_72 = 0 then bd1 (f_X10_within l1 60 69) (fun r_98 =>
  (if r_98 = 0 then bd1 (f_X10_within l1 80 85) (fun r_124 =>
  (if r_124 = 0 then bd1 (f_X10_within l1 90 95) (fun r_151 =>
  (if r_151 = 0 then some (-2)
  else bd1 (f_X7_whoIsAt c_town_rows_rowOf c_town_rows_placeOf 1 (l1 - 90)) (fun r_169 =>
  some r_169)))
  else bd1 (f_X7_whoIsAt c_town_rows_rowOf c_town_rows_placeOf 0 (l1 - 80)) (fun r_142 =>
  some r_142)))
  else bd1 (f_X10_at 10 c_town_keys (l1 - 60)) (fun r_115 =>
  some r_115)))
  else bd1 (f_X10_at 10 c_town_widths (l1 - 40)) (fun r_89 =>
  some r_89)))
  else bd1 (f_X10_at 17 c_town_cells (l1 - 20)) (fun r_63 =>
  some r_63)))
  else bd1 (f_X10_at 2 c_town_delays (l1 - 6)) (fun r_37 =>
  some r_37)))
  else bd1 (f_X10_toldCount c_town_rows_rung c_town_rows_rowOf c_town_rules_count c_town_sights_count c_pad_count l1) (fun r_11 =>
  some r_11)))
noncomputable def f_X10_year (c_town_widths : Nat → Int32) (c_town_keys : Nat → Int32) (c_town_cells : Nat → Int32) (c_town_delays : Nat → Int32) (c_town_rows_rung : Int32) (c_town_rows_rowOf : Nat → Int32) (c_town_rows_placeOf : Nat → Int32) (c_town_rules_count : Int32) (c_town_rules_firsts : Nat → Int32) (c_town_rules_seconds : Nat → Int32) (c_town_sights_count : Int32) (c_town_sights_firsts : Nat → Int32) (c_town_sights_seconds : Nat → Int32) (c_trial_widths : Nat → Int32) (c_trial_keys : Nat → Int32) (c_trial_cells : Nat → Int32) (c_trial_delays : Nat → Int32) (c_trial_rows_rung : Int32) (c_trial_rows_rowOf : Nat → Int32) (c_trial_rows_placeOf : Nat → Int32) (c_trial_rules_count : Int32) (c_trial_rules_firsts : Nat → Int32) (c_trial_rules_seconds : Nat → Int32) (c_trial_sights_count : Int32) (c_trial_sights_firsts : Nat → Int32) (c_trial_sights_seconds : Nat → Int32) (c_meetings_twos : Int32) (c_meetings_clashes : Int32) (c_meetings_first : Int32) (c_meetings_where : Int32) (c_meetings_firstTurn : Int32) (l1 : Int32) (l2 : Int32) (l3 : Int32) : Option (Int32 × (Nat → Int32) × (Nat → Int32) × (Nat → Int32) × (Nat → Int32) × Int32 × (Nat → Int32) × (Nat → Int32) × Int32 × (Nat → Int32) × (Nat → Int32) × Int32 × (Nat → Int32) × (Nat → Int32) × Int32 × Int32 × Int32 × Int32 × Int32) :=
  bd1 (f_X10_within l1 0 9999) (fun r_5 =>
  (if r_5 = 0 then some ((-2), c_trial_widths, c_trial_keys, c_trial_cells, c_trial_delays, c_trial_rows_rung, c_trial_rows_rowOf, c_trial_rows_placeOf, c_trial_rules_count, c_trial_rules_firsts, c_trial_rules_seconds, c_trial_sights_count, c_trial_sights_firsts, c_trial_sights_seconds, c_meetings_twos, c_meetings_clashes, c_meetings_first, c_meetings_where, c_meetings_firstTurn)
  else bd1 (f_X10_within l2 1 99) (fun r_15 =>
  (if r_15 = 0 then some ((-2), c_trial_widths, c_trial_keys, c_trial_cells, c_trial_delays, c_trial_rows_rung, c_trial_rows_rowOf, c_trial_rows_placeOf, c_trial_rules_count, c_trial_rules_firsts, c_trial_rules_seconds, c_trial_sights_count, c_trial_sights_firsts, c_trial_sights_seconds, c_meetings_twos, c_meetings_clashes, c_meetings_first, c_meetings_where, c_meetings_firstTurn)
  else bd1 (f_X10_within l3 0 2) (fun r_24 =>
  (if r_24 = 0 then some ((-2), c_trial_widths, c_trial_keys, c_trial_cells, c_trial_delays, c_trial_rows_rung, c_trial_rows_rowOf, c_trial_rows_placeOf, c_trial_rules_count, c_trial_rules_firsts, c_trial_rules_seconds, c_trial_sights_count, c_trial_sights_firsts, c_trial_sights_seconds, c_meetings_twos, c_meetings_clashes, c_meetings_first, c_meetings_where, c_meetings_firstTurn)
  else bd13 (f_X8_takeFrom c_trial_widths c_trial_keys c_trial_cells c_trial_delays c_trial_rows_rowOf c_trial_rows_placeOf c_trial_rules_firsts c_trial_rules_seconds c_trial_sights_firsts c_trial_sights_seconds c_town_widths c_town_keys c_town_cells c_town_delays c_town_rows_rung c_town_rows_rowOf c_town_rows_placeOf c_town_rules_count c_town_rules_firsts c_town_rules_seconds c_town_sights_count c_town_sights_firsts c_town_sights_seconds) (fun c_trial_widths_41 c_trial_keys_41 c_trial_cells_41 c_trial_delays_41 c_trial_rows_rung_41 c_trial_rows_rowOf_41 c_trial_rows_placeOf_41 c_trial_rules_count_41 c_trial_rules_firsts_41 c_trial_rules_seconds_41 c_trial_sights_count_41 c_trial_sights_firsts_41 c_trial_sights_seconds_41 =>
  bd3 (f_X7_drawYear c_trial_rows_rung_41 c_trial_rows_rowOf_41 c_trial_rows_placeOf_41 l1 l2) (fun c_trial_rows_rung_53 c_trial_rows_rowOf_53 c_trial_rows_placeOf_53 =>
  (if l3 = 0 then bd1 (f_X7_lengthOf c_trial_rows_rowOf_53 0) (fun r_68 =>
  bd1 (f_X7_lengthOf c_trial_rows_rowOf_53 1) (fun r_79 =>
  some ((r_68 + r_79), c_trial_widths_41, c_trial_keys_41, c_trial_cells_41, c_trial_delays_41, c_trial_rows_rung_53, c_trial_rows_rowOf_53, c_trial_rows_placeOf_53, c_trial_rules_count_41, c_trial_rules_firsts_41, c_trial_rules_seconds_41, c_trial_sights_count_41, c_trial_sights_firsts_41, c_trial_sights_seconds_41, c_meetings_twos, c_meetings_clashes, c_meetings_first, c_meetings_where, c_meetings_firstTurn)))
  else (if l3 = 2 then some (c_trial_rows_rung_53, c_trial_widths_41, c_trial_keys_41, c_trial_cells_41, c_trial_delays_41, c_trial_rows_rung_53, c_trial_rows_rowOf_53, c_trial_rows_placeOf_53, c_trial_rules_count_41, c_trial_rules_firsts_41, c_trial_rules_seconds_41, c_trial_sights_count_41, c_trial_sights_firsts_41, c_trial_sights_seconds_41, c_meetings_twos, c_meetings_clashes, c_meetings_first, c_meetings_where, c_meetings_firstTurn)
  else bd5 (f_X1_count c_meetings_firstTurn c_trial_widths_41 c_trial_cells_41 c_trial_delays_41 c_trial_rows_rowOf_53 c_trial_rows_placeOf_53) (fun c_meetings_twos_108 c_meetings_clashes_108 c_meetings_first_108 c_meetings_where_108 c_meetings_firstTurn_108 =>
  some (c_meetings_clashes_108, c_trial_widths_41, c_trial_keys_41, c_trial_cells_41, c_trial_delays_41, c_trial_rows_rung_53, c_trial_rows_rowOf_53, c_trial_rows_placeOf_53, c_trial_rules_count_41, c_trial_rules_firsts_41, c_trial_rules_seconds_41, c_trial_sights_count_41, c_trial_sights_firsts_41, c_trial_sights_seconds_41, c_meetings_twos_108, c_meetings_clashes_108, c_meetings_first_108, c_meetings_where_108, c_meetings_firstTurn_108))))))))))))
noncomputable def f_X10_image (c_keptImages : Int32) (c_town_widths : Nat → Int32) (c_town_keys : Nat → Int32) (c_town_cells : Nat → Int32) (c_town_delays : Nat → Int32) (c_town_rows_rung : Int32) (c_town_rows_rowOf : Nat → Int32) (c_town_rows_placeOf : Nat → Int32) (c_town_rules_count : Int32) (c_town_rules_firsts : Nat → Int32) (c_town_rules_seconds : Nat → Int32) (c_town_sights_count : Int32) (c_town_sights_firsts : Nat → Int32) (c_town_sights_seconds : Nat → Int32) (c_firstImage_widths : Nat → Int32) (c_firstImage_keys : Nat → Int32) (c_firstImage_cells : Nat → Int32) (c_firstImage_delays : Nat → Int32) (c_firstImage_rows_rung : Int32) (c_firstImage_rows_rowOf : Nat → Int32) (c_firstImage_rows_placeOf : Nat → Int32) (c_firstImage_rules_count : Int32) (c_firstImage_rules_firsts : Nat → Int32) (c_firstImage_rules_seconds : Nat → Int32) (c_firstImage_sights_count : Int32) (c_firstImage_sights_firsts : Nat → Int32) (c_firstImage_sights_seconds : Nat → Int32) (c_secondImage_widths : Nat → Int32) (c_secondImage_keys : Nat → Int32) (c_secondImage_cells : Nat → Int32) (c_secondImage_delays : Nat → Int32) (c_secondImage_rows_rung : Int32) (c_secondImage_rows_rowOf : Nat → Int32) (c_secondImage_rows_placeOf : Nat → Int32) (c_secondImage_rules_count : Int32) (c_secondImage_rules_firsts : Nat → Int32) (c_secondImage_rules_seconds : Nat → Int32) (c_secondImage_sights_count : Int32) (c_secondImage_sights_firsts : Nat → Int32) (c_secondImage_sights_seconds : Nat → Int32) (l1 : Int32) : Option (Int32 × Int32 × (Nat → Int32) × (Nat → Int32) × (Nat → Int32) × (Nat → Int32) × Int32 × (Nat → Int32) × (Nat → Int32) × Int32 × (Nat → Int32) × (Nat → Int32) × Int32 × (Nat → Int32) × (Nat → Int32) × (Nat → Int32) × (Nat → Int32) × (Nat → Int32) × (Nat → Int32) × Int32 × (Nat → Int32) × (Nat → Int32) × Int32 × (Nat → Int32) × (Nat → Int32) × Int32 × (Nat → Int32) × (Nat → Int32)) :=
  bd1 (f_X10_within l1 0 1) (fun r_3 =>
  (if r_3 = 0 then some ((-2), c_keptImages, c_firstImage_widths, c_firstImage_keys, c_firstImage_cells, c_firstImage_delays, c_firstImage_rows_rung, c_firstImage_rows_rowOf, c_firstImage_rows_placeOf, c_firstImage_rules_count, c_firstImage_rules_firsts, c_firstImage_rules_seconds, c_firstImage_sights_count, c_firstImage_sights_firsts, c_firstImage_sights_seconds, c_secondImage_widths, c_secondImage_keys, c_secondImage_cells, c_secondImage_delays, c_secondImage_rows_rung, c_secondImage_rows_rowOf, c_secondImage_rows_placeOf, c_secondImage_rules_count, c_secondImage_rules_firsts, c_secondImage_rules_seconds, c_secondImage_sights_count, c_secondImage_sights_firsts, c_secondImage_sights_seconds)
  else (if l1 = 0 then bd13 (f_X8_takeFrom c_firstImage_widths c_firstImage_keys c_firstImage_cells c_firstImage_delays c_firstImage_rows_rowOf c_firstImage_rows_placeOf c_firstImage_rules_firsts c_firstImage_rules_seconds c_firstImage_sights_firsts c_firstImage_sights_seconds c_town_widths c_town_keys c_town_cells c_town_delays c_town_rows_rung c_town_rows_rowOf c_town_rows_placeOf c_town_rules_count c_town_rules_firsts c_town_rules_seconds c_town_sights_count c_town_sights_firsts c_town_sights_seconds) (fun c_firstImage_widths_21 c_firstImage_keys_21 c_firstImage_cells_21 c_firstImage_delays_21 c_firstImage_rows_rung_21 c_firstImage_rows_rowOf_21 c_firstImage_rows_placeOf_21 c_firstImage_rules_count_21 c_firstImage_rules_firsts_21 c_firstImage_rules_seconds_21 c_firstImage_sights_count_21 c_firstImage_sights_firsts_21 c_firstImage_sights_seconds_21 =>
  some (1, (c_keptImages ||| (1 <<< (l1 &&& 31))), c_firstImage_widths_21, c_firstImage_keys_21, c_firstImage_cells_21, c_firstImage_delays_21, c_firstImage_rows_rung_21, c_firstImage_rows_rowOf_21, c_firstImage_rows_placeOf_21, c_firstImage_rules_count_21, c_firstImage_rules_firsts_21, c_firstImage_rules_seconds_21, c_firstImage_sights_count_21, c_firstImage_sights_firsts_21, c_firstImage_sights_seconds_21, c_secondImage_widths, c_secondImage_keys, c_secondImage_cells, c_secondImage_delays, c_secondImage_rows_rung, c_secondImage_rows_rowOf, c_secondImage_rows_placeOf, c_secondImage_rules_count, c_secondImage_rules_firsts, c_secondImage_rules_seconds, c_secondImage_sights_count, c_secondImage_sights_firsts, c_secondImage_sights_seconds))
  else bd13 (f_X8_takeFrom c_secondImage_widths c_secondImage_keys c_secondImage_cells c_secondImage_delays c_secondImage_rows_rowOf c_secondImage_rows_placeOf c_secondImage_rules_firsts c_secondImage_rules_seconds c_secondImage_sights_firsts c_secondImage_sights_seconds c_town_widths c_town_keys c_town_cells c_town_delays c_town_rows_rung c_town_rows_rowOf c_town_rows_placeOf c_town_rules_count c_town_rules_firsts c_town_rules_seconds c_town_sights_count c_town_sights_firsts c_town_sights_seconds) (fun c_secondImage_widths_21 c_secondImage_keys_21 c_secondImage_cells_21 c_secondImage_delays_21 c_secondImage_rows_rung_21 c_secondImage_rows_rowOf_21 c_secondImage_rows_placeOf_21 c_secondImage_rules_count_21 c_secondImage_rules_firsts_21 c_secondImage_rules_seconds_21 c_secondImage_sights_count_21 c_secondImage_sights_firsts_21 c_secondImage_sights_seconds_21 =>
  some (1, (c_keptImages ||| (1 <<< (l1 &&& 31))), c_firstImage_widths, c_firstImage_keys, c_firstImage_cells, c_firstImage_delays, c_firstImage_rows_rung, c_firstImage_rows_rowOf, c_firstImage_rows_placeOf, c_firstImage_rules_count, c_firstImage_rules_firsts, c_firstImage_rules_seconds, c_firstImage_sights_count, c_firstImage_sights_firsts, c_firstImage_sights_seconds, c_secondImage_widths_21, c_secondImage_keys_21, c_secondImage_cells_21, c_secondImage_delays_21, c_secondImage_rows_rung_21, c_secondImage_rows_rowOf_21, c_secondImage_rows_placeOf_21, c_secondImage_rules_count_21, c_secondImage_rules_firsts_21, c_secondImage_rules_seconds_21, c_secondImage_sights_count_21, c_secondImage_sights_firsts_21, c_secondImage_sights_seconds_21)))))
noncomputable def f_X10_restore (c_keptImages : Int32) (c_town_widths : Nat → Int32) (c_town_keys : Nat → Int32) (c_town_cells : Nat → Int32) (c_town_delays : Nat → Int32) (c_town_rows_rung : Int32) (c_town_rows_rowOf : Nat → Int32) (c_town_rows_placeOf : Nat → Int32) (c_town_rules_count : Int32) (c_town_rules_firsts : Nat → Int32) (c_town_rules_seconds : Nat → Int32) (c_town_sights_count : Int32) (c_town_sights_firsts : Nat → Int32) (c_town_sights_seconds : Nat → Int32) (c_firstImage_widths : Nat → Int32) (c_firstImage_keys : Nat → Int32) (c_firstImage_cells : Nat → Int32) (c_firstImage_delays : Nat → Int32) (c_firstImage_rows_rung : Int32) (c_firstImage_rows_rowOf : Nat → Int32) (c_firstImage_rows_placeOf : Nat → Int32) (c_firstImage_rules_count : Int32) (c_firstImage_rules_firsts : Nat → Int32) (c_firstImage_rules_seconds : Nat → Int32) (c_firstImage_sights_count : Int32) (c_firstImage_sights_firsts : Nat → Int32) (c_firstImage_sights_seconds : Nat → Int32) (c_secondImage_widths : Nat → Int32) (c_secondImage_keys : Nat → Int32) (c_secondImage_cells : Nat → Int32) (c_secondImage_delays : Nat → Int32) (c_secondImage_rows_rung : Int32) (c_secondImage_rows_rowOf : Nat → Int32) (c_secondImage_rows_placeOf : Nat → Int32) (c_secondImage_rules_count : Int32) (c_secondImage_rules_firsts : Nat → Int32) (c_secondImage_rules_seconds : Nat → Int32) (c_secondImage_sights_count : Int32) (c_secondImage_sights_firsts : Nat → Int32) (c_secondImage_sights_seconds : Nat → Int32) (l1 : Int32) : Option (Int32 × (Nat → Int32) × (Nat → Int32) × (Nat → Int32) × (Nat → Int32) × Int32 × (Nat → Int32) × (Nat → Int32) × Int32 × (Nat → Int32) × (Nat → Int32) × Int32 × (Nat → Int32) × (Nat → Int32)) :=
  bd1 (f_X10_within l1 0 1) (fun r_3 =>
  (if r_3 = 0 then some ((-2), c_town_widths, c_town_keys, c_town_cells, c_town_delays, c_town_rows_rung, c_town_rows_rowOf, c_town_rows_placeOf, c_town_rules_count, c_town_rules_firsts, c_town_rules_seconds, c_town_sights_count, c_town_sights_firsts, c_town_sights_seconds)
  else (if (c_keptImages &&& (1 <<< (l1 &&& 31))) = 0 then some ((-3), c_town_widths, c_town_keys, c_town_cells, c_town_delays, c_town_rows_rung, c_town_rows_rowOf, c_town_rows_placeOf, c_town_rules_count, c_town_rules_firsts, c_town_rules_seconds, c_town_sights_count, c_town_sights_firsts, c_town_sights_seconds)
  else (if l1 = 0 then bd13 (f_X8_takeFrom c_town_widths c_town_keys c_town_cells c_town_delays c_town_rows_rowOf c_town_rows_placeOf c_town_rules_firsts c_town_rules_seconds c_town_sights_firsts c_town_sights_seconds c_firstImage_widths c_firstImage_keys c_firstImage_cells c_firstImage_delays c_firstImage_rows_rung c_firstImage_rows_rowOf c_firstImage_rows_placeOf c_firstImage_rules_count c_firstImage_rules_firsts c_firstImage_rules_seconds c_firstImage_sights_count c_firstImage_sights_firsts c_firstImage_sights_seconds) (fun c_town_widths_35 c_town_keys_35 c_town_cells_35 c_town_delays_35 c_town_rows_rung_35 c_town_rows_rowOf_35 c_town_rows_placeOf_35 c_town_rules_count_35 c_town_rules_firsts_35 c_town_rules_seconds_35 c_town_sights_count_35 c_town_sights_firsts_35 c_town_sights_seconds_35 =>
  some (1, c_town_widths_35, c_town_keys_35, c_town_cells_35, c_town_delays_35, c_town_rows_rung_35, c_town_rows_rowOf_35, c_town_rows_placeOf_35, c_town_rules_count_35, c_town_rules_firsts_35, c_town_rules_seconds_35, c_town_sights_count_35, c_town_sights_firsts_35, c_town_sights_seconds_35))
  else bd13 (f_X8_takeFrom c_town_widths c_town_keys c_town_cells c_town_delays c_town_rows_rowOf c_town_rows_placeOf c_town_rules_firsts c_town_rules_seconds c_town_sights_firsts c_town_sights_seconds c_secondImage_widths c_secondImage_keys c_secondImage_cells c_secondImage_delays c_secondImage_rows_rung c_secondImage_rows_rowOf c_secondImage_rows_placeOf c_secondImage_rules_count c_secondImage_rules_firsts c_secondImage_rules_seconds c_secondImage_sights_count c_secondImage_sights_firsts c_secondImage_sights_seconds) (fun c_town_widths_35 c_town_keys_35 c_town_cells_35 c_town_delays_35 c_town_rows_rung_35 c_town_rows_rowOf_35 c_town_rows_placeOf_35 c_town_rules_count_35 c_town_rules_firsts_35 c_town_rules_seconds_35 c_town_sights_count_35 c_town_sights_firsts_35 c_town_sights_seconds_35 =>
  some (1, c_town_widths_35, c_town_keys_35, c_town_cells_35, c_town_delays_35, c_town_rows_rung_35, c_town_rows_rowOf_35, c_town_rows_placeOf_35, c_town_rules_count_35, c_town_rules_firsts_35, c_town_rules_seconds_35, c_town_sights_count_35, c_town_sights_firsts_35, c_town_sights_seconds_35))))))
noncomputable def f_X11_in (l0 : Int32) (l1 : Int32) (l2 : Int32) : Option (Int32) :=
  (if l0 < l1 then some 0
  else (if l2 < l0 then some 0
  else some 1))
noncomputable def f_X11_bits_b4 (l0 : Int32) (l1_4 : Int32) (l2_4 : Int32) : Option ((Int32 × Int32) ⊕ (Int32 × Int32)) :=
  (if 10 ≤ l2_4 then some (.inr (l1_4, l2_4))
  else some (.inl ((l1_4 + ((l0 >>> (l2_4 &&& 31)) &&& 1)), (l2_4 + 1))))
noncomputable def f_X11_bits (l0 : Int32) : Option (Int32) :=
  bd2 (loopN (fun (q : Int32 × Int32) => f_X11_bits_b4 l0 q.1 q.2) FU (0, 0)) (fun l1_4x l2_4x =>
  some l1_4x)
noncomputable def f_X11_isMember (l0 : Int32) : Option (Int32) :=
  bd1 (f_X11_in l0 0 9) (fun r_4 =>
  gb r_4 (some r_4))
noncomputable def f_X11_isRow_j9 : Option (Int32) :=
  some 1
noncomputable def f_X11_isRow (l0 : Int32) : Option (Int32) :=
  (if l0 = 0 then f_X11_isRow_j9
  else (if l0 = 1 then f_X11_isRow_j9
  else some 0))
noncomputable def f_X11_member (c_width : Nat → Int32) (c_key : Nat → Int32) (l1 : Int32) (l2 : Int32) (l3 : Int32) : Option (Int32 × (Nat → Int32) × (Nat → Int32)) :=
  bd1 (f_X11_isMember l1) (fun r_1 =>
  (if r_1 = 0 then some ((-1), c_width, c_key)
  else bd1 (f_X11_in l2 1 15) (fun r_13 =>
  (if r_13 = 0 then some ((-2), c_width, c_key)
  else bd1 (f_X11_in l3 0 12) (fun r_23 =>
  (if r_23 = 0 then some ((-2), c_width, c_key)
  else gd l1 10 (gd l1 10 (gd l1 10 (some ((c_width (Int32.toNatClampNeg l1)), (upd c_width (Int32.toNatClampNeg l1) l2), (upd c_key (Int32.toNatClampNeg l1) l3)))))))))))
noncomputable def f_X11_wide (c_wide : Nat → Int32) (l1 : Int32) (l2 : Int32) : Option (Int32 × (Nat → Int32)) :=
  bd1 (f_X11_in l1 0 16) (fun r_4 =>
  (if r_4 = 0 then some ((-1), c_wide)
  else bd1 (f_X11_in l2 1 30) (fun r_16 =>
  (if r_16 = 0 then some ((-2), c_wide)
  else gd l1 17 (gd l1 17 (some ((c_wide (Int32.toNatClampNeg l1)), (upd c_wide (Int32.toNatClampNeg l1) l2))))))))
noncomputable def f_X11_delay (c_delay : Nat → Int32) (l1 : Int32) (l2 : Int32) : Option (Int32 × (Nat → Int32)) :=
  bd1 (f_X11_isRow l1) (fun r_1 =>
  (if r_1 = 0 then some ((-2), c_delay)
  else bd1 (f_X11_in l2 0 20) (fun r_11 =>
  (if r_11 = 0 then some ((-2), c_delay)
  else gd l1 2 (gd l1 2 (some ((c_delay (Int32.toNatClampNeg l1)), (upd c_delay (Int32.toNatClampNeg l1) l2))))))))
noncomputable def f_X11_say (c_signs : Int32) (c_pad : Nat → Int32) (l1 : Int32) : Option (Int32 × Int32 × (Nat → Int32)) :=
  bd1 (f_X11_in l1 33 126) (fun r_5 =>
  (if r_5 = 0 then some ((-2), c_signs, c_pad)
  else (if c_signs = 60 then some ((-4), c_signs, c_pad)
  else gd c_signs 60 (some ((c_signs + 1), (c_signs + 1), (upd c_pad (Int32.toNatClampNeg c_signs) l1))))))
noncomputable def f_X11_wipe (c_signs : Int32) : Option (Int32 × Int32) :=
  some (c_signs, 0)
noncomputable def f_X11_isLetter (l0 : Int32) : Option (Int32) :=
  bd1 (f_X11_in l0 65 74) (fun r_5 =>
  gb r_5 (some r_5))
noncomputable def f_X11_faultOf_j128 (l2_128j : Int32) (s0_128j : Int32) : Option ((Int32 × Int32) ⊕ ((Int32 × Int32) ⊕ (Int32))) :=
  some (.inl (s0_128j, (l2_128j + 1)))
noncomputable def f_X11_faultOf_j127 (l2_127j : Int32) : Option ((Int32 × Int32) ⊕ ((Int32 × Int32) ⊕ (Int32))) :=
  f_X11_faultOf_j128 l2_127j 0
noncomputable def f_X11_faultOf_j85 (l1_85j : Int32) (l2_85j : Int32) (l3_85j : Int32) (s0_85j : Int32) : Option ((Int32 × Int32) ⊕ ((Int32 × Int32) ⊕ (Int32))) :=
  (if s0_85j = 0 then some (.inr (.inr l2_85j))
  else (if l1_85j = 0 then (if l3_85j = 33 then f_X11_faultOf_j128 l2_85j 0
  else f_X11_faultOf_j128 l2_85j 1)
  else (if l1_85j = 1 then (if l3_85j = 120 then f_X11_faultOf_j128 l2_85j 2
  else f_X11_faultOf_j127 l2_85j)
  else f_X11_faultOf_j127 l2_85j)))
noncomputable def f_X11_faultOf_j80 (l1_80j : Int32) (l2_80j : Int32) (l3_80j : Int32) : Option ((Int32 × Int32) ⊕ ((Int32 × Int32) ⊕ (Int32))) :=
  f_X11_faultOf_j85 l1_80j l2_80j l3_80j 1
noncomputable def f_X11_faultOf_j36 (l1_36j : Int32) (l2_36j : Int32) (l3_36j : Int32) : Option ((Int32 × Int32) ⊕ ((Int32 × Int32) ⊕ (Int32))) :=
  f_X11_faultOf_j85 l1_36j l2_36j l3_36j 1
noncomputable def f_X11_faultOf_b4 (c_signs : Int32) (c_pad : Nat → Int32) (l1_4 : Int32) (l2_4 : Int32) : Option ((Int32 × Int32) ⊕ ((Int32 × Int32) ⊕ (Int32))) :=
  (if c_signs ≤ l2_4 then some (.inr (.inl (l1_4, l2_4)))
  else gd l2_4 60 ((if l1_4 = 0 then bd1 (f_X11_isLetter (c_pad (Int32.toNatClampNeg l2_4))) (fun r_24 =>
  (if r_24 = 0 then (if (c_pad (Int32.toNatClampNeg l2_4)) = 33 then f_X11_faultOf_j36 l1_4 l2_4 (c_pad (Int32.toNatClampNeg l2_4))
  else f_X11_faultOf_j85 l1_4 l2_4 (c_pad (Int32.toNatClampNeg l2_4)) 0)
  else f_X11_faultOf_j36 l1_4 l2_4 (c_pad (Int32.toNatClampNeg l2_4))))
  else (if l1_4 = 2 then bd1 (f_X11_isLetter (c_pad (Int32.toNatClampNeg l2_4))) (fun r_50 =>
  f_X11_faultOf_j85 l1_4 l2_4 (c_pad (Int32.toNatClampNeg l2_4)) r_50)
  else (if (c_pad (Int32.toNatClampNeg l2_4)) = 100 then f_X11_faultOf_j80 l1_4 l2_4 (c_pad (Int32.toNatClampNeg l2_4))
  else (if (c_pad (Int32.toNatClampNeg l2_4)) = 117 then f_X11_faultOf_j80 l1_4 l2_4 (c_pad (Int32.toNatClampNeg l2_4))
  else (if (c_pad (Int32.toNatClampNeg l2_4)) = 45 then f_X11_faultOf_j80 l1_4 l2_4 (c_pad (Int32.toNatClampNeg l2_4))
  else (if (c_pad (Int32.toNatClampNeg l2_4)) = 120 then f_X11_faultOf_j80 l1_4 l2_4 (c_pad (Int32.toNatClampNeg l2_4))
  else f_X11_faultOf_j85 l1_4 l2_4 (c_pad (Int32.toNatClampNeg l2_4)) 0))))))))
noncomputable def f_X11_faultOf (c_signs : Int32) (c_pad : Nat → Int32) : Option (Int32) :=
  bdr (loopN (fun (q : Int32 × Int32) => f_X11_faultOf_b4 c_signs c_pad q.1 q.2) FU (0, 0)) (fun v => v) (fun (q_4 : Int32 × Int32) =>
  (if q_4.1 = 0 then some (-6)
  else some c_signs))
noncomputable def f_X11_fault (c_signs : Int32) (c_pad : Nat → Int32) : Option (Int32) :=
  bd1 (f_X11_faultOf c_signs c_pad) (fun r_1 =>
  some r_1)
noncomputable def f_X11_asNow_b2 (c_book : Nat → Int32) (l1_2 : Int32) (c_now_2 : Nat → Int32) : Option ((Int32 × (Nat → Int32)) ⊕ (Int32 × (Nat → Int32))) :=
  (if 15 ≤ l1_2 then some (.inr (l1_2, c_now_2))
  else gd l1_2 15 (gd l1_2 15 (some (.inl ((l1_2 + 1), (upd c_now_2 (Int32.toNatClampNeg l1_2) (c_book (Int32.toNatClampNeg l1_2))))))))
noncomputable def f_X11_asNow (c_book : Nat → Int32) (c_now : Nat → Int32) : Option ((Nat → Int32)) :=
  bd2 (loopN (fun (q : Int32 × (Nat → Int32)) => f_X11_asNow_b2 c_book q.1 q.2) FU (0, c_now)) (fun l1_2x c_now_2x =>
  some c_now_2x)
noncomputable def f_X11_spotOf_b9 (c_now : Nat → Int32) (l1 : Int32) (l2_2 : Int32) (l3_9 : Int32) : Option ((Int32) ⊕ ((Int32) ⊕ (Int32))) :=
  gd (12 + l2_2) 15 ((if (c_now (Int32.toNatClampNeg (12 + l2_2))) ≤ l3_9 then some (.inr (.inl l3_9))
  else gd ((6 * l2_2) + l3_9) 15 ((if (c_now (Int32.toNatClampNeg ((6 * l2_2) + l3_9))) = l1 then some (.inr (.inr ((6 * l2_2) + l3_9)))
  else some (.inl (l3_9 + 1))))))
noncomputable def f_X11_spotOf_b2 (c_now : Nat → Int32) (l1 : Int32) (l2_2 : Int32) : Option ((Int32) ⊕ ((Int32) ⊕ (Int32))) :=
  (if 2 ≤ l2_2 then some (.inr (.inl l2_2))
  else bdr (loopN (fun (q : Int32) => f_X11_spotOf_b9 c_now l1 l2_2 q) FU 0) (fun v => .inr (.inr v)) (fun (q_9 : Int32) =>
  some (.inl (l2_2 + 1))))
noncomputable def f_X11_spotOf (c_now : Nat → Int32) (l1 : Int32) : Option (Int32) :=
  bdr (loopN (fun (q : Int32) => f_X11_spotOf_b2 c_now l1 q) FU 0) (fun v => v) (fun (q_2 : Int32) =>
  some (-6))
noncomputable def f_X11_join (c_now : Nat → Int32) (l1 : Int32) (l2 : Int32) : Option (Int32 × (Nat → Int32)) :=
  bd1 (f_X11_spotOf c_now l1) (fun r_2 =>
  (if r_2 < 0 then gd (12 + l2) 15 ((if (c_now (Int32.toNatClampNeg (12 + l2))) = 6 then some (2, c_now)
  else gd (12 + l2) 15 (gd ((6 * l2) + (c_now (Int32.toNatClampNeg (12 + l2)))) 15 (gd (12 + l2) 15 (gd (12 + l2) 15 (some (0, (upd (upd c_now (Int32.toNatClampNeg ((6 * l2) + (c_now (Int32.toNatClampNeg (12 + l2))))) l1) (Int32.toNatClampNeg (12 + l2)) (((upd c_now (Int32.toNatClampNeg ((6 * l2) + (c_now (Int32.toNatClampNeg (12 + l2))))) l1) (Int32.toNatClampNeg (12 + l2))) + 1)))))))))
  else some (1, c_now)))
noncomputable def f_X11_goHome_b36 (l4_36 : Int32) (c_now_36 : Nat → Int32) (l3_36 : Int32) : Option ((Int32 × (Nat → Int32)) ⊕ (Int32 × (Nat → Int32))) :=
  gd (12 + l3_36) 15 ((if (c_now_36 (Int32.toNatClampNeg (12 + l3_36))) ≤ l4_36 then some (.inr (l4_36, c_now_36))
  else gd (((6 * l3_36) + l4_36) + 1) 15 (gd ((6 * l3_36) + l4_36) 15 (some (.inl ((l4_36 + 1), (upd c_now_36 (Int32.toNatClampNeg ((6 * l3_36) + l4_36)) (c_now_36 (Int32.toNatClampNeg (((6 * l3_36) + l4_36) + 1))))))))))
noncomputable def f_X11_goHome (c_now : Nat → Int32) (l1 : Int32) : Option (Int32 × (Nat → Int32)) :=
  bd1 (f_X11_spotOf c_now l1) (fun r_2 =>
  (if 0 ≤ r_2 then gd (12 + (r_2 / 6)) 15 (gd (12 + (r_2 / 6)) 15 (bd2 (loopN (fun (q : Int32 × (Nat → Int32)) => f_X11_goHome_b36 q.1 q.2 (r_2 / 6)) FU ((r_2 - (r_2 / 6) * 6), (upd c_now (Int32.toNatClampNeg (12 + (r_2 / 6))) ((c_now (Int32.toNatClampNeg (12 + (r_2 / 6)))) - 1)))) (fun l4_36x c_now_36x =>
  some (0, c_now_36x))))
  else some (1, c_now)))
noncomputable def f_X11_change (c_now : Nat → Int32) (l1 : Int32) (l2 : Int32) : Option (Int32 × (Nat → Int32)) :=
  bd1 (f_X11_spotOf c_now l1) (fun r_2 =>
  bd1 (f_X11_spotOf c_now l2) (fun r_8 =>
  (if r_2 < 0 then some (1, c_now)
  else (if 0 ≤ r_8 then (if l1 = l2 then some (3, c_now)
  else gd r_2 15 (gd r_8 15 (some (0, (upd (upd c_now (Int32.toNatClampNeg r_2) l2) (Int32.toNatClampNeg r_8) l1)))))
  else some (1, c_now)))))
noncomputable def f_X11_ring (c_now : Nat → Int32) : Option (Int32 × (Nat → Int32)) :=
  gd 14 15 ((if (c_now (Int32.toNatClampNeg 14)) = 99 then some (4, c_now)
  else gd 14 15 (gd 14 15 (some (0, (upd c_now (Int32.toNatClampNeg 14) ((c_now (Int32.toNatClampNeg 14)) + 1)))))))
noncomputable def f_X11_goDays_j132 (l1_132j : Int32) (c_reason_132j : Int32) (c_acts_132j : Int32) (c_now_132j : Nat → Int32) : Option ((Int32 × Int32 × Int32 × (Nat → Int32)) ⊕ ((Int32 × Int32 × Int32 × (Nat → Int32)) ⊕ (Int32 × Int32 × Int32 × (Nat → Int32)))) :=
  (if c_reason_132j ≤ 0 then some (.inl (l1_132j, c_reason_132j, (c_acts_132j + 1), c_now_132j))
  else some (.inr (.inr (c_acts_132j, c_reason_132j, c_acts_132j, c_now_132j))))
noncomputable def f_X11_goDays_j126 (l1_126j : Int32) (c_acts_126j : Int32) (c_now_126j : Nat → Int32) (s1_126j : Int32) : Option ((Int32 × Int32 × Int32 × (Nat → Int32)) ⊕ ((Int32 × Int32 × Int32 × (Nat → Int32)) ⊕ (Int32 × Int32 × Int32 × (Nat → Int32)))) :=
  f_X11_goDays_j132 (l1_126j + 2) s1_126j c_acts_126j c_now_126j
noncomputable def f_X11_goDays_j123 (l1_123j : Int32) (c_acts_123j : Int32) (c_now_123j : Nat → Int32) (s2_123j : Int32) (s3_123j : Int32) : Option ((Int32 × Int32 × Int32 × (Nat → Int32)) ⊕ ((Int32 × Int32 × Int32 × (Nat → Int32)) ⊕ (Int32 × Int32 × Int32 × (Nat → Int32)))) :=
  bd2 (f_X11_join c_now_123j s2_123j s3_123j) (fun r_123 c_now_123 =>
  f_X11_goDays_j126 l1_123j c_acts_123j c_now_123 r_123)
noncomputable def f_X11_goDays_b11 (c_signs : Int32) (c_pad : Nat → Int32) (l1_11 : Int32) (c_reason_11 : Int32) (c_acts_11 : Int32) (c_now_11 : Nat → Int32) : Option ((Int32 × Int32 × Int32 × (Nat → Int32)) ⊕ ((Int32 × Int32 × Int32 × (Nat → Int32)) ⊕ (Int32 × Int32 × Int32 × (Nat → Int32)))) :=
  (if c_signs ≤ l1_11 then some (.inr (.inl (l1_11, c_reason_11, c_acts_11, c_now_11)))
  else gd l1_11 60 ((if (c_pad (Int32.toNatClampNeg l1_11)) = 33 then bd2 (f_X11_ring c_now_11) (fun r_32 c_now_32 =>
  f_X11_goDays_j132 (l1_11 + 1) r_32 c_acts_11 c_now_32)
  else gd l1_11 60 (nmv ((c_pad (Int32.toNatClampNeg l1_11)) - 65) (fun l2_53s =>
  gd (l1_11 + 1) 60 (nmv (c_pad (Int32.toNatClampNeg (l1_11 + 1))) (fun l3_62s =>
  (if l3_62s = 120 then gd (l1_11 + 2) 60 (bd2 (f_X11_change c_now_11 l2_53s ((c_pad (Int32.toNatClampNeg (l1_11 + 2))) - 65)) (fun r_83 c_now_83 =>
  f_X11_goDays_j132 (l1_11 + 3) r_83 c_acts_11 c_now_83))
  else (if l3_62s = 45 then bd2 (f_X11_goHome c_now_11 l2_53s) (fun r_104 c_now_104 =>
  f_X11_goDays_j126 l1_11 c_acts_11 c_now_104 r_104)
  else (if l3_62s = 100 then f_X11_goDays_j123 l1_11 c_acts_11 c_now_11 l2_53s 0
  else f_X11_goDays_j123 l1_11 c_acts_11 c_now_11 l2_53s 1))))))))))
noncomputable def f_X11_goDays (c_signs : Int32) (c_reason : Int32) (c_book : Nat → Int32) (c_now : Nat → Int32) (c_pad : Nat → Int32) : Option (Int32 × Int32 × Int32 × (Nat → Int32)) :=
  bd1 (f_X11_asNow c_book c_now) (fun c_now_1 =>
  bdr (loopN (fun (q : Int32 × Int32 × Int32 × (Nat → Int32)) => f_X11_goDays_b11 c_signs c_pad q.1 q.2.1 q.2.2.1 q.2.2.2) FU (0, c_reason, 0, c_now_1)) (fun v => v) (fun (q_11 : Int32 × Int32 × Int32 × (Nat → Int32)) =>
  some ((-6), q_11.2.1, q_11.2.2.1, q_11.2.2.2)))
noncomputable def f_X11_judge_j35 (l2_35j : Int32) (c_reason_35j : Int32) (c_acts_35j : Int32) (c_now_35j : Nat → Int32) : Option (Int32 × Int32 × Int32 × (Nat → Int32)) :=
  some (l2_35j, c_reason_35j, c_acts_35j, c_now_35j)
noncomputable def f_X11_judge (c_signs : Int32) (c_reason : Int32) (c_acts : Int32) (c_book : Nat → Int32) (c_now : Nat → Int32) (c_pad : Nat → Int32) (l1 : Int32) : Option (Int32 × Int32 × Int32 × (Nat → Int32)) :=
  bd1 (f_X11_in l1 0 1) (fun r_3 =>
  (if r_3 = 0 then some ((-2), c_reason, c_acts, c_now)
  else bd1 (f_X11_faultOf c_signs c_pad) (fun r_13 =>
  (if r_13 < 0 then bd4 (f_X11_goDays c_signs c_reason c_book c_now c_pad) (fun r_23 c_reason_23 c_acts_23 c_now_23 =>
  (if r_23 < 0 then f_X11_judge_j35 r_23 c_reason_23 c_acts_23 c_now_23
  else (if l1 = 0 then f_X11_judge_j35 r_23 c_reason_23 c_acts_23 c_now_23
  else some (c_reason_23, c_reason_23, c_acts_23, c_now_23))))
  else some ((-5), c_reason, c_acts, c_now)))))
noncomputable def f_X11_barOfDays_j14 (c_reason_14j : Int32) (c_acts_14j : Int32) (c_now_14j : Nat → Int32) : Option (Int32 × Int32 × Int32 × (Nat → Int32)) :=
  some ((-5), c_reason_14j, c_acts_14j, c_now_14j)
noncomputable def f_X11_barOfDays (c_signs : Int32) (c_reason : Int32) (c_acts : Int32) (c_book : Nat → Int32) (c_now : Nat → Int32) (c_pad : Nat → Int32) : Option (Int32 × Int32 × Int32 × (Nat → Int32)) :=
  bd1 (f_X11_faultOf c_signs c_pad) (fun r_1 =>
  (if 0 ≤ r_1 then f_X11_barOfDays_j14 c_reason c_acts c_now
  else bd4 (f_X11_goDays c_signs c_reason c_book c_now c_pad) (fun r_8 c_reason_8 c_acts_8 c_now_8 =>
  (if r_8 < 0 then some (0, c_reason_8, c_acts_8, c_now_8)
  else f_X11_barOfDays_j14 c_reason_8 c_acts_8 c_now_8))))
noncomputable def f_X11_done_b12 (c_now_1 : Nat → Int32) (l1_12 : Int32) (c_book_12 : Nat → Int32) : Option ((Int32 × (Nat → Int32)) ⊕ (Int32 × (Nat → Int32))) :=
  (if 15 ≤ l1_12 then some (.inr (l1_12, c_book_12))
  else gd l1_12 15 (gd l1_12 15 (some (.inl ((l1_12 + 1), (upd c_book_12 (Int32.toNatClampNeg l1_12) (c_now_1 (Int32.toNatClampNeg l1_12))))))))
noncomputable def f_X11_done (c_signs : Int32) (c_reason : Int32) (c_acts : Int32) (c_book : Nat → Int32) (c_now : Nat → Int32) (c_pad : Nat → Int32) : Option (Int32 × Int32 × Int32 × Int32 × (Nat → Int32) × (Nat → Int32)) :=
  bd4 (f_X11_barOfDays c_signs c_reason c_acts c_book c_now c_pad) (fun r_1 c_reason_1 c_acts_1 c_now_1 =>
  (if 0 ≤ r_1 then bd2 (loopN (fun (q : Int32 × (Nat → Int32)) => f_X11_done_b12 c_now_1 q.1 q.2) FU (0, c_book)) (fun l1_12x c_book_12x =>
  some (c_acts_1, 0, c_reason_1, c_acts_1, c_book_12x, c_now_1))
  else some ((-5), c_signs, c_reason_1, c_acts_1, c_book, c_now_1)))
noncomputable def f_X11_place (c_signs : Int32) (c_reason : Int32) (c_acts : Int32) (c_book : Nat → Int32) (c_now : Nat → Int32) (c_pad : Nat → Int32) (l1 : Int32) (l2 : Int32) : Option (Int32 × Int32 × Int32 × (Nat → Int32)) :=
  bd1 (f_X11_isRow l1) (fun r_1 =>
  (if r_1 = 0 then some ((-2), c_reason, c_acts, c_now)
  else bd1 (f_X11_in l2 0 5) (fun r_10 =>
  (if r_10 = 0 then some ((-2), c_reason, c_acts, c_now)
  else bd4 (f_X11_barOfDays c_signs c_reason c_acts c_book c_now c_pad) (fun r_20 c_reason_20 c_acts_20 c_now_20 =>
  (if 0 ≤ r_20 then gd (12 + l1) 15 ((if (c_now_20 (Int32.toNatClampNeg (12 + l1))) ≤ l2 then some ((-6), c_reason_20, c_acts_20, c_now_20)
  else gd ((6 * l1) + l2) 15 (some ((c_now_20 (Int32.toNatClampNeg ((6 * l1) + l2))), c_reason_20, c_acts_20, c_now_20))))
  else some ((-5), c_reason_20, c_acts_20, c_now_20)))))))
noncomputable def f_X11_of (c_signs : Int32) (c_reason : Int32) (c_acts : Int32) (c_book : Nat → Int32) (c_now : Nat → Int32) (c_pad : Nat → Int32) (l1 : Int32) (l2 : Int32) : Option (Int32 × Int32 × Int32 × (Nat → Int32)) :=
  bd1 (f_X11_isMember l1) (fun r_1 =>
  (if r_1 = 0 then some ((-1), c_reason, c_acts, c_now)
  else bd1 (f_X11_in l2 0 1) (fun r_12 =>
  (if r_12 = 0 then some ((-2), c_reason, c_acts, c_now)
  else bd4 (f_X11_barOfDays c_signs c_reason c_acts c_book c_now c_pad) (fun r_22 c_reason_22 c_acts_22 c_now_22 =>
  (if 0 ≤ r_22 then bd1 (f_X11_spotOf c_now_22 l1) (fun r_33 =>
  (if l2 = 0 then (if 0 ≤ r_33 then some ((r_33 / 6), c_reason_22, c_acts_22, c_now_22)
  else some (2, c_reason_22, c_acts_22, c_now_22))
  else (if 0 ≤ r_33 then some ((r_33 - (r_33 / 6) * 6), c_reason_22, c_acts_22, c_now_22)
  else some ((-6), c_reason_22, c_acts_22, c_now_22))))
  else some ((-5), c_reason_22, c_acts_22, c_now_22)))))))
noncomputable def f_X11_bells (c_signs : Int32) (c_reason : Int32) (c_acts : Int32) (c_book : Nat → Int32) (c_now : Nat → Int32) (c_pad : Nat → Int32) : Option (Int32 × Int32 × Int32 × (Nat → Int32)) :=
  bd4 (f_X11_barOfDays c_signs c_reason c_acts c_book c_now c_pad) (fun r_1 c_reason_1 c_acts_1 c_now_1 =>
  (if 0 ≤ r_1 then gd 14 15 (some ((c_now_1 (Int32.toNatClampNeg 14)), c_reason_1, c_acts_1, c_now_1))
  else some ((-5), c_reason_1, c_acts_1, c_now_1)))
noncomputable def f_X11_widthOf (c_door : Int32) (c_wider : Int32) (c_wide : Nat → Int32) (l1 : Int32) : Option (Int32) :=
  gd l1 17 ((if l1 = c_door then some ((c_wide (Int32.toNatClampNeg l1)) + c_wider)
  else some ((c_wide (Int32.toNatClampNeg l1)) + 0)))
noncomputable def f_X11_spot (c_delay : Nat → Int32) (l1 : Int32) (l2 : Int32) : Option (Int32) :=
  gd 1 2 (gd 0 2 (some ((((16 + (c_delay (Int32.toNatClampNeg 1))) + l2) - (c_delay (Int32.toNatClampNeg 0))) - l1)))
noncomputable def f_X11_doClear (c_door : Int32) (c_wider : Int32) (c_now : Nat → Int32) (c_width : Nat → Int32) (c_wide : Nat → Int32) (c_delay : Nat → Int32) (l1 : Int32) (l2 : Int32) : Option (Int32) :=
  bd1 (f_X11_spot c_delay l1 l2) (fun r_3 =>
  gd l1 15 (gd (c_now (Int32.toNatClampNeg l1)) 10 (gd (6 + l2) 15 (gd (c_now (Int32.toNatClampNeg (6 + l2))) 10 (nmv ((c_width (Int32.toNatClampNeg (c_now (Int32.toNatClampNeg l1)))) + (c_width (Int32.toNatClampNeg (c_now (Int32.toNatClampNeg (6 + l2)))))) (fun l4_33s =>
  bd1 (f_X11_widthOf c_door c_wider c_wide (r_3 / 2)) (fun r_39 =>
  (if r_39 < l4_33s then some 0
  else bd1 (f_X11_widthOf c_door c_wider c_wide ((r_3 + 1) / 2)) (fun r_53 =>
  (if r_53 < l4_33s then some 0
  else some 1))))))))))
noncomputable def f_X11_layMeetings_j156 (l2_156j : Int32) (c_meetings_156j : Int32) (c_clashes_156j : Int32) (c_first_156j : Int32) (s1_156j : Int32) : Option ((Int32 × Int32 × Int32 × Int32 × Int32) ⊕ (Int32 × Int32 × Int32 × Int32 × Int32)) :=
  some (.inl ((l2_156j + 1), c_meetings_156j, (c_clashes_156j + 1), c_first_156j, s1_156j))
noncomputable def f_X11_layMeetings_j132 (c_delay : Nat → Int32) (l2_132j : Int32) (l3_132j : Int32) (c_meetings_132j : Int32) (c_clashes_132j : Int32) (c_where_132j : Int32) (s1_132j : Int32) : Option ((Int32 × Int32 × Int32 × Int32 × Int32) ⊕ (Int32 × Int32 × Int32 × Int32 × Int32)) :=
  (if c_clashes_132j = 0 then bd1 (f_X11_spot c_delay l2_132j l3_132j) (fun r_146 =>
  f_X11_layMeetings_j156 l2_132j c_meetings_132j c_clashes_132j s1_132j r_146)
  else f_X11_layMeetings_j156 l2_132j c_meetings_132j c_clashes_132j s1_132j c_where_132j)
noncomputable def f_X11_layMeetings_b32 (c_door : Int32) (c_wider : Int32) (c_now : Nat → Int32) (c_width : Nat → Int32) (c_wide : Nat → Int32) (c_delay : Nat → Int32) (l1_24 : Int32) (l2_32 : Int32) (c_meetings_32 : Int32) (c_clashes_32 : Int32) (c_first_32 : Int32) (c_where_32 : Int32) : Option ((Int32 × Int32 × Int32 × Int32 × Int32) ⊕ (Int32 × Int32 × Int32 × Int32 × Int32)) :=
  gd 12 15 ((if (c_now (Int32.toNatClampNeg 12)) ≤ l2_32 then some (.inr (l2_32, c_meetings_32, c_clashes_32, c_first_32, c_where_32))
  else gd 13 15 (bd1 (f_X11_in (l1_24 - l2_32) 0 ((c_now (Int32.toNatClampNeg 13)) - 1)) (fun r_58 =>
  (if r_58 = 0 then some (.inl ((l2_32 + 1), c_meetings_32, c_clashes_32, c_first_32, c_where_32))
  else bd1 (f_X11_spot c_delay l2_32 (l1_24 - l2_32)) (fun r_67 =>
  bd1 (f_X11_in r_67 0 32) (fun r_73 =>
  (if r_73 = 0 then some (.inl ((l2_32 + 1), c_meetings_32, c_clashes_32, c_first_32, c_where_32))
  else bd1 (f_X11_doClear c_door c_wider c_now c_width c_wide c_delay l2_32 (l1_24 - l2_32)) (fun r_92 =>
  (if r_92 = 0 then (if c_clashes_32 = 0 then gd l2_32 15 (gd (6 + (l1_24 - l2_32)) 15 (f_X11_layMeetings_j132 c_delay l2_32 (l1_24 - l2_32) (c_meetings_32 + 1) c_clashes_32 c_where_32 ((10 * (c_now (Int32.toNatClampNeg l2_32))) + (c_now (Int32.toNatClampNeg (6 + (l1_24 - l2_32)))))))
  else f_X11_layMeetings_j132 c_delay l2_32 (l1_24 - l2_32) (c_meetings_32 + 1) c_clashes_32 c_where_32 c_first_32)
  else some (.inl ((l2_32 + 1), (c_meetings_32 + 1), c_clashes_32, c_first_32, c_where_32))))))))))))
noncomputable def f_X11_layMeetings_b24 (c_door : Int32) (c_wider : Int32) (c_now : Nat → Int32) (c_width : Nat → Int32) (c_wide : Nat → Int32) (c_delay : Nat → Int32) (l1_24 : Int32) (c_meetings_24 : Int32) (c_clashes_24 : Int32) (c_first_24 : Int32) (c_where_24 : Int32) : Option ((Int32 × Int32 × Int32 × Int32 × Int32) ⊕ (Int32 × Int32 × Int32 × Int32 × Int32)) :=
  (if 11 ≤ l1_24 then some (.inr (l1_24, c_meetings_24, c_clashes_24, c_first_24, c_where_24))
  else bd5 (loopN (fun (q : Int32 × Int32 × Int32 × Int32 × Int32) => f_X11_layMeetings_b32 c_door c_wider c_now c_width c_wide c_delay l1_24 q.1 q.2.1 q.2.2.1 q.2.2.2.1 q.2.2.2.2) FU (0, c_meetings_24, c_clashes_24, c_first_24, c_where_24)) (fun l2_32x c_meetings_32x c_clashes_32x c_first_32x c_where_32x =>
  some (.inl ((l1_24 + 1), c_meetings_32x, c_clashes_32x, c_first_32x, c_where_32x))))
noncomputable def f_X11_layMeetings (c_door : Int32) (c_wider : Int32) (c_now : Nat → Int32) (c_width : Nat → Int32) (c_wide : Nat → Int32) (c_delay : Nat → Int32) : Option (Int32 × Int32 × Int32 × Int32) :=
  bd5 (loopN (fun (q : Int32 × Int32 × Int32 × Int32 × Int32) => f_X11_layMeetings_b24 c_door c_wider c_now c_width c_wide c_delay q.1 q.2.1 q.2.2.1 q.2.2.2.1 q.2.2.2.2) FU (0, 0, 0, (-6), (-6))) (fun l1_24x c_meetings_24x c_clashes_24x c_first_24x c_where_24x =>
  some (c_meetings_24x, c_clashes_24x, c_first_24x, c_where_24x))
noncomputable def f_X11_plain (c_book : Nat → Int32) (c_now : Nat → Int32) : Option (Int32 × Int32 × (Nat → Int32)) :=
  bd1 (f_X11_asNow c_book c_now) (fun c_now_1 =>
  some ((-6), 0, c_now_1))
noncomputable def f_X11_meets (c_meetings : Int32) (c_clashes : Int32) (c_first : Int32) (c_where : Int32) (c_door : Int32) (c_wider : Int32) (c_book : Nat → Int32) (c_now : Nat → Int32) (c_width : Nat → Int32) (c_wide : Nat → Int32) (c_delay : Nat → Int32) (l1 : Int32) : Option (Int32 × Int32 × Int32 × Int32 × Int32 × Int32 × Int32 × (Nat → Int32)) :=
  bd1 (f_X11_in l1 0 3) (fun r_3 =>
  (if r_3 = 0 then some ((-2), c_meetings, c_clashes, c_first, c_where, c_door, c_wider, c_now)
  else bd3 (f_X11_plain c_book c_now) (fun c_door_13 c_wider_13 c_now_13 =>
  bd4 (f_X11_layMeetings c_door_13 c_wider_13 c_now_13 c_width c_wide c_delay) (fun c_meetings_17 c_clashes_17 c_first_17 c_where_17 =>
  (if l1 = 0 then some (c_meetings_17, c_meetings_17, c_clashes_17, c_first_17, c_where_17, c_door_13, c_wider_13, c_now_13)
  else (if l1 = 1 then some (c_clashes_17, c_meetings_17, c_clashes_17, c_first_17, c_where_17, c_door_13, c_wider_13, c_now_13)
  else (if l1 = 2 then some (c_first_17, c_meetings_17, c_clashes_17, c_first_17, c_where_17, c_door_13, c_wider_13, c_now_13)
  else some (c_where_17, c_meetings_17, c_clashes_17, c_first_17, c_where_17, c_door_13, c_wider_13, c_now_13))))))))
noncomputable def f_X11_runs_j55 (l2_55j : Int32) (s0_55j : Int32) : Option ((Int32 × Int32) ⊕ (Int32 × Int32)) :=
  some (.inl (s0_55j, (l2_55j + 1)))
noncomputable def f_X11_runs_j44 (l1_44j : Int32) (l2_44j : Int32) (s0_44j : Int32) : Option ((Int32 × Int32) ⊕ (Int32 × Int32)) :=
  (if s0_44j ≤ l1_44j then f_X11_runs_j55 l2_44j l1_44j
  else f_X11_runs_j55 l2_44j s0_44j)
noncomputable def f_X11_runs_b4 (c_book : Nat → Int32) (c_delay : Nat → Int32) (l1_4 : Int32) (l2_4 : Int32) : Option ((Int32 × Int32) ⊕ (Int32 × Int32)) :=
  (if 2 ≤ l2_4 then some (.inr (l1_4, l2_4))
  else gd (12 + l2_4) 15 ((if (c_book (Int32.toNatClampNeg (12 + l2_4))) = 0 then f_X11_runs_j44 l1_4 l2_4 0
  else gd l2_4 2 (gd (12 + l2_4) 15 (f_X11_runs_j44 l1_4 l2_4 (((c_delay (Int32.toNatClampNeg l2_4)) + (c_book (Int32.toNatClampNeg (12 + l2_4)))) + 16))))))
noncomputable def f_X11_runs (c_book : Nat → Int32) (c_delay : Nat → Int32) : Option (Int32) :=
  bd2 (loopN (fun (q : Int32 × Int32) => f_X11_runs_b4 c_book c_delay q.1 q.2) FU (0, 0)) (fun l1_4x l2_4x =>
  some l1_4x)
noncomputable def f_X11_keepsRules_j80 (l3_80j : Int32) (s0_80j : Int32) : Option ((Int32 × Int32) ⊕ (Int32 × Int32)) :=
  some (.inl (s0_80j, (l3_80j + 1)))
noncomputable def f_X11_keepsRules_j79 (l3_79j : Int32) : Option ((Int32 × Int32) ⊕ (Int32 × Int32)) :=
  f_X11_keepsRules_j80 l3_79j 0
noncomputable def f_X11_keepsRules_j75 (l3_75j : Int32) : Option ((Int32 × Int32) ⊕ (Int32 × Int32)) :=
  f_X11_keepsRules_j80 l3_75j 1
noncomputable def f_X11_keepsRules_b4 (c_rules : Int32) (c_now : Nat → Int32) (c_ahead : Nat → Int32) (c_after : Nat → Int32) (l1 : Int32) (l2_4 : Int32) (l3_4 : Int32) : Option ((Int32 × Int32) ⊕ (Int32 × Int32)) :=
  (if c_rules ≤ l3_4 then some (.inr (l2_4, l3_4))
  else gd l3_4 10 (bd1 (f_X11_spotOf c_now (c_ahead (Int32.toNatClampNeg l3_4))) (fun r_19 =>
  gd l3_4 10 (bd1 (f_X11_spotOf c_now (c_after (Int32.toNatClampNeg l3_4))) (fun r_31 =>
  (if l2_4 = 0 then f_X11_keepsRules_j79 l3_4
  else (if r_19 < 0 then f_X11_keepsRules_j75 l3_4
  else (if r_31 < 0 then f_X11_keepsRules_j75 l3_4
  else (if (r_19 / 6) = l1 then (if (r_31 / 6) = l1 then (if r_31 < r_19 then f_X11_keepsRules_j79 l3_4
  else f_X11_keepsRules_j75 l3_4)
  else f_X11_keepsRules_j75 l3_4)
  else f_X11_keepsRules_j75 l3_4)))))))))
noncomputable def f_X11_keepsRules (c_rules : Int32) (c_now : Nat → Int32) (c_ahead : Nat → Int32) (c_after : Nat → Int32) (l1 : Int32) : Option (Int32) :=
  bd2 (loopN (fun (q : Int32 × Int32) => f_X11_keepsRules_b4 c_rules c_now c_ahead c_after l1 q.1 q.2) FU (1, 0)) (fun l2_4x l3_4x =>
  gb l2_4x (some l2_4x))
noncomputable def f_X11_layRow_j92 (l4_92j : Int32) (l5_92j : Int32) (l6_92j : Int32) (c_now_92j : Nat → Int32) (s1_92j : Int32) (s2_92j : Int32) : Option ((Int32 × Int32 × Int32 × (Nat → Int32)) ⊕ (Int32 × Int32 × Int32 × (Nat → Int32))) :=
  gd s1_92j 15 (some (.inl (l4_92j, l5_92j, (l6_92j + (-1)), (upd c_now_92j (Int32.toNatClampNeg s1_92j) s2_92j))))
noncomputable def f_X11_layRow_j56 (c_book : Nat → Int32) (l1 : Int32) (l3_21 : Int32) (l4_56j : Int32) (l6_56j : Int32) (l7_56j : Int32) (c_now_56j : Nat → Int32) (s0_56j : Int32) (s1_56j : Int32) : Option ((Int32 × Int32 × Int32 × (Nat → Int32)) ⊕ (Int32 × Int32 × Int32 × (Nat → Int32))) :=
  (if l3_21 ≤ l7_56j then f_X11_layRow_j92 l4_56j (s0_56j ||| s1_56j) l6_56j c_now_56j ((6 * l1) + l6_56j) 0
  else gd ((6 * l1) + l7_56j) 15 (f_X11_layRow_j92 l4_56j (s0_56j ||| s1_56j) l6_56j c_now_56j ((6 * l1) + l6_56j) (c_book (Int32.toNatClampNeg ((6 * l1) + l7_56j)))))
noncomputable def f_X11_layRow_b21 (c_book : Nat → Int32) (l1 : Int32) (l4_21 : Int32) (l5_21 : Int32) (l6_21 : Int32) (c_now_21 : Nat → Int32) (l3_21 : Int32) : Option ((Int32 × Int32 × Int32 × (Nat → Int32)) ⊕ (Int32 × Int32 × Int32 × (Nat → Int32))) :=
  (if l6_21 < 0 then some (.inr (l4_21, l5_21, l6_21, c_now_21))
  else (if l3_21 ≤ (l4_21 - (l4_21 / 6) * 6) then f_X11_layRow_j56 c_book l1 l3_21 (l4_21 / 6) l6_21 (l4_21 - (l4_21 / 6) * 6) c_now_21 l5_21 0
  else f_X11_layRow_j56 c_book l1 l3_21 (l4_21 / 6) l6_21 (l4_21 - (l4_21 / 6) * 6) c_now_21 l5_21 (1 <<< ((l4_21 - (l4_21 / 6) * 6) &&& 31))))
noncomputable def f_X11_layRow_b105 (l1 : Int32) (c_now_21x : Nat → Int32) (l6_105 : Int32) (l7_105 : Int32) (l3_105 : Int32) : Option ((Int32 × Int32) ⊕ (Int32 × Int32)) :=
  (if l3_105 ≤ l7_105 then some (.inr (l6_105, l7_105))
  else gd ((6 * l1) + l7_105) 15 (nmv ((10 * l6_105) + (c_now_21x (Int32.toNatClampNeg ((6 * l1) + l7_105)))) (fun l6_129s =>
  some (.inl (l6_129s, (l7_105 + 1))))))
noncomputable def f_X11_layRow (c_book : Nat → Int32) (c_now : Nat → Int32) (l1 : Int32) (l2 : Int32) : Option (Int32 × (Nat → Int32)) :=
  gd (12 + l1) 15 (nmv ((c_book (Int32.toNatClampNeg (12 + l1))) - 1) (fun l6_19s =>
  bd4 (loopN (fun (q : Int32 × Int32 × Int32 × (Nat → Int32)) => f_X11_layRow_b21 c_book l1 q.1 q.2.1 q.2.2.1 q.2.2.2 (c_book (Int32.toNatClampNeg (12 + l1)))) FU (l2, 0, l6_19s, c_now)) (fun l4_21x l5_21x l6_21x c_now_21x =>
  bd2 (loopN (fun (q : Int32 × Int32) => f_X11_layRow_b105 l1 c_now_21x q.1 q.2 (c_book (Int32.toNatClampNeg (12 + l1)))) FU (0, 0)) (fun l6_105x l7_105x =>
  bd1 (f_X11_bits l5_21x) (fun r_139 =>
  (if r_139 = (c_book (Int32.toNatClampNeg (12 + l1))) then some (l6_105x, c_now_21x)
  else some ((-6), c_now_21x)))))))
noncomputable def f_X11_layOrders_b30 (c_book : Nat → Int32) (l1 : Int32) (l2_30 : Int32) (l3_30 : Int32) : Option ((Int32 × Int32) ⊕ (Int32 × Int32)) :=
  gd (12 + l1) 15 ((if (c_book (Int32.toNatClampNeg (12 + l1))) ≤ l3_30 then some (.inr (l2_30, l3_30))
  else some (.inl ((l2_30 * 6), (l3_30 + 1)))))
noncomputable def f_X11_layOrders_j198 (l3_198j : Int32) (c_meetings_198j : Int32) (c_clashes_198j : Int32) (c_first_198j : Int32) (c_where_198j : Int32) (c_ordersFound_198j : Int32) (c_firstOrder_198j : Int32) (c_leastOrder_198j : Int32) (c_now_198j : Nat → Int32) (s1_198j : Int32) : Option ((Int32 × Int32 × Int32 × Int32 × Int32 × Int32 × Int32 × Int32 × Int32 × (Nat → Int32)) ⊕ (Int32 × Int32 × Int32 × Int32 × Int32 × Int32 × Int32 × Int32 × Int32 × (Nat → Int32))) :=
  some (.inl ((l3_198j + 1), c_meetings_198j, c_clashes_198j, c_first_198j, c_where_198j, c_ordersFound_198j, c_firstOrder_198j, s1_198j, c_leastOrder_198j, c_now_198j))
noncomputable def f_X11_layOrders_j178 (l3_178j : Int32) (l5_178j : Int32) (c_meetings_178j : Int32) (c_clashes_178j : Int32) (c_first_178j : Int32) (c_where_178j : Int32) (c_ordersFound_178j : Int32) (c_firstOrder_178j : Int32) (c_least_178j : Int32) (c_now_178j : Nat → Int32) (s1_178j : Int32) : Option ((Int32 × Int32 × Int32 × Int32 × Int32 × Int32 × Int32 × Int32 × Int32 × (Nat → Int32)) ⊕ (Int32 × Int32 × Int32 × Int32 × Int32 × Int32 × Int32 × Int32 × Int32 × (Nat → Int32))) :=
  (if l5_178j = 0 then f_X11_layOrders_j198 l3_178j c_meetings_178j c_clashes_178j c_first_178j c_where_178j c_ordersFound_178j c_firstOrder_178j s1_178j c_now_178j c_least_178j
  else f_X11_layOrders_j198 l3_178j c_meetings_178j c_clashes_178j c_first_178j c_where_178j c_ordersFound_178j c_firstOrder_178j s1_178j c_now_178j c_clashes_178j)
noncomputable def f_X11_layOrders_j161 (l3_161j : Int32) (l4_161j : Int32) (c_meetings_161j : Int32) (c_clashes_161j : Int32) (c_first_161j : Int32) (c_where_161j : Int32) (c_ordersFound_161j : Int32) (c_firstOrder_161j : Int32) (c_least_161j : Int32) (c_leastOrder_161j : Int32) (c_now_161j : Nat → Int32) (s0_161j : Int32) : Option ((Int32 × Int32 × Int32 × Int32 × Int32 × Int32 × Int32 × Int32 × Int32 × (Nat → Int32)) ⊕ (Int32 × Int32 × Int32 × Int32 × Int32 × Int32 × Int32 × Int32 × Int32 × (Nat → Int32))) :=
  (if s0_161j = 0 then f_X11_layOrders_j178 l3_161j s0_161j c_meetings_161j c_clashes_161j c_first_161j c_where_161j c_ordersFound_161j c_firstOrder_161j c_least_161j c_now_161j c_leastOrder_161j
  else f_X11_layOrders_j178 l3_161j s0_161j c_meetings_161j c_clashes_161j c_first_161j c_where_161j c_ordersFound_161j c_firstOrder_161j c_least_161j c_now_161j l4_161j)
noncomputable def f_X11_layOrders_j160 (l3_160j : Int32) (l4_160j : Int32) (c_meetings_160j : Int32) (c_clashes_160j : Int32) (c_first_160j : Int32) (c_where_160j : Int32) (c_ordersFound_160j : Int32) (c_firstOrder_160j : Int32) (c_least_160j : Int32) (c_leastOrder_160j : Int32) (c_now_160j : Nat → Int32) : Option ((Int32 × Int32 × Int32 × Int32 × Int32 × Int32 × Int32 × Int32 × Int32 × (Nat → Int32)) ⊕ (Int32 × Int32 × Int32 × Int32 × Int32 × Int32 × Int32 × Int32 × Int32 × (Nat → Int32))) :=
  f_X11_layOrders_j161 l3_160j l4_160j c_meetings_160j c_clashes_160j c_first_160j c_where_160j c_ordersFound_160j c_firstOrder_160j c_least_160j c_leastOrder_160j c_now_160j 0
noncomputable def f_X11_layOrders_j156 (l3_156j : Int32) (l4_156j : Int32) (c_meetings_156j : Int32) (c_clashes_156j : Int32) (c_first_156j : Int32) (c_where_156j : Int32) (c_ordersFound_156j : Int32) (c_firstOrder_156j : Int32) (c_least_156j : Int32) (c_leastOrder_156j : Int32) (c_now_156j : Nat → Int32) : Option ((Int32 × Int32 × Int32 × Int32 × Int32 × Int32 × Int32 × Int32 × Int32 × (Nat → Int32)) ⊕ (Int32 × Int32 × Int32 × Int32 × Int32 × Int32 × Int32 × Int32 × Int32 × (Nat → Int32))) :=
  f_X11_layOrders_j161 l3_156j l4_156j c_meetings_156j c_clashes_156j c_first_156j c_where_156j c_ordersFound_156j c_firstOrder_156j c_least_156j c_leastOrder_156j c_now_156j 1
noncomputable def f_X11_layOrders_j121 (c_width : Nat → Int32) (c_wide : Nat → Int32) (c_delay : Nat → Int32) (c_door_1 : Int32) (c_wider_1 : Int32) (l3_121j : Int32) (l4_121j : Int32) (c_ordersFound_121j : Int32) (c_firstOrder_121j : Int32) (c_least_121j : Int32) (c_leastOrder_121j : Int32) (c_now_121j : Nat → Int32) : Option ((Int32 × Int32 × Int32 × Int32 × Int32 × Int32 × Int32 × Int32 × Int32 × (Nat → Int32)) ⊕ (Int32 × Int32 × Int32 × Int32 × Int32 × Int32 × Int32 × Int32 × Int32 × (Nat → Int32))) :=
  bd4 (f_X11_layMeetings c_door_1 c_wider_1 c_now_121j c_width c_wide c_delay) (fun c_meetings_122 c_clashes_122 c_first_122 c_where_122 =>
  (if c_clashes_122 < c_least_121j then f_X11_layOrders_j156 l3_121j l4_121j c_meetings_122 c_clashes_122 c_first_122 c_where_122 c_ordersFound_121j c_firstOrder_121j c_least_121j c_leastOrder_121j c_now_121j
  else (if c_clashes_122 = c_least_121j then (if c_leastOrder_121j ≤ l4_121j then f_X11_layOrders_j160 l3_121j l4_121j c_meetings_122 c_clashes_122 c_first_122 c_where_122 c_ordersFound_121j c_firstOrder_121j c_least_121j c_leastOrder_121j c_now_121j
  else f_X11_layOrders_j156 l3_121j l4_121j c_meetings_122 c_clashes_122 c_first_122 c_where_122 c_ordersFound_121j c_firstOrder_121j c_least_121j c_leastOrder_121j c_now_121j)
  else f_X11_layOrders_j160 l3_121j l4_121j c_meetings_122 c_clashes_122 c_first_122 c_where_122 c_ordersFound_121j c_firstOrder_121j c_least_121j c_leastOrder_121j c_now_121j)))
noncomputable def f_X11_layOrders_j108 (c_width : Nat → Int32) (c_wide : Nat → Int32) (c_delay : Nat → Int32) (c_door_1 : Int32) (c_wider_1 : Int32) (l3_108j : Int32) (l4_108j : Int32) (c_ordersFound_108j : Int32) (c_least_108j : Int32) (c_leastOrder_108j : Int32) (c_now_108j : Nat → Int32) (s1_108j : Int32) : Option ((Int32 × Int32 × Int32 × Int32 × Int32 × Int32 × Int32 × Int32 × Int32 × (Nat → Int32)) ⊕ (Int32 × Int32 × Int32 × Int32 × Int32 × Int32 × Int32 × Int32 × Int32 × (Nat → Int32))) :=
  f_X11_layOrders_j121 c_width c_wide c_delay c_door_1 c_wider_1 l3_108j l4_108j (c_ordersFound_108j + 1) s1_108j c_least_108j c_leastOrder_108j c_now_108j
noncomputable def f_X11_layOrders_j99 (c_width : Nat → Int32) (c_wide : Nat → Int32) (c_delay : Nat → Int32) (c_door_1 : Int32) (c_wider_1 : Int32) (l3_99j : Int32) (l4_99j : Int32) (c_ordersFound_99j : Int32) (c_least_99j : Int32) (c_leastOrder_99j : Int32) (c_now_99j : Nat → Int32) : Option ((Int32 × Int32 × Int32 × Int32 × Int32 × Int32 × Int32 × Int32 × Int32 × (Nat → Int32)) ⊕ (Int32 × Int32 × Int32 × Int32 × Int32 × Int32 × Int32 × Int32 × Int32 × (Nat → Int32))) :=
  f_X11_layOrders_j108 c_width c_wide c_delay c_door_1 c_wider_1 l3_99j l4_99j c_ordersFound_99j c_least_99j c_leastOrder_99j c_now_99j l4_99j
noncomputable def f_X11_layOrders_b56 (c_rules : Int32) (c_book : Nat → Int32) (c_width : Nat → Int32) (c_wide : Nat → Int32) (c_delay : Nat → Int32) (c_ahead : Nat → Int32) (c_after : Nat → Int32) (l1 : Int32) (c_door_1 : Int32) (c_wider_1 : Int32) (l2_30x : Int32) (l3_56 : Int32) (c_meetings_56 : Int32) (c_clashes_56 : Int32) (c_first_56 : Int32) (c_where_56 : Int32) (c_ordersFound_56 : Int32) (c_firstOrder_56 : Int32) (c_least_56 : Int32) (c_leastOrder_56 : Int32) (c_now_56 : Nat → Int32) : Option ((Int32 × Int32 × Int32 × Int32 × Int32 × Int32 × Int32 × Int32 × Int32 × (Nat → Int32)) ⊕ (Int32 × Int32 × Int32 × Int32 × Int32 × Int32 × Int32 × Int32 × Int32 × (Nat → Int32))) :=
  (if l2_30x ≤ l3_56 then some (.inr (l3_56, c_meetings_56, c_clashes_56, c_first_56, c_where_56, c_ordersFound_56, c_firstOrder_56, c_least_56, c_leastOrder_56, c_now_56))
  else bd2 (f_X11_layRow c_book c_now_56 l1 l3_56) (fun r_64 c_now_64 =>
  (if r_64 < 0 then some (.inl ((l3_56 + 1), c_meetings_56, c_clashes_56, c_first_56, c_where_56, c_ordersFound_56, c_firstOrder_56, c_least_56, c_leastOrder_56, c_now_64))
  else bd1 (f_X11_keepsRules c_rules c_now_64 c_ahead c_after l1) (fun r_76 =>
  (if r_76 = 0 then f_X11_layOrders_j121 c_width c_wide c_delay c_door_1 c_wider_1 l3_56 r_64 c_ordersFound_56 c_firstOrder_56 c_least_56 c_leastOrder_56 c_now_64
  else (if c_ordersFound_56 = 0 then f_X11_layOrders_j99 c_width c_wide c_delay c_door_1 c_wider_1 l3_56 r_64 c_ordersFound_56 c_least_56 c_leastOrder_56 c_now_64
  else (if c_firstOrder_56 ≤ r_64 then f_X11_layOrders_j108 c_width c_wide c_delay c_door_1 c_wider_1 l3_56 r_64 c_ordersFound_56 c_least_56 c_leastOrder_56 c_now_64 c_firstOrder_56
  else f_X11_layOrders_j99 c_width c_wide c_delay c_door_1 c_wider_1 l3_56 r_64 c_ordersFound_56 c_least_56 c_leastOrder_56 c_now_64)))))))
noncomputable def f_X11_layOrders (c_rules : Int32) (c_meetings : Int32) (c_clashes : Int32) (c_first : Int32) (c_where : Int32) (c_book : Nat → Int32) (c_now : Nat → Int32) (c_width : Nat → Int32) (c_wide : Nat → Int32) (c_delay : Nat → Int32) (c_ahead : Nat → Int32) (c_after : Nat → Int32) (l1 : Int32) : Option (Int32 × Int32 × Int32 × Int32 × Int32 × Int32 × Int32 × Int32 × Int32 × Int32 × (Nat → Int32)) :=
  bd3 (f_X11_plain c_book c_now) (fun c_door_1 c_wider_1 c_now_1 =>
  bd2 (loopN (fun (q : Int32 × Int32) => f_X11_layOrders_b30 c_book l1 q.1 q.2) FU (1, 0)) (fun l2_30x l3_30x =>
  bd10 (loopN (fun (q : Int32 × Int32 × Int32 × Int32 × Int32 × Int32 × Int32 × Int32 × Int32 × (Nat → Int32)) => f_X11_layOrders_b56 c_rules c_book c_width c_wide c_delay c_ahead c_after l1 c_door_1 c_wider_1 l2_30x q.1 q.2.1 q.2.2.1 q.2.2.2.1 q.2.2.2.2.1 q.2.2.2.2.2.1 q.2.2.2.2.2.2.1 q.2.2.2.2.2.2.2.1 q.2.2.2.2.2.2.2.2.1 q.2.2.2.2.2.2.2.2.2) FU (0, c_meetings, c_clashes, c_first, c_where, 0, (-6), 1000000, 0, c_now_1)) (fun l3_56x c_meetings_56x c_clashes_56x c_first_56x c_where_56x c_ordersFound_56x c_firstOrder_56x c_least_56x c_leastOrder_56x c_now_56x =>
  some (c_meetings_56x, c_clashes_56x, c_first_56x, c_where_56x, c_door_1, c_wider_1, c_ordersFound_56x, c_firstOrder_56x, c_least_56x, c_leastOrder_56x, c_now_56x))))
noncomputable def f_X11_order (c_rules : Int32) (c_meetings : Int32) (c_clashes : Int32) (c_first : Int32) (c_where : Int32) (c_door : Int32) (c_wider : Int32) (c_ordersFound : Int32) (c_firstOrder : Int32) (c_least : Int32) (c_leastOrder : Int32) (c_book : Nat → Int32) (c_now : Nat → Int32) (c_width : Nat → Int32) (c_wide : Nat → Int32) (c_delay : Nat → Int32) (c_ahead : Nat → Int32) (c_after : Nat → Int32) (l1 : Int32) (l2 : Int32) : Option (Int32 × Int32 × Int32 × Int32 × Int32 × Int32 × Int32 × Int32 × Int32 × Int32 × Int32 × (Nat → Int32)) :=
  bd1 (f_X11_isRow l1) (fun r_1 =>
  (if r_1 = 0 then some ((-2), c_meetings, c_clashes, c_first, c_where, c_door, c_wider, c_ordersFound, c_firstOrder, c_least, c_leastOrder, c_now)
  else bd1 (f_X11_in l2 0 1) (fun r_10 =>
  (if r_10 = 0 then some ((-2), c_meetings, c_clashes, c_first, c_where, c_door, c_wider, c_ordersFound, c_firstOrder, c_least, c_leastOrder, c_now)
  else bd11 (f_X11_layOrders c_rules c_meetings c_clashes c_first c_where c_book c_now c_width c_wide c_delay c_ahead c_after l1) (fun c_meetings_21 c_clashes_21 c_first_21 c_where_21 c_door_21 c_wider_21 c_ordersFound_21 c_firstOrder_21 c_least_21 c_leastOrder_21 c_now_21 =>
  (if l2 = 0 then some (c_least_21, c_meetings_21, c_clashes_21, c_first_21, c_where_21, c_door_21, c_wider_21, c_ordersFound_21, c_firstOrder_21, c_least_21, c_leastOrder_21, c_now_21)
  else some (c_leastOrder_21, c_meetings_21, c_clashes_21, c_first_21, c_where_21, c_door_21, c_wider_21, c_ordersFound_21, c_firstOrder_21, c_least_21, c_leastOrder_21, c_now_21)))))))
noncomputable def f_X11_start_j85 (l3_85j : Int32) (l5_85j : Int32) (c_meetings_85j : Int32) (c_clashes_85j : Int32) (c_first_85j : Int32) (c_where_85j : Int32) (c_delay_85j : Nat → Int32) (s0_85j : Int32) : Option ((Int32 × Int32 × Int32 × Int32 × Int32 × Int32 × Int32 × (Nat → Int32)) ⊕ (Int32 × Int32 × Int32 × Int32 × Int32 × Int32 × Int32 × (Nat → Int32))) :=
  some (.inl (l3_85j, s0_85j, (l5_85j + 1), c_meetings_85j, c_clashes_85j, c_first_85j, c_where_85j, c_delay_85j))
noncomputable def f_X11_start_j66 (l4_66j : Int32) (l5_66j : Int32) (c_meetings_66j : Int32) (c_clashes_66j : Int32) (c_first_66j : Int32) (c_where_66j : Int32) (c_delay_66j : Nat → Int32) (s0_66j : Int32) : Option ((Int32 × Int32 × Int32 × Int32 × Int32 × Int32 × Int32 × (Nat → Int32)) ⊕ (Int32 × Int32 × Int32 × Int32 × Int32 × Int32 × Int32 × (Nat → Int32))) :=
  (if l4_66j ≤ c_clashes_66j then f_X11_start_j85 s0_66j l5_66j c_meetings_66j c_clashes_66j c_first_66j c_where_66j c_delay_66j l4_66j
  else f_X11_start_j85 s0_66j l5_66j c_meetings_66j c_clashes_66j c_first_66j c_where_66j c_delay_66j c_clashes_66j)
noncomputable def f_X11_start_b32 (c_width : Nat → Int32) (c_wide : Nat → Int32) (c_door_13 : Int32) (c_wider_13 : Int32) (c_now_13 : Nat → Int32) (l3_32 : Int32) (l4_32 : Int32) (l5_32 : Int32) (c_meetings_32 : Int32) (c_clashes_32 : Int32) (c_first_32 : Int32) (c_where_32 : Int32) (c_delay_32 : Nat → Int32) : Option ((Int32 × Int32 × Int32 × Int32 × Int32 × Int32 × Int32 × (Nat → Int32)) ⊕ (Int32 × Int32 × Int32 × Int32 × Int32 × Int32 × Int32 × (Nat → Int32))) :=
  (if 21 ≤ l5_32 then some (.inr (l3_32, l4_32, l5_32, c_meetings_32, c_clashes_32, c_first_32, c_where_32, c_delay_32))
  else gd 0 2 (bd4 (f_X11_layMeetings c_door_13 c_wider_13 c_now_13 c_width c_wide (upd c_delay_32 (Int32.toNatClampNeg 0) l5_32)) (fun c_meetings_48 c_clashes_48 c_first_48 c_where_48 =>
  (if l4_32 ≤ c_clashes_48 then f_X11_start_j66 l4_32 l5_32 c_meetings_48 c_clashes_48 c_first_48 c_where_48 (upd c_delay_32 (Int32.toNatClampNeg 0) l5_32) l3_32
  else f_X11_start_j66 l4_32 l5_32 c_meetings_48 c_clashes_48 c_first_48 c_where_48 (upd c_delay_32 (Int32.toNatClampNeg 0) l5_32) l5_32))))
noncomputable def f_X11_start (c_meetings : Int32) (c_clashes : Int32) (c_first : Int32) (c_where : Int32) (c_door : Int32) (c_wider : Int32) (c_book : Nat → Int32) (c_now : Nat → Int32) (c_width : Nat → Int32) (c_wide : Nat → Int32) (c_delay : Nat → Int32) (l1 : Int32) : Option (Int32 × Int32 × Int32 × Int32 × Int32 × Int32 × Int32 × (Nat → Int32) × (Nat → Int32)) :=
  bd1 (f_X11_in l1 0 1) (fun r_3 =>
  (if r_3 = 0 then some ((-2), c_meetings, c_clashes, c_first, c_where, c_door, c_wider, c_now, c_delay)
  else bd3 (f_X11_plain c_book c_now) (fun c_door_13 c_wider_13 c_now_13 =>
  gd 0 2 (bd8 (loopN (fun (q : Int32 × Int32 × Int32 × Int32 × Int32 × Int32 × Int32 × (Nat → Int32)) => f_X11_start_b32 c_width c_wide c_door_13 c_wider_13 c_now_13 q.1 q.2.1 q.2.2.1 q.2.2.2.1 q.2.2.2.2.1 q.2.2.2.2.2.1 q.2.2.2.2.2.2.1 q.2.2.2.2.2.2.2) FU (0, 1000000, 0, c_meetings, c_clashes, c_first, c_where, c_delay)) (fun l3_32x l4_32x l5_32x c_meetings_32x c_clashes_32x c_first_32x c_where_32x c_delay_32x =>
  gd 0 2 ((if l1 = 0 then some (l4_32x, c_meetings_32x, c_clashes_32x, c_first_32x, c_where_32x, c_door_13, c_wider_13, c_now_13, (upd c_delay_32x (Int32.toNatClampNeg 0) (c_delay (Int32.toNatClampNeg 0))))
  else some (l3_32x, c_meetings_32x, c_clashes_32x, c_first_32x, c_where_32x, c_door_13, c_wider_13, c_now_13, (upd c_delay_32x (Int32.toNatClampNeg 0) (c_delay (Int32.toNatClampNeg 0)))))))))))
noncomputable def f_X11_door_j91 (l3_91j : Int32) (l5_91j : Int32) (c_meetings_91j : Int32) (c_clashes_91j : Int32) (c_first_91j : Int32) (c_where_91j : Int32) (c_door_91j : Int32) (s0_91j : Int32) : Option ((Int32 × Int32 × Int32 × Int32 × Int32 × Int32 × Int32 × Int32) ⊕ (Int32 × Int32 × Int32 × Int32 × Int32 × Int32 × Int32 × Int32)) :=
  some (.inl (l3_91j, s0_91j, (l5_91j + 1), c_meetings_91j, c_clashes_91j, c_first_91j, c_where_91j, c_door_91j))
noncomputable def f_X11_door_j72 (l4_72j : Int32) (l5_72j : Int32) (c_meetings_72j : Int32) (c_clashes_72j : Int32) (c_first_72j : Int32) (c_where_72j : Int32) (c_door_72j : Int32) (s0_72j : Int32) : Option ((Int32 × Int32 × Int32 × Int32 × Int32 × Int32 × Int32 × Int32) ⊕ (Int32 × Int32 × Int32 × Int32 × Int32 × Int32 × Int32 × Int32)) :=
  (if l4_72j ≤ c_clashes_72j then f_X11_door_j91 s0_72j l5_72j c_meetings_72j c_clashes_72j c_first_72j c_where_72j c_door_72j l4_72j
  else f_X11_door_j91 s0_72j l5_72j c_meetings_72j c_clashes_72j c_first_72j c_where_72j c_door_72j c_clashes_72j)
noncomputable def f_X11_door_b40 (c_width : Nat → Int32) (c_wide : Nat → Int32) (c_delay : Nat → Int32) (l1 : Int32) (c_now_23 : Nat → Int32) (l3_40 : Int32) (l4_40 : Int32) (l5_40 : Int32) (c_meetings_40 : Int32) (c_clashes_40 : Int32) (c_first_40 : Int32) (c_where_40 : Int32) (c_door_40 : Int32) : Option ((Int32 × Int32 × Int32 × Int32 × Int32 × Int32 × Int32 × Int32) ⊕ (Int32 × Int32 × Int32 × Int32 × Int32 × Int32 × Int32 × Int32)) :=
  (if 17 ≤ l5_40 then some (.inr (l3_40, l4_40, l5_40, c_meetings_40, c_clashes_40, c_first_40, c_where_40, c_door_40))
  else bd4 (f_X11_layMeetings l5_40 l1 c_now_23 c_width c_wide c_delay) (fun c_meetings_54 c_clashes_54 c_first_54 c_where_54 =>
  (if l4_40 ≤ c_clashes_54 then f_X11_door_j72 l4_40 l5_40 c_meetings_54 c_clashes_54 c_first_54 c_where_54 l5_40 l3_40
  else f_X11_door_j72 l4_40 l5_40 c_meetings_54 c_clashes_54 c_first_54 c_where_54 l5_40 l5_40)))
noncomputable def f_X11_door (c_meetings : Int32) (c_clashes : Int32) (c_first : Int32) (c_where : Int32) (c_door : Int32) (c_wider : Int32) (c_book : Nat → Int32) (c_now : Nat → Int32) (c_width : Nat → Int32) (c_wide : Nat → Int32) (c_delay : Nat → Int32) (l1 : Int32) (l2 : Int32) : Option (Int32 × Int32 × Int32 × Int32 × Int32 × Int32 × Int32 × (Nat → Int32)) :=
  bd1 (f_X11_in l1 0 30) (fun r_4 =>
  (if r_4 = 0 then some ((-2), c_meetings, c_clashes, c_first, c_where, c_door, c_wider, c_now)
  else bd1 (f_X11_in l2 0 1) (fun r_13 =>
  (if r_13 = 0 then some ((-2), c_meetings, c_clashes, c_first, c_where, c_door, c_wider, c_now)
  else bd3 (f_X11_plain c_book c_now) (fun c_door_23 c_wider_23 c_now_23 =>
  bd8 (loopN (fun (q : Int32 × Int32 × Int32 × Int32 × Int32 × Int32 × Int32 × Int32) => f_X11_door_b40 c_width c_wide c_delay l1 c_now_23 q.1 q.2.1 q.2.2.1 q.2.2.2.1 q.2.2.2.2.1 q.2.2.2.2.2.1 q.2.2.2.2.2.2.1 q.2.2.2.2.2.2.2) FU (0, 1000000, 0, c_meetings, c_clashes, c_first, c_where, c_door_23)) (fun l3_40x l4_40x l5_40x c_meetings_40x c_clashes_40x c_first_40x c_where_40x c_door_40x =>
  (if l2 = 0 then some (l4_40x, c_meetings_40x, c_clashes_40x, c_first_40x, c_where_40x, c_door_40x, l1, c_now_23)
  else some (l3_40x, c_meetings_40x, c_clashes_40x, c_first_40x, c_where_40x, c_door_40x, l1, c_now_23))))))))
noncomputable def f_X11_grating_j155 (l4_155j : Int32) (s0_155j : Int32) (s1_155j : Int32) : Option ((Int32 × Int32) ⊕ (Int32 × Int32)) :=
  some (.inl ((s0_155j + s1_155j), (l4_155j + 1)))
noncomputable def f_X11_grating_j154 (l4_154j : Int32) (s0_154j : Int32) : Option ((Int32 × Int32) ⊕ (Int32 × Int32)) :=
  f_X11_grating_j155 l4_154j s0_154j 0
noncomputable def f_X11_grating_j150 (l4_150j : Int32) (s0_150j : Int32) : Option ((Int32 × Int32) ⊕ (Int32 × Int32)) :=
  f_X11_grating_j155 l4_150j s0_150j 1
noncomputable def f_X11_grating_j122 (l2_122j : Int32) (l4_122j : Int32) (l7_122j : Int32) (s0_122j : Int32) : Option ((Int32 × Int32) ⊕ (Int32 × Int32)) :=
  (if s0_122j = 0 then f_X11_grating_j154 l4_122j l2_122j
  else (if l7_122j = 1 then f_X11_grating_j150 l4_122j l2_122j
  else (if l7_122j = 6 then f_X11_grating_j150 l4_122j l2_122j
  else (if l7_122j = 11 then f_X11_grating_j150 l4_122j l2_122j
  else f_X11_grating_j154 l4_122j l2_122j))))
noncomputable def f_X11_grating_j121 (l2_121j : Int32) (l4_121j : Int32) (l7_121j : Int32) : Option ((Int32 × Int32) ⊕ (Int32 × Int32)) :=
  f_X11_grating_j122 l2_121j l4_121j l7_121j 0
noncomputable def f_X11_grating_j85 (c_delay : Nat → Int32) (l3_4 : Int32) (l2_85j : Int32) (l4_85j : Int32) (l5_85j : Int32) (l6_85j : Int32) (s0_85j : Int32) : Option ((Int32 × Int32) ⊕ (Int32 × Int32)) :=
  (if 12 ≤ l5_85j then f_X11_grating_j121 l2_85j l4_85j s0_85j
  else (if 12 ≤ l6_85j then f_X11_grating_j121 l2_85j l4_85j s0_85j
  else bd1 (f_X11_spot c_delay l3_4 l4_85j) (fun r_105 =>
  bd1 (f_X11_in r_105 0 32) (fun r_111 =>
  (if r_111 = 0 then f_X11_grating_j121 l2_85j l4_85j s0_85j
  else f_X11_grating_j122 l2_85j l4_85j s0_85j 1)))))
noncomputable def f_X11_grating_b18 (c_now : Nat → Int32) (c_key : Nat → Int32) (c_delay : Nat → Int32) (l1 : Int32) (l3_4 : Int32) (l2_18 : Int32) (l4_18 : Int32) : Option ((Int32 × Int32) ⊕ (Int32 × Int32)) :=
  gd 13 15 ((if (c_now (Int32.toNatClampNeg 13)) ≤ l4_18 then some (.inr (l2_18, l4_18))
  else gd l3_4 15 (gd (c_now (Int32.toNatClampNeg l3_4)) 10 (nmv (c_key (Int32.toNatClampNeg (c_now (Int32.toNatClampNeg l3_4)))) (fun l5_41s =>
  gd (6 + l4_18) 15 (gd (c_now (Int32.toNatClampNeg (6 + l4_18))) 10 (nmv (c_key (Int32.toNatClampNeg (c_now (Int32.toNatClampNeg (6 + l4_18))))) (fun l6_58s =>
  nmv (l5_41s - ((l6_58s + l1) - ((l6_58s + l1) / 12) * 12)) (fun l7_70s =>
  (if 0 ≤ l7_70s then f_X11_grating_j85 c_delay l3_4 l2_18 l4_18 l5_41s l6_58s l7_70s
  else f_X11_grating_j85 c_delay l3_4 l2_18 l4_18 l5_41s l6_58s (-l7_70s)))))))))))
noncomputable def f_X11_grating_b4 (c_now : Nat → Int32) (c_key : Nat → Int32) (c_delay : Nat → Int32) (l1 : Int32) (l2_4 : Int32) (l3_4 : Int32) : Option ((Int32 × Int32) ⊕ (Int32 × Int32)) :=
  gd 12 15 ((if (c_now (Int32.toNatClampNeg 12)) ≤ l3_4 then some (.inr (l2_4, l3_4))
  else bd2 (loopN (fun (q : Int32 × Int32) => f_X11_grating_b18 c_now c_key c_delay l1 l3_4 q.1 q.2) FU (l2_4, 0)) (fun l2_18x l4_18x =>
  some (.inl (l2_18x, (l3_4 + 1))))))
noncomputable def f_X11_grating (c_now : Nat → Int32) (c_key : Nat → Int32) (c_delay : Nat → Int32) (l1 : Int32) : Option (Int32) :=
  bd2 (loopN (fun (q : Int32 × Int32) => f_X11_grating_b4 c_now c_key c_delay l1 q.1 q.2) FU (0, 0)) (fun l2_4x l3_4x =>
  some l2_4x)
noncomputable def f_X11_grate_j44 (l3_44j : Int32) (s0_44j : Int32) : Option ((Int32 × Int32) ⊕ (Int32 × Int32)) :=
  some (.inl (s0_44j, (l3_44j + 1)))
noncomputable def f_X11_grate_b20 (c_key : Nat → Int32) (c_delay : Nat → Int32) (c_now_13 : Nat → Int32) (l2_20 : Int32) (l3_20 : Int32) : Option ((Int32 × Int32) ⊕ (Int32 × Int32)) :=
  (if 12 ≤ l3_20 then some (.inr (l2_20, l3_20))
  else bd1 (f_X11_grating c_now_13 c_key c_delay l3_20) (fun r_28 =>
  bd1 (f_X11_grating c_now_13 c_key c_delay l2_20) (fun r_33 =>
  (if r_33 ≤ r_28 then f_X11_grate_j44 l3_20 l2_20
  else f_X11_grate_j44 l3_20 l3_20))))
noncomputable def f_X11_grate (c_door : Int32) (c_wider : Int32) (c_book : Nat → Int32) (c_now : Nat → Int32) (c_key : Nat → Int32) (c_delay : Nat → Int32) (l1 : Int32) : Option (Int32 × Int32 × Int32 × (Nat → Int32)) :=
  bd1 (f_X11_in l1 0 2) (fun r_3 =>
  (if r_3 = 0 then some ((-2), c_door, c_wider, c_now)
  else bd3 (f_X11_plain c_book c_now) (fun c_door_13 c_wider_13 c_now_13 =>
  bd2 (loopN (fun (q : Int32 × Int32) => f_X11_grate_b20 c_key c_delay c_now_13 q.1 q.2) FU (0, 1)) (fun l2_20x l3_20x =>
  (if l1 = 0 then bd1 (f_X11_grating c_now_13 c_key c_delay 0) (fun r_57 =>
  some (r_57, c_door_13, c_wider_13, c_now_13))
  else (if l1 = 1 then some (l2_20x, c_door_13, c_wider_13, c_now_13)
  else bd1 (f_X11_grating c_now_13 c_key c_delay l2_20x) (fun r_74 =>
  some (r_74, c_door_13, c_wider_13, c_now_13))))))))
noncomputable def f_X11_rule (c_rules : Int32) (c_ahead : Nat → Int32) (c_after : Nat → Int32) (l1 : Int32) (l2 : Int32) : Option (Int32 × Int32 × (Nat → Int32) × (Nat → Int32)) :=
  bd1 (f_X11_isMember l1) (fun r_1 =>
  (if r_1 = 0 then some ((-1), c_rules, c_ahead, c_after)
  else bd1 (f_X11_isMember l2) (fun r_8 =>
  (if r_8 = 0 then some ((-1), c_rules, c_ahead, c_after)
  else (if l1 = l2 then some ((-1), c_rules, c_ahead, c_after)
  else (if c_rules = 10 then some ((-4), c_rules, c_ahead, c_after)
  else gd c_rules 10 (gd c_rules 10 (some ((c_rules + 1), (c_rules + 1), (upd c_ahead (Int32.toNatClampNeg c_rules) l1), (upd c_after (Int32.toNatClampNeg c_rules) l2))))))))))
noncomputable def f_X11_unrule (c_rules : Int32) : Option (Int32 × Int32) :=
  some (c_rules, 0)
noncomputable def f_X11_orders (c_rules : Int32) (c_meetings : Int32) (c_clashes : Int32) (c_first : Int32) (c_where : Int32) (c_door : Int32) (c_wider : Int32) (c_ordersFound : Int32) (c_firstOrder : Int32) (c_least : Int32) (c_leastOrder : Int32) (c_book : Nat → Int32) (c_now : Nat → Int32) (c_width : Nat → Int32) (c_wide : Nat → Int32) (c_delay : Nat → Int32) (c_ahead : Nat → Int32) (c_after : Nat → Int32) (l1 : Int32) (l2 : Int32) : Option (Int32 × Int32 × Int32 × Int32 × Int32 × Int32 × Int32 × Int32 × Int32 × Int32 × Int32 × (Nat → Int32)) :=
  bd1 (f_X11_isRow l1) (fun r_1 =>
  (if r_1 = 0 then some ((-2), c_meetings, c_clashes, c_first, c_where, c_door, c_wider, c_ordersFound, c_firstOrder, c_least, c_leastOrder, c_now)
  else bd1 (f_X11_in l2 0 1) (fun r_10 =>
  (if r_10 = 0 then some ((-2), c_meetings, c_clashes, c_first, c_where, c_door, c_wider, c_ordersFound, c_firstOrder, c_least, c_leastOrder, c_now)
  else bd11 (f_X11_layOrders c_rules c_meetings c_clashes c_first c_where c_book c_now c_width c_wide c_delay c_ahead c_after l1) (fun c_meetings_21 c_clashes_21 c_first_21 c_where_21 c_door_21 c_wider_21 c_ordersFound_21 c_firstOrder_21 c_least_21 c_leastOrder_21 c_now_21 =>
  (if l2 = 0 then some (c_ordersFound_21, c_meetings_21, c_clashes_21, c_first_21, c_where_21, c_door_21, c_wider_21, c_ordersFound_21, c_firstOrder_21, c_least_21, c_leastOrder_21, c_now_21)
  else some (c_firstOrder_21, c_meetings_21, c_clashes_21, c_first_21, c_where_21, c_door_21, c_wider_21, c_ordersFound_21, c_firstOrder_21, c_least_21, c_leastOrder_21, c_now_21)))))))
noncomputable def f_X11_seen (c_sights : Int32) (c_sight : Nat → Int32) (l1 : Int32) (l2 : Int32) : Option (Int32 × Int32 × (Nat → Int32)) :=
  bd1 (f_X11_in l1 0 16) (fun r_4 =>
  (if r_4 = 0 then some ((-1), c_sights, c_sight)
  else bd1 (f_X11_in l2 0 60) (fun r_16 =>
  (if r_16 = 0 then some ((-2), c_sights, c_sight)
  else (if c_sights = 8 then some ((-4), c_sights, c_sight)
  else gd (2 * c_sights) 16 (gd ((2 * c_sights) + 1) 16 (some ((c_sights + 1), (c_sights + 1), (upd (upd c_sight (Int32.toNatClampNeg (2 * c_sights)) l1) (Int32.toNatClampNeg ((2 * c_sights) + 1)) l2)))))))))
noncomputable def f_X11_forget (c_sights : Int32) : Option (Int32 × Int32) :=
  some (c_sights, 0)
noncomputable def f_X11_cellOf (c_delay : Nat → Int32) (l1 : Int32) (l2 : Int32) (l3 : Int32) : Option (Int32) :=
  gd (l1 / 6) 2 (nmv (((l3 - (c_delay (Int32.toNatClampNeg (l1 / 6)))) - (l1 - (l1 / 6) * 6)) - l2) (fun l4_18s =>
  bd1 (f_X11_in l4_18s 0 16) (fun r_25 =>
  (if r_25 = 0 then some 17
  else (if 6 ≤ l1 then some (16 - l4_18s)
  else some l4_18s)))))
noncomputable def f_X11_fits_j75 (l4_75j : Int32) (s0_75j : Int32) : Option ((Int32 × Int32) ⊕ (Int32 × Int32)) :=
  some (.inl (s0_75j, (l4_75j + 1)))
noncomputable def f_X11_fits_b28 (c_sights : Int32) (c_delay : Nat → Int32) (c_sight : Nat → Int32) (l1 : Int32) (l2 : Int32) (l3_28 : Int32) (l4_28 : Int32) : Option ((Int32 × Int32) ⊕ (Int32 × Int32)) :=
  (if c_sights ≤ l4_28 then some (.inr (l3_28, l4_28))
  else (if l3_28 = 0 then some (.inr (l3_28, l4_28))
  else gd ((2 * l4_28) + 1) 16 (bd1 (f_X11_cellOf c_delay l1 l2 (c_sight (Int32.toNatClampNeg ((2 * l4_28) + 1)))) (fun r_55 =>
  gd (2 * l4_28) 16 ((if r_55 = (c_sight (Int32.toNatClampNeg (2 * l4_28))) then f_X11_fits_j75 l4_28 1
  else f_X11_fits_j75 l4_28 0))))))
noncomputable def f_X11_fits_j24 (c_sights : Int32) (c_delay : Nat → Int32) (c_sight : Nat → Int32) (l1 : Int32) (l2 : Int32) (s0_24j : Int32) : Option (Int32) :=
  bd2 (loopN (fun (q : Int32 × Int32) => f_X11_fits_b28 c_sights c_delay c_sight l1 l2 q.1 q.2) FU (s0_24j, 0)) (fun l3_28x l4_28x =>
  gb l3_28x (some l3_28x))
noncomputable def f_X11_fits (c_sights : Int32) (c_book : Nat → Int32) (c_delay : Nat → Int32) (c_sight : Nat → Int32) (l1 : Int32) (l2 : Int32) : Option (Int32) :=
  gd (12 + (l1 / 6)) 15 ((if (c_book (Int32.toNatClampNeg (12 + (l1 / 6)))) ≤ (l1 - (l1 / 6) * 6) then f_X11_fits_j24 c_sights c_delay c_sight l1 l2 0
  else f_X11_fits_j24 c_sights c_delay c_sight l1 l2 1))
noncomputable def f_X11_who_b32 (c_sights : Int32) (c_book : Nat → Int32) (c_delay : Nat → Int32) (c_sight : Nat → Int32) (l5_22 : Int32) (l2_32 : Int32) (l3_32 : Int32) (l4_32 : Int32) (l6_32 : Int32) : Option ((Int32 × Int32 × Int32 × Int32) ⊕ (Int32 × Int32 × Int32 × Int32)) :=
  (if 10 ≤ l6_32 then some (.inr (l2_32, l3_32, l4_32, l6_32))
  else bd1 (f_X11_fits c_sights c_book c_delay c_sight l5_22 l6_32) (fun r_44 =>
  (if r_44 = 0 then some (.inl (l2_32, l3_32, l4_32, (l6_32 + 1)))
  else gd l5_22 15 (nmv (l3_32 ||| (1 <<< ((c_book (Int32.toNatClampNeg l5_22)) &&& 31))) (fun l3_64s =>
  some (.inl ((l2_32 + 1), l3_64s, (l4_32 ||| (1 <<< (l6_32 &&& 31))), (l6_32 + 1))))))))
noncomputable def f_X11_who_b22 (c_sights : Int32) (c_book : Nat → Int32) (c_delay : Nat → Int32) (c_sight : Nat → Int32) (l2_22 : Int32) (l3_22 : Int32) (l4_22 : Int32) (l5_22 : Int32) : Option ((Int32 × Int32 × Int32 × Int32) ⊕ (Int32 × Int32 × Int32 × Int32)) :=
  (if 12 ≤ l5_22 then some (.inr (l2_22, l3_22, l4_22, l5_22))
  else bd4 (loopN (fun (q : Int32 × Int32 × Int32 × Int32) => f_X11_who_b32 c_sights c_book c_delay c_sight l5_22 q.1 q.2.1 q.2.2.1 q.2.2.2) FU (l2_22, l3_22, l4_22, 0)) (fun l2_32x l3_32x l4_32x l6_32x =>
  some (.inl (l2_32x, l3_32x, l4_32x, (l5_22 + 1)))))
noncomputable def f_X11_who (c_sights : Int32) (c_book : Nat → Int32) (c_delay : Nat → Int32) (c_sight : Nat → Int32) (l1 : Int32) : Option (Int32) :=
  bd1 (f_X11_in l1 0 2) (fun r_3 =>
  (if r_3 = 0 then some (-2)
  else bd4 (loopN (fun (q : Int32 × Int32 × Int32 × Int32) => f_X11_who_b22 c_sights c_book c_delay c_sight q.1 q.2.1 q.2.2.1 q.2.2.2) FU (0, 0, 0, 0)) (fun l2_22x l3_22x l4_22x l5_22x =>
  (if l1 = 0 then some l2_22x
  else (if l1 = 1 then some l3_22x
  else some l4_22x)))))
noncomputable def f_X11_look_j224 (l2_224j : Int32) (c_counts_224j : Nat → Int32) (c_isOne_224j : Nat → Int32) : Option (Int32 × (Nat → Int32) × (Nat → Int32)) :=
  some (l2_224j, c_counts_224j, c_isOne_224j)
noncomputable def f_X11_look_b14 (c_sights : Int32) (c_book : Nat → Int32) (c_delay : Nat → Int32) (c_sight : Nat → Int32) (l2_14 : Int32) (c_isOne_14 : Nat → Int32) : Option ((Int32 × (Nat → Int32)) ⊕ (Int32 × (Nat → Int32))) :=
  (if 120 ≤ l2_14 then some (.inr (l2_14, c_isOne_14))
  else bd1 (f_X11_fits c_sights c_book c_delay c_sight (l2_14 / 10) (l2_14 - (l2_14 / 10) * 10)) (fun r_34 =>
  gd l2_14 120 (some (.inl ((l2_14 + 1), (upd c_isOne_14 (Int32.toNatClampNeg l2_14) (vp_nar .boolean r_34)))))))
noncomputable def f_X11_look_j209 (l2_209j : Int32) (l4_209j : Int32) (c_counts_209j : Nat → Int32) (s0_209j : Int32) : Option ((Int32 × Int32 × Int32 × (Nat → Int32)) ⊕ (Int32 × Int32 × Int32 × (Nat → Int32))) :=
  some (.inl (l2_209j, s0_209j, (l4_209j + 1), c_counts_209j))
noncomputable def f_X11_look_j197 (l3_197j : Int32) (l4_197j : Int32) (l5_197j : Int32) (l6_197j : Int32) (c_counts_197j : Nat → Int32) (s0_197j : Int32) : Option ((Int32 × Int32 × Int32 × (Nat → Int32)) ⊕ (Int32 × Int32 × Int32 × (Nat → Int32))) :=
  (if l6_197j = 0 then f_X11_look_j209 s0_197j l4_197j c_counts_197j l3_197j
  else f_X11_look_j209 s0_197j l4_197j c_counts_197j l5_197j)
noncomputable def f_X11_look_j184 (l2_184j : Int32) (l3_184j : Int32) (l4_184j : Int32) (l5_184j : Int32) (c_counts_184j : Nat → Int32) (s0_184j : Int32) : Option ((Int32 × Int32 × Int32 × (Nat → Int32)) ⊕ (Int32 × Int32 × Int32 × (Nat → Int32))) :=
  (if s0_184j = 0 then f_X11_look_j197 l3_184j l4_184j l5_184j s0_184j c_counts_184j l2_184j
  else f_X11_look_j197 l3_184j l4_184j l5_184j s0_184j c_counts_184j l4_184j)
noncomputable def f_X11_look_j183 (l2_183j : Int32) (l3_183j : Int32) (l4_183j : Int32) (l5_183j : Int32) (c_counts_183j : Nat → Int32) : Option ((Int32 × Int32 × Int32 × (Nat → Int32)) ⊕ (Int32 × Int32 × Int32 × (Nat → Int32))) :=
  f_X11_look_j184 l2_183j l3_183j l4_183j l5_183j c_counts_183j 0
noncomputable def f_X11_look_b66 (l6_66 : Int32) (c_counts_66 : Nat → Int32) : Option ((Int32 × (Nat → Int32)) ⊕ (Int32 × (Nat → Int32))) :=
  (if 18 ≤ l6_66 then some (.inr (l6_66, c_counts_66))
  else gd l6_66 18 (some (.inl ((l6_66 + 1), (upd c_counts_66 (Int32.toNatClampNeg l6_66) 0)))))
noncomputable def f_X11_look_j160 (l6_160j : Int32) (c_counts_160j : Nat → Int32) (s0_160j : Int32) : Option ((Int32 × Int32 × (Nat → Int32)) ⊕ (Int32 × Int32 × (Nat → Int32))) :=
  some (.inl (s0_160j, (l6_160j + 1), c_counts_160j))
noncomputable def f_X11_look_b90 (c_delay : Nat → Int32) (c_isOne_14x : Nat → Int32) (l4_53 : Int32) (l5_90 : Int32) (l6_90 : Int32) (c_counts_90 : Nat → Int32) : Option ((Int32 × Int32 × (Nat → Int32)) ⊕ (Int32 × Int32 × (Nat → Int32))) :=
  (if 120 ≤ l6_90 then some (.inr (l5_90, l6_90, c_counts_90))
  else gd l6_90 120 ((if (c_isOne_14x (Int32.toNatClampNeg l6_90)) = 0 then some (.inl (l5_90, (l6_90 + 1), c_counts_90))
  else bd1 (f_X11_cellOf c_delay (l6_90 / 10) (l6_90 - (l6_90 / 10) * 10) l4_53) (fun r_120 =>
  gd r_120 18 (gd r_120 18 (gd r_120 18 ((if ((upd c_counts_90 (Int32.toNatClampNeg r_120) ((c_counts_90 (Int32.toNatClampNeg r_120)) + 1)) (Int32.toNatClampNeg r_120)) ≤ l5_90 then f_X11_look_j160 l6_90 (upd c_counts_90 (Int32.toNatClampNeg r_120) ((c_counts_90 (Int32.toNatClampNeg r_120)) + 1)) l5_90
  else gd r_120 18 (f_X11_look_j160 l6_90 (upd c_counts_90 (Int32.toNatClampNeg r_120) ((c_counts_90 (Int32.toNatClampNeg r_120)) + 1)) ((upd c_counts_90 (Int32.toNatClampNeg r_120) ((c_counts_90 (Int32.toNatClampNeg r_120)) + 1)) (Int32.toNatClampNeg r_120)))))))))))
noncomputable def f_X11_look_b53 (c_delay : Nat → Int32) (c_isOne_14x : Nat → Int32) (l2_53 : Int32) (l3_53 : Int32) (l4_53 : Int32) (c_counts_53 : Nat → Int32) : Option ((Int32 × Int32 × Int32 × (Nat → Int32)) ⊕ (Int32 × Int32 × Int32 × (Nat → Int32))) :=
  (if 61 ≤ l4_53 then some (.inr (l2_53, l3_53, l4_53, c_counts_53))
  else bd2 (loopN (fun (q : Int32 × (Nat → Int32)) => f_X11_look_b66 q.1 q.2) FU (0, c_counts_53)) (fun l6_66x c_counts_66x =>
  bd3 (loopN (fun (q : Int32 × Int32 × (Nat → Int32)) => f_X11_look_b90 c_delay c_isOne_14x l4_53 q.1 q.2.1 q.2.2) FU (0, 0, c_counts_66x)) (fun l5_90x l6_90x c_counts_90x =>
  (if l5_90x ≤ 0 then f_X11_look_j183 l2_53 l3_53 l4_53 l5_90x c_counts_90x
  else (if l3_53 ≤ l5_90x then f_X11_look_j183 l2_53 l3_53 l4_53 l5_90x c_counts_90x
  else f_X11_look_j184 l2_53 l3_53 l4_53 l5_90x c_counts_90x 1)))))
noncomputable def f_X11_look (c_sights : Int32) (c_book : Nat → Int32) (c_delay : Nat → Int32) (c_sight : Nat → Int32) (c_counts : Nat → Int32) (c_isOne : Nat → Int32) (l1 : Int32) : Option (Int32 × (Nat → Int32) × (Nat → Int32)) :=
  bd1 (f_X11_in l1 0 1) (fun r_3 =>
  (if r_3 = 0 then some ((-2), c_counts, c_isOne)
  else bd2 (loopN (fun (q : Int32 × (Nat → Int32)) => f_X11_look_b14 c_sights c_book c_delay c_sight q.1 q.2) FU (0, c_isOne)) (fun l2_14x c_isOne_14x =>
  bd4 (loopN (fun (q : Int32 × Int32 × Int32 × (Nat → Int32)) => f_X11_look_b53 c_delay c_isOne_14x q.1 q.2.1 q.2.2.1 q.2.2.2) FU ((-6), 1000000, 0, c_counts)) (fun l2_53x l3_53x l4_53x c_counts_53x =>
  (if l2_53x < 0 then f_X11_look_j224 l2_53x c_counts_53x c_isOne_14x
  else (if l1 = 0 then f_X11_look_j224 l2_53x c_counts_53x c_isOne_14x
  else some (l3_53x, c_counts_53x, c_isOne_14x)))))))
noncomputable def f_X11_chance_j83 (l6_83j : Int32) (c_ways_83j : Nat → Int64) (s1_83j : Int32) (s2_83j : Int64) : Option ((Int32 × (Nat → Int64)) ⊕ (Int32 × (Nat → Int64))) :=
  gd s1_83j 14 (some (.inl ((l6_83j + 1), (vp_updL c_ways_83j (Int32.toNatClampNeg s1_83j) s2_83j))))
noncomputable def f_X11_chance_b60 (l6_60 : Int32) (c_ways_60 : Nat → Int64) : Option ((Int32 × (Nat → Int64)) ⊕ (Int32 × (Nat → Int64))) :=
  (if 14 ≤ l6_60 then some (.inr (l6_60, c_ways_60))
  else (if l6_60 = 0 then f_X11_chance_j83 l6_60 c_ways_60 l6_60 1
  else f_X11_chance_j83 l6_60 c_ways_60 l6_60 0))
noncomputable def f_X11_chance_j151 (l7_151j : Int32) (c_ways_151j : Nat → Int64) (s1_151j : Int32) (s2_151j : Int64) (s3_151j : Int64) : Option ((Int32 × (Nat → Int64)) ⊕ (Int32 × (Nat → Int64))) :=
  gd s1_151j 14 (some (.inl ((l7_151j + (-1)), (vp_updL c_ways_151j (Int32.toNatClampNeg s1_151j) (s2_151j + s3_151j)))))
noncomputable def f_X11_chance_b106 (l1 : Int32) (l7_106 : Int32) (c_ways_106 : Nat → Int64) : Option ((Int32 × (Nat → Int64)) ⊕ (Int32 × (Nat → Int64))) :=
  (if l7_106 < 0 then some (.inr (l7_106, c_ways_106))
  else gd l7_106 14 ((if l7_106 ≤ 0 then f_X11_chance_j151 l7_106 c_ways_106 l7_106 ((c_ways_106 (Int32.toNatClampNeg l7_106)) * (Int32.toInt64 l1)) 0
  else gd (l7_106 - 1) 14 (f_X11_chance_j151 l7_106 c_ways_106 l7_106 ((c_ways_106 (Int32.toNatClampNeg l7_106)) * (Int32.toInt64 l1)) ((c_ways_106 (Int32.toNatClampNeg (l7_106 - 1))) * (Int32.toInt64 (10 - l1)))))))
noncomputable def f_X11_chance_b93 (l1 : Int32) (c_clashes_38 : Int32) (l4_93 : Int64) (l6_93 : Int32) (c_ways_93 : Nat → Int64) : Option ((Int64 × Int32 × (Nat → Int64)) ⊕ (Int64 × Int32 × (Nat → Int64))) :=
  (if c_clashes_38 ≤ l6_93 then some (.inr (l4_93, l6_93, c_ways_93))
  else bd2 (loopN (fun (q : Int32 × (Nat → Int64)) => f_X11_chance_b106 l1 q.1 q.2) FU (12, c_ways_93)) (fun l7_106x c_ways_106x =>
  some (.inl ((l4_93 * 10), (l6_93 + 1), c_ways_106x))))
noncomputable def f_X11_chance_b179 (c_ways_93x : Nat → Int64) (l6_179 : Int64) (l8_179 : Int32) : Option ((Int64 × Int32) ⊕ (Int64 × Int32)) :=
  (if 13 ≤ l8_179 then some (.inr (l6_179, l8_179))
  else gd l8_179 14 (nmv (l6_179 + (c_ways_93x (Int32.toNatClampNeg l8_179))) (fun l6_196s =>
  some (.inl (l6_196s, (l8_179 + 1))))))
noncomputable def f_X11_chance_b212 (l8_212 : Int64) (l10_212 : Int64) : Option ((Int64 × Int64) ⊕ (Int64 × Int64)) :=
  (if (lg_cmp l10_212 0) = 0 then some (.inr (l8_212, l10_212))
  else nzl l10_212 (some (.inl (l10_212, (l8_212 - (l8_212 / l10_212) * l10_212)))))
noncomputable def f_X11_chance (c_meetings : Int32) (c_clashes : Int32) (c_first : Int32) (c_where : Int32) (c_door : Int32) (c_wider : Int32) (c_book : Nat → Int32) (c_now : Nat → Int32) (c_width : Nat → Int32) (c_wide : Nat → Int32) (c_delay : Nat → Int32) (c_ways : Nat → Int64) (l1 : Int32) (l2 : Int32) (l3 : Int32) : Option (Int64 × Int32 × Int32 × Int32 × Int32 × Int32 × Int32 × (Nat → Int32) × (Nat → Int64)) :=
  bd1 (f_X11_in l1 0 10) (fun r_4 =>
  (if r_4 = 0 then some ((-1000000000000000002), c_meetings, c_clashes, c_first, c_where, c_door, c_wider, c_now, c_ways)
  else bd1 (f_X11_in l2 0 12) (fun r_14 =>
  (if r_14 = 0 then some ((-1000000000000000002), c_meetings, c_clashes, c_first, c_where, c_door, c_wider, c_now, c_ways)
  else bd1 (f_X11_in l3 0 1) (fun r_23 =>
  (if r_23 = 0 then some ((-1000000000000000002), c_meetings, c_clashes, c_first, c_where, c_door, c_wider, c_now, c_ways)
  else bd3 (f_X11_plain c_book c_now) (fun c_door_34 c_wider_34 c_now_34 =>
  bd4 (f_X11_layMeetings c_door_34 c_wider_34 c_now_34 c_width c_wide c_delay) (fun c_meetings_38 c_clashes_38 c_first_38 c_where_38 =>
  (if c_clashes_38 ≤ 12 then bd2 (loopN (fun (q : Int32 × (Nat → Int64)) => f_X11_chance_b60 q.1 q.2) FU (0, c_ways)) (fun l6_60x c_ways_60x =>
  bd3 (loopN (fun (q : Int64 × Int32 × (Nat → Int64)) => f_X11_chance_b93 l1 c_clashes_38 q.1 q.2.1 q.2.2) FU (1, 0, c_ways_60x)) (fun l4_93x l6_93x c_ways_93x =>
  bd2 (loopN (fun (q : Int64 × Int32) => f_X11_chance_b179 c_ways_93x q.1 q.2) FU (0, l2)) (fun l6_179x l8_179x =>
  bd2 (loopN (fun (q : Int64 × Int64) => f_X11_chance_b212 q.1 q.2) FU (l6_179x, l4_93x)) (fun l8_212x l10_212x =>
  (if l3 = 0 then nzl l8_212x (some ((l6_179x / l8_212x), c_meetings_38, c_clashes_38, c_first_38, c_where_38, c_door_34, c_wider_34, c_now_34, c_ways_93x))
  else nzl l8_212x (some ((l4_93x / l8_212x), c_meetings_38, c_clashes_38, c_first_38, c_where_38, c_door_34, c_wider_34, c_now_34, c_ways_93x)))))))
  else some ((-1000000000000000003), c_meetings_38, c_clashes_38, c_first_38, c_where_38, c_door_34, c_wider_34, c_now_34, c_ways))))))))))
noncomputable def f_X11_year_b43 (l2 : Int32) (l4_43 : Int32) (l5_43 : Int32) (c_now_43 : Nat → Int32) : Option ((Int32 × Int32 × (Nat → Int32)) ⊕ (Int32 × Int32 × (Nat → Int32))) :=
  (if l2 ≤ l5_43 then some (.inr (l4_43, l5_43, c_now_43))
  else nmv (((75 * l4_43) + 74) - (((75 * l4_43) + 74) / 65537) * 65537) (fun l4_60s =>
  nmv ((l4_60s / 10) - ((l4_60s / 10) / 8) * 8) (fun l7_77s =>
  (if 4 ≤ l7_77s then (if 6 ≤ l7_77s then (if l7_77s = 6 then bd2 (f_X11_change c_now_43 (l4_60s - (l4_60s / 10) * 10) ((l4_60s / 80) - ((l4_60s / 80) / 10) * 10)) (fun r_134 c_now_134 =>
  some (.inl (l4_60s, (l5_43 + 1), c_now_134)))
  else bd2 (f_X11_ring c_now_43) (fun r_142 c_now_142 =>
  some (.inl (l4_60s, (l5_43 + 1), c_now_142))))
  else bd2 (f_X11_goHome c_now_43 (l4_60s - (l4_60s / 10) * 10)) (fun r_109 c_now_109 =>
  some (.inl (l4_60s, (l5_43 + 1), c_now_109))))
  else bd2 (f_X11_join c_now_43 (l4_60s - (l4_60s / 10) * 10) (l7_77s / 2)) (fun r_92 c_now_92 =>
  some (.inl (l4_60s, (l5_43 + 1), c_now_92)))))))
noncomputable def f_X11_year (c_meetings : Int32) (c_clashes : Int32) (c_first : Int32) (c_where : Int32) (c_door : Int32) (c_wider : Int32) (c_book : Nat → Int32) (c_now : Nat → Int32) (c_width : Nat → Int32) (c_wide : Nat → Int32) (c_delay : Nat → Int32) (l1 : Int32) (l2 : Int32) (l3 : Int32) : Option (Int32 × Int32 × Int32 × Int32 × Int32 × Int32 × Int32 × (Nat → Int32)) :=
  bd1 (f_X11_in l1 0 9999) (fun r_5 =>
  (if r_5 = 0 then some ((-2), c_meetings, c_clashes, c_first, c_where, c_door, c_wider, c_now)
  else bd1 (f_X11_in l2 1 99) (fun r_15 =>
  (if r_15 = 0 then some ((-2), c_meetings, c_clashes, c_first, c_where, c_door, c_wider, c_now)
  else bd1 (f_X11_in l3 0 2) (fun r_24 =>
  (if r_24 = 0 then some ((-2), c_meetings, c_clashes, c_first, c_where, c_door, c_wider, c_now)
  else bd3 (f_X11_plain c_book c_now) (fun c_door_34 c_wider_34 c_now_34 =>
  bd3 (loopN (fun (q : Int32 × Int32 × (Nat → Int32)) => f_X11_year_b43 l2 q.1 q.2.1 q.2.2) FU (l1, 0, c_now_34)) (fun l4_43x l5_43x c_now_43x =>
  bd4 (f_X11_layMeetings c_door_34 c_wider_34 c_now_43x c_width c_wide c_delay) (fun c_meetings_153 c_clashes_153 c_first_153 c_where_153 =>
  (if l3 = 0 then gd 12 15 (gd 13 15 (some (((c_now_43x (Int32.toNatClampNeg 12)) + (c_now_43x (Int32.toNatClampNeg 13))), c_meetings_153, c_clashes_153, c_first_153, c_where_153, c_door_34, c_wider_34, c_now_43x)))
  else (if l3 = 1 then some (c_clashes_153, c_meetings_153, c_clashes_153, c_first_153, c_where_153, c_door_34, c_wider_34, c_now_43x)
  else gd 14 15 (some ((c_now_43x (Int32.toNatClampNeg 14)), c_meetings_153, c_clashes_153, c_first_153, c_where_153, c_door_34, c_wider_34, c_now_43x)))))))))))))
noncomputable def f_X11_image_b19 (c_book : Nat → Int32) (l3_19 : Int32) (c_image_19 : Nat → Int32) (l2_19 : Int32) : Option ((Int32 × (Nat → Int32)) ⊕ (Int32 × (Nat → Int32))) :=
  (if 15 ≤ l3_19 then some (.inr (l3_19, c_image_19))
  else gd l3_19 15 (gd (l2_19 + l3_19) 200 (some (.inl ((l3_19 + 1), (upd c_image_19 (Int32.toNatClampNeg (l2_19 + l3_19)) (c_book (Int32.toNatClampNeg l3_19))))))))
noncomputable def f_X11_image_b47 (c_width : Nat → Int32) (c_key : Nat → Int32) (c_ahead : Nat → Int32) (c_after : Nat → Int32) (l3_47 : Int32) (c_image_47 : Nat → Int32) (l2_47 : Int32) : Option ((Int32 × (Nat → Int32)) ⊕ (Int32 × (Nat → Int32))) :=
  (if 10 ≤ l3_47 then some (.inr (l3_47, c_image_47))
  else gd l3_47 10 (gd ((l2_47 + 15) + l3_47) 200 (gd l3_47 10 (gd ((l2_47 + 25) + l3_47) 200 (gd l3_47 10 (gd ((l2_47 + 35) + l3_47) 200 (gd l3_47 10 (gd ((l2_47 + 45) + l3_47) 200 (some (.inl ((l3_47 + 1), (upd (upd (upd (upd c_image_47 (Int32.toNatClampNeg ((l2_47 + 15) + l3_47)) (c_width (Int32.toNatClampNeg l3_47))) (Int32.toNatClampNeg ((l2_47 + 25) + l3_47)) (c_key (Int32.toNatClampNeg l3_47))) (Int32.toNatClampNeg ((l2_47 + 35) + l3_47)) (c_ahead (Int32.toNatClampNeg l3_47))) (Int32.toNatClampNeg ((l2_47 + 45) + l3_47)) (c_after (Int32.toNatClampNeg l3_47))))))))))))))
noncomputable def f_X11_image_b129 (c_wide : Nat → Int32) (l3_129 : Int32) (c_image_129 : Nat → Int32) (l2_129 : Int32) : Option ((Int32 × (Nat → Int32)) ⊕ (Int32 × (Nat → Int32))) :=
  (if 17 ≤ l3_129 then some (.inr (l3_129, c_image_129))
  else gd l3_129 17 (gd ((l2_129 + 55) + l3_129) 200 (some (.inl ((l3_129 + 1), (upd c_image_129 (Int32.toNatClampNeg ((l2_129 + 55) + l3_129)) (c_wide (Int32.toNatClampNeg l3_129))))))))
noncomputable def f_X11_image_b160 (c_sight : Nat → Int32) (l3_160 : Int32) (c_image_160 : Nat → Int32) (l2_160 : Int32) : Option ((Int32 × (Nat → Int32)) ⊕ (Int32 × (Nat → Int32))) :=
  (if 16 ≤ l3_160 then some (.inr (l3_160, c_image_160))
  else gd l3_160 16 (gd ((l2_160 + 72) + l3_160) 200 (some (.inl ((l3_160 + 1), (upd c_image_160 (Int32.toNatClampNeg ((l2_160 + 72) + l3_160)) (c_sight (Int32.toNatClampNeg l3_160))))))))
noncomputable def f_X11_image (c_rules : Int32) (c_sights : Int32) (c_book : Nat → Int32) (c_width : Nat → Int32) (c_key : Nat → Int32) (c_wide : Nat → Int32) (c_delay : Nat → Int32) (c_ahead : Nat → Int32) (c_after : Nat → Int32) (c_sight : Nat → Int32) (c_image : Nat → Int32) (c_isKept : Nat → Int32) (l1 : Int32) : Option (Int32 × (Nat → Int32) × (Nat → Int32)) :=
  bd1 (f_X11_in l1 0 1) (fun r_3 =>
  (if r_3 = 0 then some ((-2), c_image, c_isKept)
  else bd2 (loopN (fun (q : Int32 × (Nat → Int32)) => f_X11_image_b19 c_book q.1 q.2 (100 * l1)) FU (0, c_image)) (fun l3_19x c_image_19x =>
  bd2 (loopN (fun (q : Int32 × (Nat → Int32)) => f_X11_image_b47 c_width c_key c_ahead c_after q.1 q.2 (100 * l1)) FU (0, c_image_19x)) (fun l3_47x c_image_47x =>
  bd2 (loopN (fun (q : Int32 × (Nat → Int32)) => f_X11_image_b129 c_wide q.1 q.2 (100 * l1)) FU (0, c_image_47x)) (fun l3_129x c_image_129x =>
  bd2 (loopN (fun (q : Int32 × (Nat → Int32)) => f_X11_image_b160 c_sight q.1 q.2 (100 * l1)) FU (0, c_image_129x)) (fun l3_160x c_image_160x =>
  gd 0 2 (gd ((100 * l1) + 90) 200 (gd 1 2 (gd ((100 * l1) + 91) 200 (gd ((100 * l1) + 92) 200 (gd ((100 * l1) + 93) 200 (gd l1 2 (some (1, (upd (upd (upd (upd c_image_160x (Int32.toNatClampNeg ((100 * l1) + 90)) (c_delay (Int32.toNatClampNeg 0))) (Int32.toNatClampNeg ((100 * l1) + 91)) (c_delay (Int32.toNatClampNeg 1))) (Int32.toNatClampNeg ((100 * l1) + 92)) c_rules) (Int32.toNatClampNeg ((100 * l1) + 93)) c_sights), (upd c_isKept (Int32.toNatClampNeg l1) (vp_nar .boolean 1))))))))))))))))
noncomputable def f_X11_restore_b31 (c_image : Nat → Int32) (l3_31 : Int32) (c_book_31 : Nat → Int32) (l2_31 : Int32) : Option ((Int32 × (Nat → Int32)) ⊕ (Int32 × (Nat → Int32))) :=
  (if 15 ≤ l3_31 then some (.inr (l3_31, c_book_31))
  else gd (l2_31 + l3_31) 200 (gd l3_31 15 (some (.inl ((l3_31 + 1), (upd c_book_31 (Int32.toNatClampNeg l3_31) (c_image (Int32.toNatClampNeg (l2_31 + l3_31)))))))))
noncomputable def f_X11_restore_b59 (c_image : Nat → Int32) (l3_59 : Int32) (c_width_59 : Nat → Int32) (c_key_59 : Nat → Int32) (c_ahead_59 : Nat → Int32) (c_after_59 : Nat → Int32) (l2_59 : Int32) : Option ((Int32 × (Nat → Int32) × (Nat → Int32) × (Nat → Int32) × (Nat → Int32)) ⊕ (Int32 × (Nat → Int32) × (Nat → Int32) × (Nat → Int32) × (Nat → Int32))) :=
  (if 10 ≤ l3_59 then some (.inr (l3_59, c_width_59, c_key_59, c_ahead_59, c_after_59))
  else gd ((l2_59 + 15) + l3_59) 200 (gd l3_59 10 (gd ((l2_59 + 25) + l3_59) 200 (gd l3_59 10 (gd ((l2_59 + 35) + l3_59) 200 (gd l3_59 10 (gd ((l2_59 + 45) + l3_59) 200 (gd l3_59 10 (some (.inl ((l3_59 + 1), (upd c_width_59 (Int32.toNatClampNeg l3_59) (c_image (Int32.toNatClampNeg ((l2_59 + 15) + l3_59)))), (upd c_key_59 (Int32.toNatClampNeg l3_59) (c_image (Int32.toNatClampNeg ((l2_59 + 25) + l3_59)))), (upd c_ahead_59 (Int32.toNatClampNeg l3_59) (c_image (Int32.toNatClampNeg ((l2_59 + 35) + l3_59)))), (upd c_after_59 (Int32.toNatClampNeg l3_59) (c_image (Int32.toNatClampNeg ((l2_59 + 45) + l3_59)))))))))))))))
noncomputable def f_X11_restore_b141 (c_image : Nat → Int32) (l3_141 : Int32) (c_wide_141 : Nat → Int32) (l2_141 : Int32) : Option ((Int32 × (Nat → Int32)) ⊕ (Int32 × (Nat → Int32))) :=
  (if 17 ≤ l3_141 then some (.inr (l3_141, c_wide_141))
  else gd ((l2_141 + 55) + l3_141) 200 (gd l3_141 17 (some (.inl ((l3_141 + 1), (upd c_wide_141 (Int32.toNatClampNeg l3_141) (c_image (Int32.toNatClampNeg ((l2_141 + 55) + l3_141)))))))))
noncomputable def f_X11_restore_b172 (c_image : Nat → Int32) (l3_172 : Int32) (c_sight_172 : Nat → Int32) (l2_172 : Int32) : Option ((Int32 × (Nat → Int32)) ⊕ (Int32 × (Nat → Int32))) :=
  (if 16 ≤ l3_172 then some (.inr (l3_172, c_sight_172))
  else gd ((l2_172 + 72) + l3_172) 200 (gd l3_172 16 (some (.inl ((l3_172 + 1), (upd c_sight_172 (Int32.toNatClampNeg l3_172) (c_image (Int32.toNatClampNeg ((l2_172 + 72) + l3_172)))))))))
noncomputable def f_X11_restore (c_rules : Int32) (c_sights : Int32) (c_book : Nat → Int32) (c_width : Nat → Int32) (c_key : Nat → Int32) (c_wide : Nat → Int32) (c_delay : Nat → Int32) (c_ahead : Nat → Int32) (c_after : Nat → Int32) (c_sight : Nat → Int32) (c_image : Nat → Int32) (c_isKept : Nat → Int32) (l1 : Int32) : Option (Int32 × Int32 × Int32 × (Nat → Int32) × (Nat → Int32) × (Nat → Int32) × (Nat → Int32) × (Nat → Int32) × (Nat → Int32) × (Nat → Int32) × (Nat → Int32)) :=
  bd1 (f_X11_in l1 0 1) (fun r_3 =>
  (if r_3 = 0 then some ((-2), c_rules, c_sights, c_book, c_width, c_key, c_wide, c_delay, c_ahead, c_after, c_sight)
  else gd l1 2 ((if (c_isKept (Int32.toNatClampNeg l1)) = 0 then some ((-3), c_rules, c_sights, c_book, c_width, c_key, c_wide, c_delay, c_ahead, c_after, c_sight)
  else bd2 (loopN (fun (q : Int32 × (Nat → Int32)) => f_X11_restore_b31 c_image q.1 q.2 (100 * l1)) FU (0, c_book)) (fun l3_31x c_book_31x =>
  bd5 (loopN (fun (q : Int32 × (Nat → Int32) × (Nat → Int32) × (Nat → Int32) × (Nat → Int32)) => f_X11_restore_b59 c_image q.1 q.2.1 q.2.2.1 q.2.2.2.1 q.2.2.2.2 (100 * l1)) FU (0, c_width, c_key, c_ahead, c_after)) (fun l3_59x c_width_59x c_key_59x c_ahead_59x c_after_59x =>
  bd2 (loopN (fun (q : Int32 × (Nat → Int32)) => f_X11_restore_b141 c_image q.1 q.2 (100 * l1)) FU (0, c_wide)) (fun l3_141x c_wide_141x =>
  bd2 (loopN (fun (q : Int32 × (Nat → Int32)) => f_X11_restore_b172 c_image q.1 q.2 (100 * l1)) FU (0, c_sight)) (fun l3_172x c_sight_172x =>
  gd ((100 * l1) + 90) 200 (gd 0 2 (gd ((100 * l1) + 91) 200 (gd 1 2 (gd ((100 * l1) + 92) 200 (gd ((100 * l1) + 93) 200 (some (1, (c_image (Int32.toNatClampNeg ((100 * l1) + 92))), (c_image (Int32.toNatClampNeg ((100 * l1) + 93))), c_book_31x, c_width_59x, c_key_59x, c_wide_141x, (upd (upd c_delay (Int32.toNatClampNeg 0) (c_image (Int32.toNatClampNeg ((100 * l1) + 90)))) (Int32.toNatClampNeg 1) (c_image (Int32.toNatClampNeg ((100 * l1) + 91)))), c_ahead_59x, c_after_59x, c_sight_172x)))))))))))))))
noncomputable def f_X11_told_j31 : Option (Int32) :=
  some (-2)
noncomputable def f_X11_told (c_rules : Int32) (c_sights : Int32) (c_signs : Int32) (c_book : Nat → Int32) (c_width : Nat → Int32) (c_key : Nat → Int32) (c_wide : Nat → Int32) (c_delay : Nat → Int32) (l1 : Int32) : Option (Int32) :=
  (if l1 < 80 then (if l1 < 60 then (if l1 < 40 then (if l1 < 20 then (if l1 = 0 then some c_signs
  else (if l1 = 1 then gd 12 15 (some (c_book (Int32.toNatClampNeg 12)))
  else (if l1 = 2 then gd 13 15 (some (c_book (Int32.toNatClampNeg 13)))
  else (if l1 = 3 then gd 14 15 (some (c_book (Int32.toNatClampNeg 14)))
  else (if l1 = 4 then some c_rules
  else (if l1 = 5 then some c_sights
  else bd1 (f_X11_in l1 6 7) (fun r_244 =>
  (if r_244 = 0 then some (-2)
  else gd (l1 - 6) 2 (some (c_delay (Int32.toNatClampNeg (l1 - 6))))))))))))
  else bd1 (f_X11_in l1 20 36) (fun r_139 =>
  (if r_139 = 0 then some (-2)
  else gd (l1 - 20) 17 (some (c_wide (Int32.toNatClampNeg (l1 - 20)))))))
  else bd1 (f_X11_isMember (l1 - 40)) (fun r_107 =>
  (if r_107 = 0 then some (-2)
  else gd (l1 - 40) 10 (some (c_width (Int32.toNatClampNeg (l1 - 40)))))))
  else bd1 (f_X11_isMember (l1 - 60)) (fun r_76 =>
  (if r_76 = 0 then some (-2)
  else gd (l1 - 60) 10 (some (c_key (Int32.toNatClampNeg (l1 - 60)))))))
  else bd1 (f_X11_isRow ((l1 / 10) - 8)) (fun r_20 =>
  (if r_20 = 0 then f_X11_told_j31
  else (if (l1 - (l1 / 10) * 10) ≤ 5 then gd (12 + ((l1 / 10) - 8)) 15 ((if (c_book (Int32.toNatClampNeg (12 + ((l1 / 10) - 8)))) ≤ (l1 - (l1 / 10) * 10) then some (-6)
  else gd ((6 * ((l1 / 10) - 8)) + (l1 - (l1 / 10) * 10)) 15 (some (c_book (Int32.toNatClampNeg ((6 * ((l1 / 10) - 8)) + (l1 - (l1 / 10) * 10)))))))
  else f_X11_told_j31))))
noncomputable def f_X5_init : Option (Int32 × (Nat → Int32) × (Nat → Int32)) :=
  some (0, (fun _ => 0), (fun _ => 0))
noncomputable def f_X7_init : Option (Int32 × (Nat → Int32) × (Nat → Int32)) :=
  bd1 (f_X10_fill 10 (fun _ => 0) 2) (fun c_rowOf_30 =>
  bd1 (f_X10_fill 10 (fun _ => 0) (-6)) (fun c_placeOf_39 =>
  some (0, c_rowOf_30, c_placeOf_39)))
noncomputable def f_X8_init : Option ((Nat → Int32) × (Nat → Int32) × (Nat → Int32) × (Nat → Int32) × Int32 × (Nat → Int32) × (Nat → Int32) × Int32 × (Nat → Int32) × (Nat → Int32) × Int32 × (Nat → Int32) × (Nat → Int32)) :=
  bd3 (f_X7_init) (fun c_rows_rung_40 c_rows_rowOf_40 c_rows_placeOf_40 =>
  bd3 (f_X5_init) (fun c_rules_count_53 c_rules_firsts_53 c_rules_seconds_53 =>
  bd3 (f_X5_init) (fun c_sights_count_66 c_sights_firsts_66 c_sights_seconds_66 =>
  bd1 (f_X10_fill 10 (fun _ => 0) 5) (fun c_widths_77 =>
  bd1 (f_X10_fill 10 (fun _ => 0) 12) (fun c_keys_86 =>
  bd1 (f_X10_fill 17 (fun _ => 0) 12) (fun c_cells_95 =>
  some (c_widths_77, c_keys_86, c_cells_95, (fun _ => 0), c_rows_rung_40, c_rows_rowOf_40, c_rows_placeOf_40, c_rules_count_53, c_rules_firsts_53, c_rules_seconds_53, c_sights_count_66, c_sights_firsts_66, c_sights_seconds_66)))))))
noncomputable def f_X0_init : Option (Int32 × Int32) :=
  some ((-6), 0)
noncomputable def f_X1_init : Option (Int32 × Int32 × Int32 × Int32 × Int32) :=
  some (0, 0, (-6), (-6), 0)
noncomputable def f_X2_init : Option (Int64 × Int64 × (Nat → Int64)) :=
  some (0, 1, (fun _ => 0))
noncomputable def f_X3_init : Option (Int32 × (Nat → Int32) × (Nat → Int32) × (Nat → Int32)) :=
  some (0, (fun _ => 0), (fun _ => 0), (fun _ => 0))
noncomputable def f_X4_init : Option (Int32 × (Nat → Int32)) :=
  some (0, (fun _ => 0))
noncomputable def f_X6_init : Option (Int32 × Int32) :=
  some (0, 0)
noncomputable def f_X9_init : Option (Int32 × Int32 × Int32 × (Nat → Int32) × (Nat → Int32) × (Nat → Int32)) :=
  some (0, 0, 0, (fun _ => 0), (fun _ => 0), (fun _ => 0))
noncomputable def f_X10_init : Option (Int32 × (Nat → Int32) × (Nat → Int32) × (Nat → Int32) × (Nat → Int32) × Int32 × (Nat → Int32) × (Nat → Int32) × Int32 × (Nat → Int32) × (Nat → Int32) × Int32 × (Nat → Int32) × (Nat → Int32) × (Nat → Int32) × (Nat → Int32) × (Nat → Int32) × (Nat → Int32) × Int32 × (Nat → Int32) × (Nat → Int32) × Int32 × (Nat → Int32) × (Nat → Int32) × Int32 × (Nat → Int32) × (Nat → Int32) × (Nat → Int32) × (Nat → Int32) × (Nat → Int32) × (Nat → Int32) × Int32 × (Nat → Int32) × (Nat → Int32) × Int32 × (Nat → Int32) × (Nat → Int32) × Int32 × (Nat → Int32) × (Nat → Int32) × (Nat → Int32) × (Nat → Int32) × (Nat → Int32) × (Nat → Int32) × Int32 × (Nat → Int32) × (Nat → Int32) × Int32 × (Nat → Int32) × (Nat → Int32) × Int32 × (Nat → Int32) × (Nat → Int32) × Int32 × (Nat → Int32) × Int32 × Int32 × Int32 × Int32 × Int32 × Int32 × Int32 × Int32 × (Nat → Int32) × (Nat → Int32) × (Nat → Int32) × Int32 × Int32 × Int32 × (Nat → Int32) × (Nat → Int32) × (Nat → Int32) × Int32 × Int32 × Int64 × Int64 × (Nat → Int64)) :=
  bd13 (f_X8_init) (fun c_town_widths_9 c_town_keys_9 c_town_cells_9 c_town_delays_9 c_town_rows_rung_9 c_town_rows_rowOf_9 c_town_rows_placeOf_9 c_town_rules_count_9 c_town_rules_firsts_9 c_town_rules_seconds_9 c_town_sights_count_9 c_town_sights_firsts_9 c_town_sights_seconds_9 =>
  bd13 (f_X8_init) (fun c_trial_widths_20 c_trial_keys_20 c_trial_cells_20 c_trial_delays_20 c_trial_rows_rung_20 c_trial_rows_rowOf_20 c_trial_rows_placeOf_20 c_trial_rules_count_20 c_trial_rules_firsts_20 c_trial_rules_seconds_20 c_trial_sights_count_20 c_trial_sights_firsts_20 c_trial_sights_seconds_20 =>
  bd13 (f_X8_init) (fun c_firstImage_widths_31 c_firstImage_keys_31 c_firstImage_cells_31 c_firstImage_delays_31 c_firstImage_rows_rung_31 c_firstImage_rows_rowOf_31 c_firstImage_rows_placeOf_31 c_firstImage_rules_count_31 c_firstImage_rules_firsts_31 c_firstImage_rules_seconds_31 c_firstImage_sights_count_31 c_firstImage_sights_firsts_31 c_firstImage_sights_seconds_31 =>
  bd13 (f_X8_init) (fun c_secondImage_widths_42 c_secondImage_keys_42 c_secondImage_cells_42 c_secondImage_delays_42 c_secondImage_rows_rung_42 c_secondImage_rows_rowOf_42 c_secondImage_rows_placeOf_42 c_secondImage_rules_count_42 c_secondImage_rules_firsts_42 c_secondImage_rules_seconds_42 c_secondImage_sights_count_42 c_secondImage_sights_firsts_42 c_secondImage_sights_seconds_42 =>
  bd2 (f_X4_init) (fun c_pad_count_58 c_pad_signs_58 =>
  bd2 (f_X6_init) (fun c_rehearsal_acts_69 c_rehearsal_why_69 =>
  bd5 (f_X1_init) (fun c_meetings_twos_80 c_meetings_clashes_80 c_meetings_first_80 c_meetings_where_80 c_meetings_firstTurn_80 =>
  bd4 (f_X3_init) (fun c_arranging_size_91 c_arranging_crowd_91 c_arranging_costs_91 c_arranging_answers_91 =>
  bd6 (f_X9_init) (fun c_watch_count_102 c_watch_memberBits_102 c_watch_lateBits_102 c_watch_rowOf_102 c_watch_startOf_102 c_watch_tally_102 =>
  bd2 (f_X0_init) (fun c_fewest_by_113 c_fewest_count_113 =>
  bd3 (f_X2_init) (fun c_odds_upper_124 c_odds_lower_124 c_odds_weights_124 =>
  some (0, c_town_widths_9, c_town_keys_9, c_town_cells_9, c_town_delays_9, c_town_rows_rung_9, c_town_rows_rowOf_9, c_town_rows_placeOf_9, c_town_rules_count_9, c_town_rules_firsts_9, c_town_rules_seconds_9, c_town_sights_count_9, c_town_sights_firsts_9, c_town_sights_seconds_9, c_trial_widths_20, c_trial_keys_20, c_trial_cells_20, c_trial_delays_20, c_trial_rows_rung_20, c_trial_rows_rowOf_20, c_trial_rows_placeOf_20, c_trial_rules_count_20, c_trial_rules_firsts_20, c_trial_rules_seconds_20, c_trial_sights_count_20, c_trial_sights_firsts_20, c_trial_sights_seconds_20, c_firstImage_widths_31, c_firstImage_keys_31, c_firstImage_cells_31, c_firstImage_delays_31, c_firstImage_rows_rung_31, c_firstImage_rows_rowOf_31, c_firstImage_rows_placeOf_31, c_firstImage_rules_count_31, c_firstImage_rules_firsts_31, c_firstImage_rules_seconds_31, c_firstImage_sights_count_31, c_firstImage_sights_firsts_31, c_firstImage_sights_seconds_31, c_secondImage_widths_42, c_secondImage_keys_42, c_secondImage_cells_42, c_secondImage_delays_42, c_secondImage_rows_rung_42, c_secondImage_rows_rowOf_42, c_secondImage_rows_placeOf_42, c_secondImage_rules_count_42, c_secondImage_rules_firsts_42, c_secondImage_rules_seconds_42, c_secondImage_sights_count_42, c_secondImage_sights_firsts_42, c_secondImage_sights_seconds_42, c_pad_count_58, c_pad_signs_58, c_rehearsal_acts_69, c_rehearsal_why_69, c_meetings_twos_80, c_meetings_clashes_80, c_meetings_first_80, c_meetings_where_80, c_meetings_firstTurn_80, c_arranging_size_91, c_arranging_crowd_91, c_arranging_costs_91, c_arranging_answers_91, c_watch_count_102, c_watch_memberBits_102, c_watch_lateBits_102, c_watch_rowOf_102, c_watch_startOf_102, c_watch_tally_102, c_fewest_by_113, c_fewest_count_113, c_odds_upper_124, c_odds_lower_124, c_odds_weights_124))))))))))))
noncomputable def f_X11_init_b125 (l1_125 : Int32) (c_width_125 : Nat → Int32) (c_key_125 : Nat → Int32) : Option ((Int32 × (Nat → Int32) × (Nat → Int32)) ⊕ (Int32 × (Nat → Int32) × (Nat → Int32))) :=
  (if 10 ≤ l1_125 then some (.inr (l1_125, c_width_125, c_key_125))
  else gd l1_125 10 (gd l1_125 10 (some (.inl ((l1_125 + 1), (upd c_width_125 (Int32.toNatClampNeg l1_125) 5), (upd c_key_125 (Int32.toNatClampNeg l1_125) 12))))))
noncomputable def f_X11_init_b154 (l1_154 : Int32) (c_wide_154 : Nat → Int32) : Option ((Int32 × (Nat → Int32)) ⊕ (Int32 × (Nat → Int32))) :=
  (if 17 ≤ l1_154 then some (.inr (l1_154, c_wide_154))
  else gd l1_154 17 (some (.inl ((l1_154 + 1), (upd c_wide_154 (Int32.toNatClampNeg l1_154) 12)))))
noncomputable def f_X11_init : Option (Int32 × Int32 × Int32 × Int32 × Int32 × Int32 × Int32 × Int32 × Int32 × Int32 × Int32 × Int32 × Int32 × Int32 × Int32 × (Nat → Int32) × (Nat → Int32) × (Nat → Int32) × (Nat → Int32) × (Nat → Int32) × (Nat → Int32) × (Nat → Int32) × (Nat → Int32) × (Nat → Int32) × (Nat → Int32) × (Nat → Int32) × (Nat → Int32) × (Nat → Int64) × (Nat → Int32) × (Nat → Int32)) :=
  bd3 (loopN (fun (q : Int32 × (Nat → Int32) × (Nat → Int32)) => f_X11_init_b125 q.1 q.2.1 q.2.2) FU (0, (fun _ => 0), (fun _ => 0))) (fun l1_125x c_width_125x c_key_125x =>
  bd2 (loopN (fun (q : Int32 × (Nat → Int32)) => f_X11_init_b154 q.1 q.2) FU (0, (fun _ => 0))) (fun l1_154x c_wide_154x =>
  some (0, 0, 0, 0, 0, 0, 0, 0, 0, 0, 0, 0, 0, 0, 0, (fun _ => 0), (fun _ => 0), c_width_125x, c_key_125x, c_wide_154x, (fun _ => 0), (fun _ => 0), (fun _ => 0), (fun _ => 0), (fun _ => 0), (fun _ => 0), (fun _ => 0), (fun _ => 0), (fun _ => 0), (fun _ => 0))))
