section LAWOP
variable {p : Program} {l : Launch} {e : Env} {s : State} {m : MethodId} {below : List Frame} {meth : Method} {c : Code} {Q : State → Prop}
variable {b L : Nat} {xs : Nat → Int32} {dC : Nat → ClassId} {dI : Nat → Nat → Nat} {cI cJ cZ : ClassId} {tb h0 g0 : Nat} {a g : Nat → Nat}
set_option maxRecDepth 100000 in
set_option maxHeartbeats 4000000 in
theorem op_runs (S : CallFix p m c cL_law 4 s #[Value.ref b] wsL_law RL) (hX : va_X b L xs s s.heap) (hbl : b < s.heap.size) (hL : L ≤ 2048) (hK : va_K (dC, dI) vwCl (TY cI cJ cZ) s) (hN : NW s) (hTab : TAB (fun q : Nat => s.heap.size ≤ q) tb s s.heap) {H : Heap} {locs : List Loc} {ws : va_W} (hR : RelW cI cJ cZ h0 a g0 g ws) (hP : va_P (dC, dI) vwCl ws H) (hD : va_D (fun q : Nat => s.heap.size ≤ q) ws) (hS : va_S (fun q : Nat => s.heap.size ≤ q) s.heap H locs) {ls : Array Slot} {i : Nat} (hi : i + 4 ≤ L) (hl : lv_has ls 4 [(0, .ref b), (1, .ref h0), (2, .ref g0), (3, .int (nI i))])
    (kk : ∀ (H : Heap) (locs : List Loc) (ws : va_W), RelW cI cJ cZ h0 a g0 g ws → va_P (dC, dI) vwCl ws H → va_D (fun q : Nat => s.heap.size ≤ q) ws → va_S (fun q : Nat => s.heap.size ≤ q) s.heap H locs → W p l e room_1 s m #[Value.ref b] below meth c H locs 88 1442 Q (F0 m 912 ls [])) : W p l e room_1 s m #[Value.ref b] below meth c H locs 88 1442 Q (F0 m 460 ls []) := by
  obtain ⟨hx, hb, hml, hown, hts⟩ := id S
  have hA : ∀ q : Nat, s.heap.size ≤ q → (fun q : Nat => s.heap.size ≤ q) q := fun _ h => h
  have hbA : ¬ (fun q : Nat => s.heap.size ≤ q) b := Nat.not_le.mpr hbl
  obtain ⟨n, P, kept, T, U, V0, V1, ps, ac, wy, m1, m2, m3, m4, m5, s0, cr, cs, an, w1, w2, w3, ra, sa, ta, f1, f2, up, lo, wt, M, now, rz, am, n1, n2, n3, n4, n5, n6, n7, n8, n9, n10, pm, ct, io, wl, I, Kp, hT, hI, hp, rfl⟩ := hR
  obtain ⟨r, hf, hg⟩ := s_runs hT
  refine lv_aload_n hx hb dL_law_460 rfl (lv_at hl 1 rfl) ?_
  refine kSi (rV (C := RX10) [] [] S (c_X10_runs l dC dI cI cJ cZ h0 (a 0) (a 4) (a 5) (a 6) (a 14) (a 28) (a 42) (a 56) (a 58) (a 59) (a 60) (a 64) (a 68) (a 69) (a 1) (a 2) (a 3) (a 8) (a 11) (a 7) H.size kept T.d T.b T.ro r hf) (cwV 0 hts gL_law_X10_runs rfl rfl rfl (by decide +kernel) ⟨Nat.le_of_ble_eq_true rfl, Nat.le_of_ble_eq_true rfl⟩) (va_recv hK hP (ci := 10) (q0 := 0) rfl rfl) hP hD hK hN [0, 1, 5, 6, 7] rfl (by decide +kernel) rfl hl.1 rfl (Nat.le_of_ble_eq_true rfl) dL_law_461 ⟨Nat.le_of_ble_eq_true rfl, Nat.le_of_ble_eq_true rfl⟩) ?_
  refine lv_aload_n hx hb dL_law_464 rfl (lv_at hl 2 rfl) ?_
  refine kSi (rV (C := RX11) [] [.int r] S (c_X11_runs l dC dI cI cJ cZ g0 (g 0) (g 5) (g 1) (g 2) (g 3) (g 4) (g 6) (g 7) (g 8) (g 9) (g 10) (g 11) (g 12) (g 13) (g 14) H.size M.rn M.sn (iZ (n : Int)) rz am n1 n2 n3 n4 n5 n6 n7 n8 n9 n10 M.bk M.dl r hg) (cwV 0 hts gL_law_X11_runs rfl rfl rfl (by decide +kernel) ⟨Nat.le_of_ble_eq_true rfl, Nat.le_of_ble_eq_true rfl⟩) (va_recv hK hP (ci := 11) (q0 := 72) rfl rfl) hP hD hK hN [72, 73, 78] rfl (by decide +kernel) rfl hl.1 rfl (Nat.le_of_ble_eq_true rfl) dL_law_465 ⟨Nat.le_of_ble_eq_true rfl, Nat.le_of_ble_eq_true rfl⟩) ?_
  refine lv_icmp_eq (tgt := 912) hx hb dL_law_468 (by decide) (fun _ => ?_) (fun h9 => absurd rfl h9)
  exact kk H locs _ ⟨n, P, kept, T, U, V0, V1, ps, ac, wy, m1, m2, m3, m4, m5, s0, cr, cs, an, w1, w2, w3, ra, sa, ta, f1, f2, up, lo, wt, M, now, rz, am, n1, n2, n3, n4, n5, n6, n7, n8, n9, n10, pm, ct, io, wl, I, Kp, hT, hI, hp, rfl⟩ hP hD hS
set_option maxRecDepth 100000 in
set_option maxHeartbeats 4000000 in
theorem op_order (S : CallFix p m c cL_law 4 s #[Value.ref b] wsL_law RL) (hX : va_X b L xs s s.heap) (hbl : b < s.heap.size) (hL : L ≤ 2048) (hK : va_K (dC, dI) vwCl (TY cI cJ cZ) s) (hN : NW s) (hTab : TAB (fun q : Nat => s.heap.size ≤ q) tb s s.heap) {H : Heap} {locs : List Loc} {ws : va_W} (hR : RelW cI cJ cZ h0 a g0 g ws) (hP : va_P (dC, dI) vwCl ws H) (hD : va_D (fun q : Nat => s.heap.size ≤ q) ws) (hS : va_S (fun q : Nat => s.heap.size ≤ q) s.heap H locs) {ls : Array Slot} {i : Nat} (hi : i + 4 ≤ L) (hl : lv_has ls 4 [(0, .ref b), (1, .ref h0), (2, .ref g0), (3, .int (nI i))])
    (kk : ∀ (H : Heap) (locs : List Loc) (ws : va_W), RelW cI cJ cZ h0 a g0 g ws → va_P (dC, dI) vwCl ws H → va_D (fun q : Nat => s.heap.size ≤ q) ws → va_S (fun q : Nat => s.heap.size ≤ q) s.heap H locs → W p l e room_1 s m #[Value.ref b] below meth c H locs 88 1442 Q (F0 m 912 ls [])) : W p l e room_1 s m #[Value.ref b] below meth c H locs 88 1442 Q (F0 m 473 ls []) := by
  obtain ⟨hx, hb, hml, hown, hts⟩ := id S
  have hA : ∀ q : Nat, s.heap.size ≤ q → (fun q : Nat => s.heap.size ≤ q) q := fun _ h => h
  have hbA : ¬ (fun q : Nat => s.heap.size ≤ q) b := Nat.not_le.mpr hbl
  obtain ⟨n, P, kept, T, U, V0, V1, ps, ac, wy, m1, m2, m3, m4, m5, s0, cr, cs, an, w1, w2, w3, ra, sa, ta, f1, f2, up, lo, wt, M, now, rz, am, n1, n2, n3, n4, n5, n6, n7, n8, n9, n10, pm, ct, io, wl, I, Kp, hT, hI, hp, rfl⟩ := hR
  obtain ⟨r, t, q, hf, hg⟩ := order_both hT s0 cr cs an n1 n2 n3 n4 n5 n6 n7 n8 n9 n10 now (xs (nI i + 1).toNatClampNeg) (xs (nI i + 2).toNatClampNeg)
  obtain ⟨z0, z1, z2, z3⟩ := t
  obtain ⟨y0, y1, y2, y3, y4, y5, y6, y7, y8, y9, y10⟩ := q
  refine lv_aload_n hx hb dL_law_473 rfl (lv_at hl 1 rfl) ?_
  refine lv_aload_n hx hb dL_law_474 rfl (lv_at hl 0 rfl) ?_
  refine lv_iload_n hx hb dL_law_475 rfl (lv_at hl 3 rfl) ?_
  refine lv_iconst (v := 1) hx hb dL_law_476 (by decide) ?_
  refine lv_iadd hx hb dL_law_477 ?_
  refine va_sld hx hb hX hbl hbA hS (vin1 hi hL) dL_law_478 ?_
  refine lv_aload_n hx hb dL_law_479 rfl (lv_at hl 0 rfl) ?_
  refine lv_iload_n hx hb dL_law_480 rfl (lv_at hl 3 rfl) ?_
  refine lv_iconst (v := 2) hx hb dL_law_481 (by decide) ?_
  refine lv_iadd hx hb dL_law_482 ?_
  refine va_sld hx hb hX hbl hbA hS (vin2 hi hL) dL_law_483 ?_
  refine kWi (rV (C := RX10) [.int (xs (nI i + 1).toNatClampNeg), .int (xs (nI i + 2).toNatClampNeg)] [] S (c_X10_order l dC dI cI cJ cZ h0 (a 0) (a 1) (a 3) (a 4) (a 5) (a 6) (a 7) (a 60) (a 61) (a 62) (a 63) (a 14) (a 28) (a 42) (a 56) (a 58) (a 59) (a 64) (a 68) (a 69) (a 2) (a 8) (a 11) H.size kept T.w T.c T.d T.b T.ro T.pl s0 cr cs an (xs (nI i + 1).toNatClampNeg) (xs (nI i + 2).toNatClampNeg) r z0 z1 z2 z3 hf) (cwV 2 hts gL_law_X10_order rfl rfl rfl (by decide +kernel) ⟨Nat.le_of_ble_eq_true rfl, Nat.le_of_ble_eq_true rfl⟩) (va_recv hK hP (ci := 10) (q0 := 0) rfl rfl) hP hD hK hN [0, 1, 2, 4, 5, 6, 7, 8, 61, 62, 63, 64] rfl (by decide +kernel) rfl hl.1 rfl (Nat.le_of_ble_eq_true rfl) dL_law_484 ⟨Nat.le_of_ble_eq_true rfl, Nat.le_of_ble_eq_true rfl⟩) hP hD hS hA [0, 1, 2, 4, 5, 6, 7, 8, 61, 62, 63, 64] rfl rfl [some 0, some 1, some 2, none, some 3, some 4, some 5, some 6, some 7, none, none, none, none, none, none, none, none, none, none, none, none, none, none, none, none, none, none, none, none, none, none, none, none, none, none, none, none, none, none, none, none, none, none, none, none, none, none, none, none, none, none, none, none, none, none, none, none, none, none, none, none, some 8, some 9, some 10, some 11, none, none, none, none, none, none, none, none, none, none, none, none, none, none, none, none, none, none, none, none, none, none, none] (by decide +kernel) rfl (fun H locs hP hD hS => ?_)
  have hP : va_P (dC, dI) vwCl (WW cI cJ cZ h0 a g0 g kept T U V0 V1 (iZ (n : Int)) ps ac wy m1 m2 m3 m4 m5 z0 z1 z2 z3 w1 w2 w3 ra sa ta f1 f2 up lo wt M now rz am n1 n2 n3 n4 n5 n6 n7 n8 n9 n10 (iZ (n : Int)) pm ct io wl I Kp) H := hP
  have hD : va_D (fun q : Nat => s.heap.size ≤ q) (WW cI cJ cZ h0 a g0 g kept T U V0 V1 (iZ (n : Int)) ps ac wy m1 m2 m3 m4 m5 z0 z1 z2 z3 w1 w2 w3 ra sa ta f1 f2 up lo wt M now rz am n1 n2 n3 n4 n5 n6 n7 n8 n9 n10 (iZ (n : Int)) pm ct io wl I Kp) := hD
  refine lv_aload_n hx hb dL_law_487 rfl (lv_at hl 2 rfl) ?_
  refine lv_aload_n hx hb dL_law_488 rfl (lv_at hl 0 rfl) ?_
  refine lv_iload_n hx hb dL_law_489 rfl (lv_at hl 3 rfl) ?_
  refine lv_iconst (v := 1) hx hb dL_law_490 (by decide) ?_
  refine lv_iadd hx hb dL_law_491 ?_
  refine va_sld hx hb hX hbl hbA hS (vin1 hi hL) dL_law_492 ?_
  refine lv_aload_n hx hb dL_law_493 rfl (lv_at hl 0 rfl) ?_
  refine lv_iload_n hx hb dL_law_494 rfl (lv_at hl 3 rfl) ?_
  refine lv_iconst (v := 2) hx hb dL_law_495 (by decide) ?_
  refine lv_iadd hx hb dL_law_496 ?_
  refine va_sld hx hb hX hbl hbA hS (vin2 hi hL) dL_law_497 ?_
  refine kWi (rV (C := RX11) [.int (xs (nI i + 1).toNatClampNeg), .int (xs (nI i + 2).toNatClampNeg)] [.int r] S (c_X11_order l dC dI cI cJ cZ g0 (g 0) (g 1) (g 2) (g 4) (g 5) (g 6) (g 7) (g 3) (g 8) (g 9) (g 10) (g 11) (g 12) (g 13) (g 14) H.size M.rn M.sn (iZ (n : Int)) rz am n1 n2 n3 n4 n5 n6 n7 n8 n9 n10 M.bk now M.wd M.wi M.dl M.ah M.af (xs (nI i + 1).toNatClampNeg) (xs (nI i + 2).toNatClampNeg) r y0 y1 y2 y3 y4 y5 y6 y7 y8 y9 y10 hg) (cwV 2 hts gL_law_X11_order rfl rfl rfl (by decide +kernel) ⟨Nat.le_of_ble_eq_true rfl, Nat.le_of_ble_eq_true rfl⟩) (va_recv hK hP (ci := 11) (q0 := 72) rfl rfl) hP hD hK hN [72, 73, 74, 75, 77, 78, 79, 80] rfl (by decide +kernel) rfl hl.1 rfl (Nat.le_of_ble_eq_true rfl) dL_law_498 ⟨Nat.le_of_ble_eq_true rfl, Nat.le_of_ble_eq_true rfl⟩) hP hD hS hA [72, 73, 74, 75, 77, 78, 79, 80] rfl rfl [none, none, none, none, none, none, none, none, none, none, none, none, none, none, none, none, none, none, none, none, none, none, none, none, none, none, none, none, none, none, none, none, none, none, none, none, none, none, none, none, none, none, none, none, none, none, none, none, none, none, none, none, none, none, none, none, none, none, none, none, none, none, none, none, none, none, none, none, none, none, none, none, some 0, some 1, some 2, some 3, none, some 4, some 5, some 6, some 7, none, none, none, none, none, none, none] (by decide +kernel) rfl (fun H locs hP hD hS => ?_)
  have hP : va_P (dC, dI) vwCl (WW cI cJ cZ h0 a g0 g kept T U V0 V1 (iZ (n : Int)) ps ac wy m1 m2 m3 m4 m5 z0 z1 z2 z3 w1 w2 w3 ra sa ta f1 f2 up lo wt M y10 rz am y0 y1 y2 y3 y4 y5 y6 y7 y8 y9 (iZ (n : Int)) pm ct io wl I Kp) H := hP
  have hD : va_D (fun q : Nat => s.heap.size ≤ q) (WW cI cJ cZ h0 a g0 g kept T U V0 V1 (iZ (n : Int)) ps ac wy m1 m2 m3 m4 m5 z0 z1 z2 z3 w1 w2 w3 ra sa ta f1 f2 up lo wt M y10 rz am y0 y1 y2 y3 y4 y5 y6 y7 y8 y9 (iZ (n : Int)) pm ct io wl I Kp) := hD
  refine lv_icmp_eq (tgt := 912) hx hb dL_law_501 (by decide) (fun _ => ?_) (fun h9 => absurd rfl h9)
  exact kk H locs _ ⟨n, P, kept, T, U, V0, V1, ps, ac, wy, m1, m2, m3, m4, m5, z0, z1, z2, z3, w1, w2, w3, ra, sa, ta, f1, f2, up, lo, wt, M, y10, rz, am, y0, y1, y2, y3, y4, y5, y6, y7, y8, y9, pm, ct, io, wl, I, Kp, hT, hI, hp, rfl⟩ hP hD hS
set_option maxRecDepth 100000 in
set_option maxHeartbeats 4000000 in
theorem op_start (S : CallFix p m c cL_law 4 s #[Value.ref b] wsL_law RL) (hX : va_X b L xs s s.heap) (hbl : b < s.heap.size) (hL : L ≤ 2048) (hK : va_K (dC, dI) vwCl (TY cI cJ cZ) s) (hN : NW s) (hTab : TAB (fun q : Nat => s.heap.size ≤ q) tb s s.heap) {H : Heap} {locs : List Loc} {ws : va_W} (hR : RelW cI cJ cZ h0 a g0 g ws) (hP : va_P (dC, dI) vwCl ws H) (hD : va_D (fun q : Nat => s.heap.size ≤ q) ws) (hS : va_S (fun q : Nat => s.heap.size ≤ q) s.heap H locs) {ls : Array Slot} {i : Nat} (hi : i + 4 ≤ L) (hl : lv_has ls 4 [(0, .ref b), (1, .ref h0), (2, .ref g0), (3, .int (nI i))])
    (kk : ∀ (H : Heap) (locs : List Loc) (ws : va_W), RelW cI cJ cZ h0 a g0 g ws → va_P (dC, dI) vwCl ws H → va_D (fun q : Nat => s.heap.size ≤ q) ws → va_S (fun q : Nat => s.heap.size ≤ q) s.heap H locs → W p l e room_1 s m #[Value.ref b] below meth c H locs 88 1442 Q (F0 m 912 ls [])) : W p l e room_1 s m #[Value.ref b] below meth c H locs 88 1442 Q (F0 m 506 ls []) := by
  obtain ⟨hx, hb, hml, hown, hts⟩ := id S
  have hA : ∀ q : Nat, s.heap.size ≤ q → (fun q : Nat => s.heap.size ≤ q) q := fun _ h => h
  have hbA : ¬ (fun q : Nat => s.heap.size ≤ q) b := Nat.not_le.mpr hbl
  obtain ⟨n, P, kept, T, U, V0, V1, ps, ac, wy, m1, m2, m3, m4, m5, s0, cr, cs, an, w1, w2, w3, ra, sa, ta, f1, f2, up, lo, wt, M, now, rz, am, n1, n2, n3, n4, n5, n6, n7, n8, n9, n10, pm, ct, io, wl, I, Kp, hT, hI, hp, rfl⟩ := hR
  obtain ⟨r, t, y0, y1, y2, y3, y4, y5, y6, y7, hf, hg, hT2⟩ := start_both (U := U) hT m1 m2 m3 m4 m5 f1 f2 n1 n2 n3 n4 n5 n6 now (xs (nI i + 1).toNatClampNeg)
  obtain ⟨z0, z1, z2, z3, z4, z5, z6, z7, z8, z9, z10, z11, z12, z13, z14, z15, z16, z17, z18, z19⟩ := t
  refine lv_aload_n hx hb dL_law_506 rfl (lv_at hl 1 rfl) ?_
  refine lv_aload_n hx hb dL_law_507 rfl (lv_at hl 0 rfl) ?_
  refine lv_iload_n hx hb dL_law_508 rfl (lv_at hl 3 rfl) ?_
  refine lv_iconst (v := 1) hx hb dL_law_509 (by decide) ?_
  refine lv_iadd hx hb dL_law_510 ?_
  refine va_sld hx hb hX hbl hbA hS (vin1 hi hL) dL_law_511 ?_
  refine kWi (rV (C := RX10) [.int (xs (nI i + 1).toNatClampNeg)] [] S (c_X10_start l dC dI cI cJ cZ h0 (a 0) (a 1) (a 2) (a 3) (a 4) (a 5) (a 6) (a 7) (a 8) (a 9) (a 10) (a 11) (a 12) (a 13) (a 14) (a 15) (a 16) (a 17) (a 18) (a 19) (a 20) (a 21) (a 22) (a 23) (a 24) (a 25) (a 26) (a 27) (a 59) (a 68) (a 28) (a 42) (a 56) (a 58) (a 60) (a 64) (a 69) H.size kept T.w T.k T.c T.d T.b T.ro T.pl T.rc T.rf T.rs T.sc T.sf T.ss U.w U.k U.c U.d U.b U.ro U.pl U.rc U.rf U.rs U.sc U.sf U.ss m1 m2 m3 m4 m5 f1 f2 (xs (nI i + 1).toNatClampNeg) r z0 z1 z2 z3 z4 z5 z6 z7 z8 z9 z10 z11 z12 z13 z14 z15 z16 z17 z18 z19 hf) (cwV 1 hts gL_law_X10_start rfl rfl rfl (by decide +kernel) ⟨Nat.le_of_ble_eq_true rfl, Nat.le_of_ble_eq_true rfl⟩) (va_recv hK hP (ci := 10) (q0 := 0) rfl rfl) hP hD hK hN [0, 1, 2, 3, 4, 5, 6, 7, 8, 9, 10, 11, 12, 13, 14, 15, 16, 17, 18, 19, 20, 21, 22, 23, 24, 25, 26, 27, 28, 60, 69] rfl (by decide +kernel) rfl hl.1 rfl (Nat.le_of_ble_eq_true rfl) dL_law_512 ⟨Nat.le_of_ble_eq_true rfl, Nat.le_of_ble_eq_true rfl⟩) hP hD hS hA [0, 1, 2, 3, 4, 5, 6, 7, 8, 9, 10, 11, 12, 13, 14, 15, 16, 17, 18, 19, 20, 21, 22, 23, 24, 25, 26, 27, 28, 60, 69] rfl rfl [some 0, some 1, some 2, some 3, some 4, some 5, some 6, some 7, some 8, some 9, some 10, some 11, some 12, some 13, some 14, some 15, some 16, some 17, some 18, some 19, some 20, some 21, some 22, some 23, some 24, some 25, some 26, some 27, some 28, none, none, none, none, none, none, none, none, none, none, none, none, none, none, none, none, none, none, none, none, none, none, none, none, none, none, none, none, none, none, none, some 29, none, none, none, none, none, none, none, none, some 30, none, none, none, none, none, none, none, none, none, none, none, none, none, none, none, none, none, none] (by decide +kernel) rfl (fun H locs hP hD hS => ?_)
  have hP : va_P (dC, dI) vwCl (WW cI cJ cZ h0 a g0 g kept T ((z0, z1, z2, z3, z4, z5, z6, z7, z8, z9, z10, z11, z12)) V0 V1 (iZ (n : Int)) ps ac wy z13 z14 z15 z16 z17 s0 cr cs an w1 w2 w3 ra sa ta z18 z19 up lo wt M now rz am n1 n2 n3 n4 n5 n6 n7 n8 n9 n10 (iZ (n : Int)) pm ct io wl I Kp) H := hP
  have hD : va_D (fun q : Nat => s.heap.size ≤ q) (WW cI cJ cZ h0 a g0 g kept T ((z0, z1, z2, z3, z4, z5, z6, z7, z8, z9, z10, z11, z12)) V0 V1 (iZ (n : Int)) ps ac wy z13 z14 z15 z16 z17 s0 cr cs an w1 w2 w3 ra sa ta z18 z19 up lo wt M now rz am n1 n2 n3 n4 n5 n6 n7 n8 n9 n10 (iZ (n : Int)) pm ct io wl I Kp) := hD
  refine lv_aload_n hx hb dL_law_515 rfl (lv_at hl 2 rfl) ?_
  refine lv_aload_n hx hb dL_law_516 rfl (lv_at hl 0 rfl) ?_
  refine lv_iload_n hx hb dL_law_517 rfl (lv_at hl 3 rfl) ?_
  refine lv_iconst (v := 1) hx hb dL_law_518 (by decide) ?_
  refine lv_iadd hx hb dL_law_519 ?_
  refine va_sld hx hb hX hbl hbA hS (vin1 hi hL) dL_law_520 ?_
  refine kWi (rV (C := RX11) [.int (xs (nI i + 1).toNatClampNeg)] [.int r] S (c_X11_start l dC dI cI cJ cZ g0 (g 0) (g 1) (g 2) (g 4) (g 5) (g 3) (g 6) (g 7) (g 8) (g 9) (g 10) (g 11) (g 12) (g 13) (g 14) H.size M.rn M.sn (iZ (n : Int)) rz am n1 n2 n3 n4 n5 n6 n7 n8 n9 n10 M.bk now M.wd M.wi M.dl (xs (nI i + 1).toNatClampNeg) r y0 y1 y2 y3 y4 y5 y6 y7 hg) (cwV 1 hts gL_law_X11_start rfl rfl rfl (by decide +kernel) ⟨Nat.le_of_ble_eq_true rfl, Nat.le_of_ble_eq_true rfl⟩) (va_recv hK hP (ci := 11) (q0 := 72) rfl rfl) hP hD hK hN [72, 73, 74, 75, 77, 78] rfl (by decide +kernel) rfl hl.1 rfl (Nat.le_of_ble_eq_true rfl) dL_law_521 ⟨Nat.le_of_ble_eq_true rfl, Nat.le_of_ble_eq_true rfl⟩) hP hD hS hA [72, 73, 74, 75, 77, 78] rfl rfl [none, none, none, none, none, none, none, none, none, none, none, none, none, none, none, none, none, none, none, none, none, none, none, none, none, none, none, none, none, none, none, none, none, none, none, none, none, none, none, none, none, none, none, none, none, none, none, none, none, none, none, none, none, none, none, none, none, none, none, none, none, none, none, none, none, none, none, none, none, none, none, none, some 0, some 1, some 2, some 3, none, some 4, some 5, none, none, none, none, none, none, none, none, none] (by decide +kernel) rfl (fun H locs hP hD hS => ?_)
  have hP : va_P (dC, dI) vwCl (WW cI cJ cZ h0 a g0 g kept T ((z0, z1, z2, z3, z4, z5, z6, z7, z8, z9, z10, z11, z12)) V0 V1 (iZ (n : Int)) ps ac wy z13 z14 z15 z16 z17 s0 cr cs an w1 w2 w3 ra sa ta z18 z19 up lo wt ((M.bk, M.wd, M.ky, M.wi, y7, M.rn, M.ah, M.af, M.sn, M.si)) y6 rz am y0 y1 y2 y3 y4 y5 n7 n8 n9 n10 (iZ (n : Int)) pm ct io wl I Kp) H := hP
  have hD : va_D (fun q : Nat => s.heap.size ≤ q) (WW cI cJ cZ h0 a g0 g kept T ((z0, z1, z2, z3, z4, z5, z6, z7, z8, z9, z10, z11, z12)) V0 V1 (iZ (n : Int)) ps ac wy z13 z14 z15 z16 z17 s0 cr cs an w1 w2 w3 ra sa ta z18 z19 up lo wt ((M.bk, M.wd, M.ky, M.wi, y7, M.rn, M.ah, M.af, M.sn, M.si)) y6 rz am y0 y1 y2 y3 y4 y5 n7 n8 n9 n10 (iZ (n : Int)) pm ct io wl I Kp) := hD
  refine lv_icmp_eq (tgt := 912) hx hb dL_law_524 (by decide) (fun _ => ?_) (fun h9 => absurd rfl h9)
  exact kk H locs _ ⟨n, P, kept, T, (z0, z1, z2, z3, z4, z5, z6, z7, z8, z9, z10, z11, z12), V0, V1, ps, ac, wy, z13, z14, z15, z16, z17, s0, cr, cs, an, w1, w2, w3, ra, sa, ta, z18, z19, up, lo, wt, (M.bk, M.wd, M.ky, M.wi, y7, M.rn, M.ah, M.af, M.sn, M.si), y6, rz, am, y0, y1, y2, y3, y4, y5, n7, n8, n9, n10, pm, ct, io, wl, I, Kp, hT2, hI, hp, rfl⟩ hP hD hS
set_option maxRecDepth 100000 in
set_option maxHeartbeats 4000000 in
theorem op_door (S : CallFix p m c cL_law 4 s #[Value.ref b] wsL_law RL) (hX : va_X b L xs s s.heap) (hbl : b < s.heap.size) (hL : L ≤ 2048) (hK : va_K (dC, dI) vwCl (TY cI cJ cZ) s) (hN : NW s) (hTab : TAB (fun q : Nat => s.heap.size ≤ q) tb s s.heap) {H : Heap} {locs : List Loc} {ws : va_W} (hR : RelW cI cJ cZ h0 a g0 g ws) (hP : va_P (dC, dI) vwCl ws H) (hD : va_D (fun q : Nat => s.heap.size ≤ q) ws) (hS : va_S (fun q : Nat => s.heap.size ≤ q) s.heap H locs) {ls : Array Slot} {i : Nat} (hi : i + 4 ≤ L) (hl : lv_has ls 4 [(0, .ref b), (1, .ref h0), (2, .ref g0), (3, .int (nI i))])
    (kk : ∀ (H : Heap) (locs : List Loc) (ws : va_W), RelW cI cJ cZ h0 a g0 g ws → va_P (dC, dI) vwCl ws H → va_D (fun q : Nat => s.heap.size ≤ q) ws → va_S (fun q : Nat => s.heap.size ≤ q) s.heap H locs → W p l e room_1 s m #[Value.ref b] below meth c H locs 88 1442 Q (F0 m 912 ls [])) : W p l e room_1 s m #[Value.ref b] below meth c H locs 88 1442 Q (F0 m 529 ls []) := by
  obtain ⟨hx, hb, hml, hown, hts⟩ := id S
  have hA : ∀ q : Nat, s.heap.size ≤ q → (fun q : Nat => s.heap.size ≤ q) q := fun _ h => h
  have hbA : ¬ (fun q : Nat => s.heap.size ≤ q) b := Nat.not_le.mpr hbl
  obtain ⟨n, P, kept, T, U, V0, V1, ps, ac, wy, m1, m2, m3, m4, m5, s0, cr, cs, an, w1, w2, w3, ra, sa, ta, f1, f2, up, lo, wt, M, now, rz, am, n1, n2, n3, n4, n5, n6, n7, n8, n9, n10, pm, ct, io, wl, I, Kp, hT, hI, hp, rfl⟩ := hR
  obtain ⟨r, t, q, hf, hg⟩ := door_both (U := U) hT m1 m2 m3 m4 m5 f1 f2 n1 n2 n3 n4 n5 n6 now (xs (nI i + 1).toNatClampNeg) (xs (nI i + 2).toNatClampNeg)
  obtain ⟨z0, z1, z2, z3, z4, z5, z6, z7, z8, z9, z10, z11, z12, z13, z14, z15, z16, z17, z18, z19⟩ := t
  obtain ⟨y0, y1, y2, y3, y4, y5, y6⟩ := q
  refine lv_aload_n hx hb dL_law_529 rfl (lv_at hl 1 rfl) ?_
  refine lv_aload_n hx hb dL_law_530 rfl (lv_at hl 0 rfl) ?_
  refine lv_iload_n hx hb dL_law_531 rfl (lv_at hl 3 rfl) ?_
  refine lv_iconst (v := 1) hx hb dL_law_532 (by decide) ?_
  refine lv_iadd hx hb dL_law_533 ?_
  refine va_sld hx hb hX hbl hbA hS (vin1 hi hL) dL_law_534 ?_
  refine lv_aload_n hx hb dL_law_535 rfl (lv_at hl 0 rfl) ?_
  refine lv_iload_n hx hb dL_law_536 rfl (lv_at hl 3 rfl) ?_
  refine lv_iconst (v := 2) hx hb dL_law_537 (by decide) ?_
  refine lv_iadd hx hb dL_law_538 ?_
  refine va_sld hx hb hX hbl hbA hS (vin2 hi hL) dL_law_539 ?_
  refine kWi (rV (C := RX10) [.int (xs (nI i + 1).toNatClampNeg), .int (xs (nI i + 2).toNatClampNeg)] [] S (c_X10_door l dC dI cI cJ cZ h0 (a 0) (a 1) (a 2) (a 3) (a 4) (a 5) (a 6) (a 7) (a 8) (a 9) (a 10) (a 11) (a 12) (a 13) (a 14) (a 15) (a 16) (a 17) (a 18) (a 19) (a 20) (a 21) (a 22) (a 23) (a 24) (a 25) (a 26) (a 27) (a 59) (a 68) (a 28) (a 42) (a 56) (a 58) (a 60) (a 64) (a 69) H.size kept T.w T.k T.c T.d T.b T.ro T.pl T.rc T.rf T.rs T.sc T.sf T.ss U.w U.k U.c U.d U.b U.ro U.pl U.rc U.rf U.rs U.sc U.sf U.ss m1 m2 m3 m4 m5 f1 f2 (xs (nI i + 1).toNatClampNeg) (xs (nI i + 2).toNatClampNeg) r z0 z1 z2 z3 z4 z5 z6 z7 z8 z9 z10 z11 z12 z13 z14 z15 z16 z17 z18 z19 hf) (cwV 2 hts gL_law_X10_door rfl rfl rfl (by decide +kernel) ⟨Nat.le_of_ble_eq_true rfl, Nat.le_of_ble_eq_true rfl⟩) (va_recv hK hP (ci := 10) (q0 := 0) rfl rfl) hP hD hK hN [0, 1, 2, 3, 4, 5, 6, 7, 8, 9, 10, 11, 12, 13, 14, 15, 16, 17, 18, 19, 20, 21, 22, 23, 24, 25, 26, 27, 28, 60, 69] rfl (by decide +kernel) rfl hl.1 rfl (Nat.le_of_ble_eq_true rfl) dL_law_540 ⟨Nat.le_of_ble_eq_true rfl, Nat.le_of_ble_eq_true rfl⟩) hP hD hS hA [0, 1, 2, 3, 4, 5, 6, 7, 8, 9, 10, 11, 12, 13, 14, 15, 16, 17, 18, 19, 20, 21, 22, 23, 24, 25, 26, 27, 28, 60, 69] rfl rfl [some 0, some 1, some 2, some 3, some 4, some 5, some 6, some 7, some 8, some 9, some 10, some 11, some 12, some 13, some 14, some 15, some 16, some 17, some 18, some 19, some 20, some 21, some 22, some 23, some 24, some 25, some 26, some 27, some 28, none, none, none, none, none, none, none, none, none, none, none, none, none, none, none, none, none, none, none, none, none, none, none, none, none, none, none, none, none, none, none, some 29, none, none, none, none, none, none, none, none, some 30, none, none, none, none, none, none, none, none, none, none, none, none, none, none, none, none, none, none] (by decide +kernel) rfl (fun H locs hP hD hS => ?_)
  have hP : va_P (dC, dI) vwCl (WW cI cJ cZ h0 a g0 g kept T ((z0, z1, z2, z3, z4, z5, z6, z7, z8, z9, z10, z11, z12)) V0 V1 (iZ (n : Int)) ps ac wy z13 z14 z15 z16 z17 s0 cr cs an w1 w2 w3 ra sa ta z18 z19 up lo wt M now rz am n1 n2 n3 n4 n5 n6 n7 n8 n9 n10 (iZ (n : Int)) pm ct io wl I Kp) H := hP
  have hD : va_D (fun q : Nat => s.heap.size ≤ q) (WW cI cJ cZ h0 a g0 g kept T ((z0, z1, z2, z3, z4, z5, z6, z7, z8, z9, z10, z11, z12)) V0 V1 (iZ (n : Int)) ps ac wy z13 z14 z15 z16 z17 s0 cr cs an w1 w2 w3 ra sa ta z18 z19 up lo wt M now rz am n1 n2 n3 n4 n5 n6 n7 n8 n9 n10 (iZ (n : Int)) pm ct io wl I Kp) := hD
  refine lv_aload_n hx hb dL_law_543 rfl (lv_at hl 2 rfl) ?_
  refine lv_aload_n hx hb dL_law_544 rfl (lv_at hl 0 rfl) ?_
  refine lv_iload_n hx hb dL_law_545 rfl (lv_at hl 3 rfl) ?_
  refine lv_iconst (v := 1) hx hb dL_law_546 (by decide) ?_
  refine lv_iadd hx hb dL_law_547 ?_
  refine va_sld hx hb hX hbl hbA hS (vin1 hi hL) dL_law_548 ?_
  refine lv_aload_n hx hb dL_law_549 rfl (lv_at hl 0 rfl) ?_
  refine lv_iload_n hx hb dL_law_550 rfl (lv_at hl 3 rfl) ?_
  refine lv_iconst (v := 2) hx hb dL_law_551 (by decide) ?_
  refine lv_iadd hx hb dL_law_552 ?_
  refine va_sld hx hb hX hbl hbA hS (vin2 hi hL) dL_law_553 ?_
  refine kWi (rV (C := RX11) [.int (xs (nI i + 1).toNatClampNeg), .int (xs (nI i + 2).toNatClampNeg)] [.int r] S (c_X11_door l dC dI cI cJ cZ g0 (g 0) (g 1) (g 2) (g 4) (g 5) (g 3) (g 6) (g 7) (g 8) (g 9) (g 10) (g 11) (g 12) (g 13) (g 14) H.size M.rn M.sn (iZ (n : Int)) rz am n1 n2 n3 n4 n5 n6 n7 n8 n9 n10 M.bk now M.wd M.wi M.dl (xs (nI i + 1).toNatClampNeg) (xs (nI i + 2).toNatClampNeg) r y0 y1 y2 y3 y4 y5 y6 hg) (cwV 2 hts gL_law_X11_door rfl rfl rfl (by decide +kernel) ⟨Nat.le_of_ble_eq_true rfl, Nat.le_of_ble_eq_true rfl⟩) (va_recv hK hP (ci := 11) (q0 := 72) rfl rfl) hP hD hK hN [72, 73, 74, 75, 77, 78] rfl (by decide +kernel) rfl hl.1 rfl (Nat.le_of_ble_eq_true rfl) dL_law_554 ⟨Nat.le_of_ble_eq_true rfl, Nat.le_of_ble_eq_true rfl⟩) hP hD hS hA [72, 73, 74, 75, 77, 78] rfl rfl [none, none, none, none, none, none, none, none, none, none, none, none, none, none, none, none, none, none, none, none, none, none, none, none, none, none, none, none, none, none, none, none, none, none, none, none, none, none, none, none, none, none, none, none, none, none, none, none, none, none, none, none, none, none, none, none, none, none, none, none, none, none, none, none, none, none, none, none, none, none, none, none, some 0, some 1, some 2, some 3, none, some 4, some 5, none, none, none, none, none, none, none, none, none] (by decide +kernel) rfl (fun H locs hP hD hS => ?_)
  have hP : va_P (dC, dI) vwCl (WW cI cJ cZ h0 a g0 g kept T ((z0, z1, z2, z3, z4, z5, z6, z7, z8, z9, z10, z11, z12)) V0 V1 (iZ (n : Int)) ps ac wy z13 z14 z15 z16 z17 s0 cr cs an w1 w2 w3 ra sa ta z18 z19 up lo wt M y6 rz am y0 y1 y2 y3 y4 y5 n7 n8 n9 n10 (iZ (n : Int)) pm ct io wl I Kp) H := hP
  have hD : va_D (fun q : Nat => s.heap.size ≤ q) (WW cI cJ cZ h0 a g0 g kept T ((z0, z1, z2, z3, z4, z5, z6, z7, z8, z9, z10, z11, z12)) V0 V1 (iZ (n : Int)) ps ac wy z13 z14 z15 z16 z17 s0 cr cs an w1 w2 w3 ra sa ta z18 z19 up lo wt M y6 rz am y0 y1 y2 y3 y4 y5 n7 n8 n9 n10 (iZ (n : Int)) pm ct io wl I Kp) := hD
  refine lv_icmp_eq (tgt := 912) hx hb dL_law_557 (by decide) (fun _ => ?_) (fun h9 => absurd rfl h9)
  exact kk H locs _ ⟨n, P, kept, T, (z0, z1, z2, z3, z4, z5, z6, z7, z8, z9, z10, z11, z12), V0, V1, ps, ac, wy, z13, z14, z15, z16, z17, s0, cr, cs, an, w1, w2, w3, ra, sa, ta, z18, z19, up, lo, wt, M, y6, rz, am, y0, y1, y2, y3, y4, y5, n7, n8, n9, n10, pm, ct, io, wl, I, Kp, hT, hI, hp, rfl⟩ hP hD hS
set_option maxRecDepth 100000 in
set_option maxHeartbeats 4000000 in
theorem op_grate (S : CallFix p m c cL_law 4 s #[Value.ref b] wsL_law RL) (hX : va_X b L xs s s.heap) (hbl : b < s.heap.size) (hL : L ≤ 2048) (hK : va_K (dC, dI) vwCl (TY cI cJ cZ) s) (hN : NW s) (hTab : TAB (fun q : Nat => s.heap.size ≤ q) tb s s.heap) {H : Heap} {locs : List Loc} {ws : va_W} (hR : RelW cI cJ cZ h0 a g0 g ws) (hP : va_P (dC, dI) vwCl ws H) (hD : va_D (fun q : Nat => s.heap.size ≤ q) ws) (hS : va_S (fun q : Nat => s.heap.size ≤ q) s.heap H locs) {ls : Array Slot} {i : Nat} (hi : i + 4 ≤ L) (hl : lv_has ls 4 [(0, .ref b), (1, .ref h0), (2, .ref g0), (3, .int (nI i))])
    (kk : ∀ (H : Heap) (locs : List Loc) (ws : va_W), RelW cI cJ cZ h0 a g0 g ws → va_P (dC, dI) vwCl ws H → va_D (fun q : Nat => s.heap.size ≤ q) ws → va_S (fun q : Nat => s.heap.size ≤ q) s.heap H locs → W p l e room_1 s m #[Value.ref b] below meth c H locs 88 1442 Q (F0 m 912 ls [])) : W p l e room_1 s m #[Value.ref b] below meth c H locs 88 1442 Q (F0 m 562 ls []) := by
  obtain ⟨hx, hb, hml, hown, hts⟩ := id S
  have hA : ∀ q : Nat, s.heap.size ≤ q → (fun q : Nat => s.heap.size ≤ q) q := fun _ h => h
  have hbA : ¬ (fun q : Nat => s.heap.size ≤ q) b := Nat.not_le.mpr hbl
  obtain ⟨n, P, kept, T, U, V0, V1, ps, ac, wy, m1, m2, m3, m4, m5, s0, cr, cs, an, w1, w2, w3, ra, sa, ta, f1, f2, up, lo, wt, M, now, rz, am, n1, n2, n3, n4, n5, n6, n7, n8, n9, n10, pm, ct, io, wl, I, Kp, hT, hI, hp, rfl⟩ := hR
  obtain ⟨r, t, q, hf, hg⟩ := grate_both hT f1 f2 n5 n6 now (xs (nI i + 1).toNatClampNeg)
  obtain ⟨z0, z1⟩ := t
  obtain ⟨y0, y1, y2⟩ := q
  refine lv_aload_n hx hb dL_law_562 rfl (lv_at hl 1 rfl) ?_
  refine lv_aload_n hx hb dL_law_563 rfl (lv_at hl 0 rfl) ?_
  refine lv_iload_n hx hb dL_law_564 rfl (lv_at hl 3 rfl) ?_
  refine lv_iconst (v := 1) hx hb dL_law_565 (by decide) ?_
  refine lv_iadd hx hb dL_law_566 ?_
  refine va_sld hx hb hX hbl hbA hS (vin1 hi hL) dL_law_567 ?_
  refine kWi (rV (C := RX10) [.int (xs (nI i + 1).toNatClampNeg)] [] S (c_X10_grate l dC dI cI cJ cZ h0 (a 0) (a 2) (a 4) (a 5) (a 6) (a 7) (a 59) (a 68) (a 14) (a 28) (a 42) (a 56) (a 58) (a 60) (a 64) (a 69) (a 1) (a 3) (a 8) (a 11) H.size kept T.k T.d T.b T.ro T.pl m1 m2 m3 m4 m5 f1 f2 (xs (nI i + 1).toNatClampNeg) r z0 z1 hf) (cwV 1 hts gL_law_X10_grate rfl rfl rfl (by decide +kernel) ⟨Nat.le_of_ble_eq_true rfl, Nat.le_of_ble_eq_true rfl⟩) (va_recv hK hP (ci := 10) (q0 := 0) rfl rfl) hP hD hK hN [0, 1, 3, 5, 6, 7, 8, 60, 69] rfl (by decide +kernel) rfl hl.1 rfl (Nat.le_of_ble_eq_true rfl) dL_law_568 ⟨Nat.le_of_ble_eq_true rfl, Nat.le_of_ble_eq_true rfl⟩) hP hD hS hA [0, 1, 3, 5, 6, 7, 8, 60, 69] rfl rfl [some 0, some 1, none, some 2, none, some 3, some 4, some 5, some 6, none, none, none, none, none, none, none, none, none, none, none, none, none, none, none, none, none, none, none, none, none, none, none, none, none, none, none, none, none, none, none, none, none, none, none, none, none, none, none, none, none, none, none, none, none, none, none, none, none, none, none, some 7, none, none, none, none, none, none, none, none, some 8, none, none, none, none, none, none, none, none, none, none, none, none, none, none, none, none, none, none] (by decide +kernel) rfl (fun H locs hP hD hS => ?_)
  have hP : va_P (dC, dI) vwCl (WW cI cJ cZ h0 a g0 g kept T U V0 V1 (iZ (n : Int)) ps ac wy m1 m2 m3 m4 m5 s0 cr cs an w1 w2 w3 ra sa ta z0 z1 up lo wt M now rz am n1 n2 n3 n4 n5 n6 n7 n8 n9 n10 (iZ (n : Int)) pm ct io wl I Kp) H := hP
  have hD : va_D (fun q : Nat => s.heap.size ≤ q) (WW cI cJ cZ h0 a g0 g kept T U V0 V1 (iZ (n : Int)) ps ac wy m1 m2 m3 m4 m5 s0 cr cs an w1 w2 w3 ra sa ta z0 z1 up lo wt M now rz am n1 n2 n3 n4 n5 n6 n7 n8 n9 n10 (iZ (n : Int)) pm ct io wl I Kp) := hD
  refine lv_aload_n hx hb dL_law_571 rfl (lv_at hl 2 rfl) ?_
  refine lv_aload_n hx hb dL_law_572 rfl (lv_at hl 0 rfl) ?_
  refine lv_iload_n hx hb dL_law_573 rfl (lv_at hl 3 rfl) ?_
  refine lv_iconst (v := 1) hx hb dL_law_574 (by decide) ?_
  refine lv_iadd hx hb dL_law_575 ?_
  refine va_sld hx hb hX hbl hbA hS (vin1 hi hL) dL_law_576 ?_
  refine kWi (rV (C := RX11) [.int (xs (nI i + 1).toNatClampNeg)] [.int r] S (c_X11_grate l dC dI cI cJ cZ g0 (g 0) (g 1) (g 3) (g 5) (g 2) (g 4) (g 6) (g 7) (g 8) (g 9) (g 10) (g 11) (g 12) (g 13) (g 14) H.size M.rn M.sn (iZ (n : Int)) rz am n1 n2 n3 n4 n5 n6 n7 n8 n9 n10 M.bk now M.ky M.dl (xs (nI i + 1).toNatClampNeg) r y0 y1 y2 hg) (cwV 1 hts gL_law_X11_grate rfl rfl rfl (by decide +kernel) ⟨Nat.le_of_ble_eq_true rfl, Nat.le_of_ble_eq_true rfl⟩) (va_recv hK hP (ci := 11) (q0 := 72) rfl rfl) hP hD hK hN [72, 73, 74, 76, 78] rfl (by decide +kernel) rfl hl.1 rfl (Nat.le_of_ble_eq_true rfl) dL_law_577 ⟨Nat.le_of_ble_eq_true rfl, Nat.le_of_ble_eq_true rfl⟩) hP hD hS hA [72, 73, 74, 76, 78] rfl rfl [none, none, none, none, none, none, none, none, none, none, none, none, none, none, none, none, none, none, none, none, none, none, none, none, none, none, none, none, none, none, none, none, none, none, none, none, none, none, none, none, none, none, none, none, none, none, none, none, none, none, none, none, none, none, none, none, none, none, none, none, none, none, none, none, none, none, none, none, none, none, none, none, some 0, some 1, some 2, none, some 3, none, some 4, none, none, none, none, none, none, none, none, none] (by decide +kernel) rfl (fun H locs hP hD hS => ?_)
  have hP : va_P (dC, dI) vwCl (WW cI cJ cZ h0 a g0 g kept T U V0 V1 (iZ (n : Int)) ps ac wy m1 m2 m3 m4 m5 s0 cr cs an w1 w2 w3 ra sa ta z0 z1 up lo wt M y2 rz am n1 n2 n3 n4 y0 y1 n7 n8 n9 n10 (iZ (n : Int)) pm ct io wl I Kp) H := hP
  have hD : va_D (fun q : Nat => s.heap.size ≤ q) (WW cI cJ cZ h0 a g0 g kept T U V0 V1 (iZ (n : Int)) ps ac wy m1 m2 m3 m4 m5 s0 cr cs an w1 w2 w3 ra sa ta z0 z1 up lo wt M y2 rz am n1 n2 n3 n4 y0 y1 n7 n8 n9 n10 (iZ (n : Int)) pm ct io wl I Kp) := hD
  refine lv_icmp_eq (tgt := 912) hx hb dL_law_580 (by decide) (fun _ => ?_) (fun h9 => absurd rfl h9)
  exact kk H locs _ ⟨n, P, kept, T, U, V0, V1, ps, ac, wy, m1, m2, m3, m4, m5, s0, cr, cs, an, w1, w2, w3, ra, sa, ta, z0, z1, up, lo, wt, M, y2, rz, am, n1, n2, n3, n4, y0, y1, n7, n8, n9, n10, pm, ct, io, wl, I, Kp, hT, hI, hp, rfl⟩ hP hD hS
set_option maxRecDepth 100000 in
set_option maxHeartbeats 4000000 in
theorem op_rule (S : CallFix p m c cL_law 4 s #[Value.ref b] wsL_law RL) (hX : va_X b L xs s s.heap) (hbl : b < s.heap.size) (hL : L ≤ 2048) (hK : va_K (dC, dI) vwCl (TY cI cJ cZ) s) (hN : NW s) (hTab : TAB (fun q : Nat => s.heap.size ≤ q) tb s s.heap) {H : Heap} {locs : List Loc} {ws : va_W} (hR : RelW cI cJ cZ h0 a g0 g ws) (hP : va_P (dC, dI) vwCl ws H) (hD : va_D (fun q : Nat => s.heap.size ≤ q) ws) (hS : va_S (fun q : Nat => s.heap.size ≤ q) s.heap H locs) {ls : Array Slot} {i : Nat} (hi : i + 4 ≤ L) (hl : lv_has ls 4 [(0, .ref b), (1, .ref h0), (2, .ref g0), (3, .int (nI i))])
    (kk : ∀ (H : Heap) (locs : List Loc) (ws : va_W), RelW cI cJ cZ h0 a g0 g ws → va_P (dC, dI) vwCl ws H → va_D (fun q : Nat => s.heap.size ≤ q) ws → va_S (fun q : Nat => s.heap.size ≤ q) s.heap H locs → W p l e room_1 s m #[Value.ref b] below meth c H locs 88 1442 Q (F0 m 912 ls [])) : W p l e room_1 s m #[Value.ref b] below meth c H locs 88 1442 Q (F0 m 585 ls []) := by
  obtain ⟨hx, hb, hml, hown, hts⟩ := id S
  have hA : ∀ q : Nat, s.heap.size ≤ q → (fun q : Nat => s.heap.size ≤ q) q := fun _ h => h
  have hbA : ¬ (fun q : Nat => s.heap.size ≤ q) b := Nat.not_le.mpr hbl
  obtain ⟨n, P, kept, T, U, V0, V1, ps, ac, wy, m1, m2, m3, m4, m5, s0, cr, cs, an, w1, w2, w3, ra, sa, ta, f1, f2, up, lo, wt, M, now, rz, am, n1, n2, n3, n4, n5, n6, n7, n8, n9, n10, pm, ct, io, wl, I, Kp, hT, hI, hp, rfl⟩ := hR
  obtain ⟨r, rcx, rfx, rsx, ahx, afx, hf, hg, hT2⟩ := s_rule hT (xs (nI i + 1).toNatClampNeg) (xs (nI i + 2).toNatClampNeg)
  refine lv_aload_n hx hb dL_law_585 rfl (lv_at hl 1 rfl) ?_
  refine lv_aload_n hx hb dL_law_586 rfl (lv_at hl 0 rfl) ?_
  refine lv_iload_n hx hb dL_law_587 rfl (lv_at hl 3 rfl) ?_
  refine lv_iconst (v := 1) hx hb dL_law_588 (by decide) ?_
  refine lv_iadd hx hb dL_law_589 ?_
  refine va_sld hx hb hX hbl hbA hS (vin1 hi hL) dL_law_590 ?_
  refine lv_aload_n hx hb dL_law_591 rfl (lv_at hl 0 rfl) ?_
  refine lv_iload_n hx hb dL_law_592 rfl (lv_at hl 3 rfl) ?_
  refine lv_iconst (v := 2) hx hb dL_law_593 (by decide) ?_
  refine lv_iadd hx hb dL_law_594 ?_
  refine va_sld hx hb hX hbl hbA hS (vin2 hi hL) dL_law_595 ?_
  refine kWi (rV (C := RX10) [.int (xs (nI i + 1).toNatClampNeg), .int (xs (nI i + 2).toNatClampNeg)] [] S (c_X10_rule l dC dI cI cJ cZ h0 (a 0) (a 8) (a 9) (a 10) (a 14) (a 28) (a 42) (a 56) (a 58) (a 59) (a 60) (a 64) (a 68) (a 69) (a 1) (a 2) (a 3) (a 4) (a 5) (a 11) H.size kept T.rc T.rf T.rs (xs (nI i + 1).toNatClampNeg) (xs (nI i + 2).toNatClampNeg) r rcx rfx rsx hf) (cwV 2 hts gL_law_X10_rule rfl rfl rfl (by decide +kernel) ⟨Nat.le_of_ble_eq_true rfl, Nat.le_of_ble_eq_true rfl⟩) (va_recv hK hP (ci := 10) (q0 := 0) rfl rfl) hP hD hK hN [0, 1, 9, 10, 11] rfl (by decide +kernel) rfl hl.1 rfl (Nat.le_of_ble_eq_true rfl) dL_law_596 ⟨Nat.le_of_ble_eq_true rfl, Nat.le_of_ble_eq_true rfl⟩) hP hD hS hA [0, 1, 9, 10, 11] rfl rfl [some 0, some 1, none, none, none, none, none, none, none, some 2, some 3, some 4, none, none, none, none, none, none, none, none, none, none, none, none, none, none, none, none, none, none, none, none, none, none, none, none, none, none, none, none, none, none, none, none, none, none, none, none, none, none, none, none, none, none, none, none, none, none, none, none, none, none, none, none, none, none, none, none, none, none, none, none, none, none, none, none, none, none, none, none, none, none, none, none, none, none, none, none] (by decide +kernel) rfl (fun H locs hP hD hS => ?_)
  have hP : va_P (dC, dI) vwCl (WW cI cJ cZ h0 a g0 g kept ((T.w, T.k, T.c, T.d, T.b, T.ro, T.pl, rcx, rfx, rsx, T.sc, T.sf, T.ss)) U V0 V1 (iZ (n : Int)) ps ac wy m1 m2 m3 m4 m5 s0 cr cs an w1 w2 w3 ra sa ta f1 f2 up lo wt M now rz am n1 n2 n3 n4 n5 n6 n7 n8 n9 n10 (iZ (n : Int)) pm ct io wl I Kp) H := hP
  have hD : va_D (fun q : Nat => s.heap.size ≤ q) (WW cI cJ cZ h0 a g0 g kept ((T.w, T.k, T.c, T.d, T.b, T.ro, T.pl, rcx, rfx, rsx, T.sc, T.sf, T.ss)) U V0 V1 (iZ (n : Int)) ps ac wy m1 m2 m3 m4 m5 s0 cr cs an w1 w2 w3 ra sa ta f1 f2 up lo wt M now rz am n1 n2 n3 n4 n5 n6 n7 n8 n9 n10 (iZ (n : Int)) pm ct io wl I Kp) := hD
  refine lv_aload_n hx hb dL_law_599 rfl (lv_at hl 2 rfl) ?_
  refine lv_aload_n hx hb dL_law_600 rfl (lv_at hl 0 rfl) ?_
  refine lv_iload_n hx hb dL_law_601 rfl (lv_at hl 3 rfl) ?_
  refine lv_iconst (v := 1) hx hb dL_law_602 (by decide) ?_
  refine lv_iadd hx hb dL_law_603 ?_
  refine va_sld hx hb hX hbl hbA hS (vin1 hi hL) dL_law_604 ?_
  refine lv_aload_n hx hb dL_law_605 rfl (lv_at hl 0 rfl) ?_
  refine lv_iload_n hx hb dL_law_606 rfl (lv_at hl 3 rfl) ?_
  refine lv_iconst (v := 2) hx hb dL_law_607 (by decide) ?_
  refine lv_iadd hx hb dL_law_608 ?_
  refine va_sld hx hb hX hbl hbA hS (vin2 hi hL) dL_law_609 ?_
  refine kWi (rV (C := RX11) [.int (xs (nI i + 1).toNatClampNeg), .int (xs (nI i + 2).toNatClampNeg)] [.int r] S (c_X11_rule l dC dI cI cJ cZ g0 (g 6) (g 7) (g 0) (g 1) (g 2) (g 3) (g 4) (g 5) (g 8) (g 9) (g 10) (g 11) (g 12) (g 13) (g 14) H.size M.rn M.sn (iZ (n : Int)) rz am n1 n2 n3 n4 n5 n6 n7 n8 n9 n10 M.ah M.af (xs (nI i + 1).toNatClampNeg) (xs (nI i + 2).toNatClampNeg) r rcx ahx afx hg) (cwV 2 hts gL_law_X11_rule rfl rfl rfl (by decide +kernel) ⟨Nat.le_of_ble_eq_true rfl, Nat.le_of_ble_eq_true rfl⟩) (va_recv hK hP (ci := 11) (q0 := 72) rfl rfl) hP hD hK hN [72, 79, 80] rfl (by decide +kernel) rfl hl.1 rfl (Nat.le_of_ble_eq_true rfl) dL_law_610 ⟨Nat.le_of_ble_eq_true rfl, Nat.le_of_ble_eq_true rfl⟩) hP hD hS hA [72, 79, 80] rfl rfl [none, none, none, none, none, none, none, none, none, none, none, none, none, none, none, none, none, none, none, none, none, none, none, none, none, none, none, none, none, none, none, none, none, none, none, none, none, none, none, none, none, none, none, none, none, none, none, none, none, none, none, none, none, none, none, none, none, none, none, none, none, none, none, none, none, none, none, none, none, none, none, none, some 0, none, none, none, none, none, none, some 1, some 2, none, none, none, none, none, none, none] (by decide +kernel) rfl (fun H locs hP hD hS => ?_)
  have hP : va_P (dC, dI) vwCl (WW cI cJ cZ h0 a g0 g kept ((T.w, T.k, T.c, T.d, T.b, T.ro, T.pl, rcx, rfx, rsx, T.sc, T.sf, T.ss)) U V0 V1 (iZ (n : Int)) ps ac wy m1 m2 m3 m4 m5 s0 cr cs an w1 w2 w3 ra sa ta f1 f2 up lo wt ((M.bk, M.wd, M.ky, M.wi, M.dl, rcx, ahx, afx, M.sn, M.si)) now rz am n1 n2 n3 n4 n5 n6 n7 n8 n9 n10 (iZ (n : Int)) pm ct io wl I Kp) H := hP
  have hD : va_D (fun q : Nat => s.heap.size ≤ q) (WW cI cJ cZ h0 a g0 g kept ((T.w, T.k, T.c, T.d, T.b, T.ro, T.pl, rcx, rfx, rsx, T.sc, T.sf, T.ss)) U V0 V1 (iZ (n : Int)) ps ac wy m1 m2 m3 m4 m5 s0 cr cs an w1 w2 w3 ra sa ta f1 f2 up lo wt ((M.bk, M.wd, M.ky, M.wi, M.dl, rcx, ahx, afx, M.sn, M.si)) now rz am n1 n2 n3 n4 n5 n6 n7 n8 n9 n10 (iZ (n : Int)) pm ct io wl I Kp) := hD
  refine lv_icmp_eq (tgt := 912) hx hb dL_law_613 (by decide) (fun _ => ?_) (fun h9 => absurd rfl h9)
  exact kk H locs _ ⟨n, P, kept, (T.w, T.k, T.c, T.d, T.b, T.ro, T.pl, rcx, rfx, rsx, T.sc, T.sf, T.ss), U, V0, V1, ps, ac, wy, m1, m2, m3, m4, m5, s0, cr, cs, an, w1, w2, w3, ra, sa, ta, f1, f2, up, lo, wt, (M.bk, M.wd, M.ky, M.wi, M.dl, rcx, ahx, afx, M.sn, M.si), now, rz, am, n1, n2, n3, n4, n5, n6, n7, n8, n9, n10, pm, ct, io, wl, I, Kp, hT2, hI, hp, rfl⟩ hP hD hS
end LAWOP
