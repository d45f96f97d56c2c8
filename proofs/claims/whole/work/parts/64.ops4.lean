section LAWOP
variable {p : Program} {l : Launch} {e : Env} {s : State} {m : MethodId} {below : List Frame} {meth : Method} {c : Code} {Q : State → Prop}
variable {b L : Nat} {xs : Nat → Int32} {dC : Nat → ClassId} {dI : Nat → Nat → Nat} {cI cJ cZ : ClassId} {tb h0 g0 : Nat} {a g : Nat → Nat}
set_option maxRecDepth 100000 in
set_option maxHeartbeats 4000000 in
theorem op_chance (S : CallFix p m c cL_law 4 s #[Value.ref b] wsL_law RL) (hX : va_X b L xs s s.heap) (hbl : b < s.heap.size) (hL : L ≤ 2048) (hK : va_K (dC, dI) vwCl (TY cI cJ cZ) s) (hN : NW s) (hTab : TAB (fun q : Nat => s.heap.size ≤ q) tb s s.heap) {H : Heap} {locs : List Loc} {ws : va_W} (hR : RelW cI cJ cZ h0 a g0 g ws) (hP : va_P (dC, dI) vwCl ws H) (hD : va_D (fun q : Nat => s.heap.size ≤ q) ws) (hS : va_S (fun q : Nat => s.heap.size ≤ q) s.heap H locs) {ls : Array Slot} {i : Nat} (hi : i + 4 ≤ L) (hl : lv_has ls 4 [(0, .ref b), (1, .ref h0), (2, .ref g0), (3, .int (nI i))])
    (kk : ∀ (H : Heap) (locs : List Loc) (ws : va_W), RelW cI cJ cZ h0 a g0 g ws → va_P (dC, dI) vwCl ws H → va_D (fun q : Nat => s.heap.size ≤ q) ws → va_S (fun q : Nat => s.heap.size ≤ q) s.heap H locs → W p l e room_1 s m #[Value.ref b] below meth c H locs 88 1442 Q (F0 m 912 ls [])) : W p l e room_1 s m #[Value.ref b] below meth c H locs 88 1442 Q (F0 m 756 ls []) := by
  obtain ⟨hx, hb, hml, hown, hts⟩ := id S
  have hA : ∀ q : Nat, s.heap.size ≤ q → (fun q : Nat => s.heap.size ≤ q) q := fun _ h => h
  have hbA : ¬ (fun q : Nat => s.heap.size ≤ q) b := Nat.not_le.mpr hbl
  obtain ⟨n, P, kept, T, U, V0, V1, ps, ac, wy, m1, m2, m3, m4, m5, s0, cr, cs, an, w1, w2, w3, ra, sa, ta, f1, f2, up, lo, wt, M, now, rz, am, n1, n2, n3, n4, n5, n6, n7, n8, n9, n10, pm, ct, io, wl, I, Kp, hT, hI, hp, rfl⟩ := hR
  obtain ⟨r, t, q, hf, hg⟩ := chance_both hT m1 m2 m3 m4 m5 up lo wt n1 n2 n3 n4 n5 n6 now wl (xs (nI i + 1).toNatClampNeg) (xs (nI i + 2).toNatClampNeg) (xs (nI i + 3).toNatClampNeg)
  obtain ⟨z0, z1, z2, z3, z4, z5, z6, z7⟩ := t
  obtain ⟨y0, y1, y2, y3, y4, y5, y6, y7⟩ := q
  refine lv_aload_n hx hb dL_law_756 rfl (lv_at hl 1 rfl) ?_
  refine lv_aload_n hx hb dL_law_757 rfl (lv_at hl 0 rfl) ?_
  refine lv_iload_n hx hb dL_law_758 rfl (lv_at hl 3 rfl) ?_
  refine lv_iconst (v := 1) hx hb dL_law_759 (by decide) ?_
  refine lv_iadd hx hb dL_law_760 ?_
  refine va_sld hx hb hX hbl hbA hS (vin1 hi hL) dL_law_761 ?_
  refine lv_aload_n hx hb dL_law_762 rfl (lv_at hl 0 rfl) ?_
  refine lv_iload_n hx hb dL_law_763 rfl (lv_at hl 3 rfl) ?_
  refine lv_iconst (v := 2) hx hb dL_law_764 (by decide) ?_
  refine lv_iadd hx hb dL_law_765 ?_
  refine va_sld hx hb hX hbl hbA hS (vin2 hi hL) dL_law_766 ?_
  refine lv_aload_n hx hb dL_law_767 rfl (lv_at hl 0 rfl) ?_
  refine lv_iload_n hx hb dL_law_768 rfl (lv_at hl 3 rfl) ?_
  refine lv_iconst (v := 3) hx hb dL_law_769 (by decide) ?_
  refine lv_iadd hx hb dL_law_770 ?_
  refine va_sld hx hb hX hbl hbA hS (vin3 hi hL) dL_law_771 ?_
  refine kWl (rV (C := RX10) [.int (xs (nI i + 1).toNatClampNeg), .int (xs (nI i + 2).toNatClampNeg), .int (xs (nI i + 3).toNatClampNeg)] [] S (c_X10_chance l dC dI cI cJ cZ h0 (a 0) (a 1) (a 3) (a 4) (a 5) (a 6) (a 7) (a 59) (a 69) (a 70) (a 14) (a 28) (a 42) (a 56) (a 58) (a 60) (a 64) (a 68) (a 2) (a 8) (a 11) H.size kept T.w T.c T.d T.b T.ro T.pl m1 m2 m3 m4 m5 up lo wt (xs (nI i + 1).toNatClampNeg) (xs (nI i + 2).toNatClampNeg) (xs (nI i + 3).toNatClampNeg) r z0 z1 z2 z3 z4 z5 z6 z7 hf) (cwV 3 hts gL_law_X10_chance rfl rfl rfl (by decide +kernel) ⟨Nat.le_of_ble_eq_true rfl, Nat.le_of_ble_eq_true rfl⟩) (va_recv hK hP (ci := 10) (q0 := 0) rfl rfl) hP hD hK hN [0, 1, 2, 4, 5, 6, 7, 8, 60, 70, 71] rfl (by decide +kernel) rfl hl.1 rfl (Nat.le_of_ble_eq_true rfl) dL_law_772 ⟨Nat.le_of_ble_eq_true rfl, Nat.le_of_ble_eq_true rfl⟩) hP hD hS hA [0, 1, 2, 4, 5, 6, 7, 8, 60, 70, 71] rfl rfl [some 0, some 1, some 2, none, some 3, some 4, some 5, some 6, some 7, none, none, none, none, none, none, none, none, none, none, none, none, none, none, none, none, none, none, none, none, none, none, none, none, none, none, none, none, none, none, none, none, none, none, none, none, none, none, none, none, none, none, none, none, none, none, none, none, none, none, none, some 8, none, none, none, none, none, none, none, none, none, some 9, some 10, none, none, none, none, none, none, none, none, none, none, none, none, none, none, none, none] (by decide +kernel) rfl (fun H locs hP hD hS => ?_)
  have hP : va_P (dC, dI) vwCl (WW cI cJ cZ h0 a g0 g kept T U V0 V1 (iZ (n : Int)) ps ac wy z0 z1 z2 z3 z4 s0 cr cs an w1 w2 w3 ra sa ta f1 f2 z5 z6 z7 M now rz am n1 n2 n3 n4 n5 n6 n7 n8 n9 n10 (iZ (n : Int)) pm ct io wl I Kp) H := hP
  have hD : va_D (fun q : Nat => s.heap.size ≤ q) (WW cI cJ cZ h0 a g0 g kept T U V0 V1 (iZ (n : Int)) ps ac wy z0 z1 z2 z3 z4 s0 cr cs an w1 w2 w3 ra sa ta f1 f2 z5 z6 z7 M now rz am n1 n2 n3 n4 n5 n6 n7 n8 n9 n10 (iZ (n : Int)) pm ct io wl I Kp) := hD
  refine lv_aload_n hx hb dL_law_775 rfl (lv_at hl 2 rfl) ?_
  refine lv_aload_n hx hb dL_law_776 rfl (lv_at hl 0 rfl) ?_
  refine lv_iload_n hx hb dL_law_777 rfl (lv_at hl 3 rfl) ?_
  refine lv_iconst (v := 1) hx hb dL_law_778 (by decide) ?_
  refine lv_iadd hx hb dL_law_779 ?_
  refine va_sld hx hb hX hbl hbA hS (vin1 hi hL) dL_law_780 ?_
  refine lv_aload_n hx hb dL_law_781 rfl (lv_at hl 0 rfl) ?_
  refine lv_iload_n hx hb dL_law_782 rfl (lv_at hl 3 rfl) ?_
  refine lv_iconst (v := 2) hx hb dL_law_783 (by decide) ?_
  refine lv_iadd hx hb dL_law_784 ?_
  refine va_sld hx hb hX hbl hbA hS (vin2 hi hL) dL_law_785 ?_
  refine lv_aload_n hx hb dL_law_786 rfl (lv_at hl 0 rfl) ?_
  refine lv_iload_n hx hb dL_law_787 rfl (lv_at hl 3 rfl) ?_
  refine lv_iconst (v := 3) hx hb dL_law_788 (by decide) ?_
  refine lv_iadd hx hb dL_law_789 ?_
  refine va_sld hx hb hX hbl hbA hS (vin3 hi hL) dL_law_790 ?_
  refine kWl (rV (C := RX11) [.int (xs (nI i + 1).toNatClampNeg), .int (xs (nI i + 2).toNatClampNeg), .int (xs (nI i + 3).toNatClampNeg)] [.long r] S (c_X11_chance l dC dI cI cJ cZ g0 (g 0) (g 1) (g 2) (g 4) (g 5) (g 12) (g 3) (g 6) (g 7) (g 8) (g 9) (g 10) (g 11) (g 13) (g 14) H.size M.rn M.sn (iZ (n : Int)) rz am n1 n2 n3 n4 n5 n6 n7 n8 n9 n10 M.bk now M.wd M.wi M.dl wl (xs (nI i + 1).toNatClampNeg) (xs (nI i + 2).toNatClampNeg) (xs (nI i + 3).toNatClampNeg) r y0 y1 y2 y3 y4 y5 y6 y7 hg) (cwV 3 hts gL_law_X11_chance rfl rfl rfl (by decide +kernel) ⟨Nat.le_of_ble_eq_true rfl, Nat.le_of_ble_eq_true rfl⟩) (va_recv hK hP (ci := 11) (q0 := 72) rfl rfl) hP hD hK hN [72, 73, 74, 75, 77, 78, 85] rfl (by decide +kernel) rfl hl.1 rfl (Nat.le_of_ble_eq_true rfl) dL_law_791 ⟨Nat.le_of_ble_eq_true rfl, Nat.le_of_ble_eq_true rfl⟩) hP hD hS hA [72, 73, 74, 75, 77, 78, 85] rfl rfl [none, none, none, none, none, none, none, none, none, none, none, none, none, none, none, none, none, none, none, none, none, none, none, none, none, none, none, none, none, none, none, none, none, none, none, none, none, none, none, none, none, none, none, none, none, none, none, none, none, none, none, none, none, none, none, none, none, none, none, none, none, none, none, none, none, none, none, none, none, none, none, none, some 0, some 1, some 2, some 3, none, some 4, some 5, none, none, none, none, none, none, some 6, none, none] (by decide +kernel) rfl (fun H locs hP hD hS => ?_)
  have hP : va_P (dC, dI) vwCl (WW cI cJ cZ h0 a g0 g kept T U V0 V1 (iZ (n : Int)) ps ac wy z0 z1 z2 z3 z4 s0 cr cs an w1 w2 w3 ra sa ta f1 f2 z5 z6 z7 M y6 rz am y0 y1 y2 y3 y4 y5 n7 n8 n9 n10 (iZ (n : Int)) pm ct io y7 I Kp) H := hP
  have hD : va_D (fun q : Nat => s.heap.size ≤ q) (WW cI cJ cZ h0 a g0 g kept T U V0 V1 (iZ (n : Int)) ps ac wy z0 z1 z2 z3 z4 s0 cr cs an w1 w2 w3 ra sa ta f1 f2 z5 z6 z7 M y6 rz am y0 y1 y2 y3 y4 y5 n7 n8 n9 n10 (iZ (n : Int)) pm ct io y7 I Kp) := hD
  refine W.lcmp hx hb dL_law_794 ?_
  refine lv_if_eq (tgt := 912) hx hb dL_law_795 (by decide) (fun _ => ?_) (fun h9 => absurd ((lg_cmp_eq _ _).mpr rfl) h9)
  exact kk H locs _ ⟨n, P, kept, T, U, V0, V1, ps, ac, wy, z0, z1, z2, z3, z4, s0, cr, cs, an, w1, w2, w3, ra, sa, ta, f1, f2, z5, z6, z7, M, y6, rz, am, y0, y1, y2, y3, y4, y5, n7, n8, n9, n10, pm, ct, io, y7, I, Kp, hT, hI, hp, rfl⟩ hP hD hS
set_option maxRecDepth 100000 in
set_option maxHeartbeats 4000000 in
theorem op_year (S : CallFix p m c cL_law 4 s #[Value.ref b] wsL_law RL) (hX : va_X b L xs s s.heap) (hbl : b < s.heap.size) (hL : L ≤ 2048) (hK : va_K (dC, dI) vwCl (TY cI cJ cZ) s) (hN : NW s) (hTab : TAB (fun q : Nat => s.heap.size ≤ q) tb s s.heap) {H : Heap} {locs : List Loc} {ws : va_W} (hR : RelW cI cJ cZ h0 a g0 g ws) (hP : va_P (dC, dI) vwCl ws H) (hD : va_D (fun q : Nat => s.heap.size ≤ q) ws) (hS : va_S (fun q : Nat => s.heap.size ≤ q) s.heap H locs) {ls : Array Slot} {i : Nat} (hi : i + 4 ≤ L) (hl : lv_has ls 4 [(0, .ref b), (1, .ref h0), (2, .ref g0), (3, .int (nI i))])
    (kk : ∀ (H : Heap) (locs : List Loc) (ws : va_W), RelW cI cJ cZ h0 a g0 g ws → va_P (dC, dI) vwCl ws H → va_D (fun q : Nat => s.heap.size ≤ q) ws → va_S (fun q : Nat => s.heap.size ≤ q) s.heap H locs → W p l e room_1 s m #[Value.ref b] below meth c H locs 88 1442 Q (F0 m 912 ls [])) : W p l e room_1 s m #[Value.ref b] below meth c H locs 88 1442 Q (F0 m 800 ls []) := by
  obtain ⟨hx, hb, hml, hown, hts⟩ := id S
  have hA : ∀ q : Nat, s.heap.size ≤ q → (fun q : Nat => s.heap.size ≤ q) q := fun _ h => h
  have hbA : ¬ (fun q : Nat => s.heap.size ≤ q) b := Nat.not_le.mpr hbl
  obtain ⟨n, P, kept, T, U, V0, V1, ps, ac, wy, m1, m2, m3, m4, m5, s0, cr, cs, an, w1, w2, w3, ra, sa, ta, f1, f2, up, lo, wt, M, now, rz, am, n1, n2, n3, n4, n5, n6, n7, n8, n9, n10, pm, ct, io, wl, I, Kp, hT, hI, hp, rfl⟩ := hR
  obtain ⟨r, t, q, hf, hg⟩ := year_both (U := U) hT m1 m2 m3 m4 m5 n1 n2 n3 n4 n5 n6 now (xs (nI i + 1).toNatClampNeg) (xs (nI i + 2).toNatClampNeg) (xs (nI i + 3).toNatClampNeg)
  obtain ⟨z0, z1, z2, z3, z4, z5, z6, z7, z8, z9, z10, z11, z12, z13, z14, z15, z16, z17⟩ := t
  obtain ⟨y0, y1, y2, y3, y4, y5, y6⟩ := q
  refine lv_aload_n hx hb dL_law_800 rfl (lv_at hl 1 rfl) ?_
  refine lv_aload_n hx hb dL_law_801 rfl (lv_at hl 0 rfl) ?_
  refine lv_iload_n hx hb dL_law_802 rfl (lv_at hl 3 rfl) ?_
  refine lv_iconst (v := 1) hx hb dL_law_803 (by decide) ?_
  refine lv_iadd hx hb dL_law_804 ?_
  refine va_sld hx hb hX hbl hbA hS (vin1 hi hL) dL_law_805 ?_
  refine lv_aload_n hx hb dL_law_806 rfl (lv_at hl 0 rfl) ?_
  refine lv_iload_n hx hb dL_law_807 rfl (lv_at hl 3 rfl) ?_
  refine lv_iconst (v := 2) hx hb dL_law_808 (by decide) ?_
  refine lv_iadd hx hb dL_law_809 ?_
  refine va_sld hx hb hX hbl hbA hS (vin2 hi hL) dL_law_810 ?_
  refine lv_aload_n hx hb dL_law_811 rfl (lv_at hl 0 rfl) ?_
  refine lv_iload_n hx hb dL_law_812 rfl (lv_at hl 3 rfl) ?_
  refine lv_iconst (v := 3) hx hb dL_law_813 (by decide) ?_
  refine lv_iadd hx hb dL_law_814 ?_
  refine va_sld hx hb hX hbl hbA hS (vin3 hi hL) dL_law_815 ?_
  refine kWi (rVT hTab hS hA (C := RX10) [.int (xs (nI i + 1).toNatClampNeg), .int (xs (nI i + 2).toNatClampNeg), .int (xs (nI i + 3).toNatClampNeg)] [] S (c_X10_year l dC dI cI cJ cZ tb h0 (a 0) (a 1) (a 2) (a 3) (a 4) (a 5) (a 6) (a 7) (a 8) (a 9) (a 10) (a 11) (a 12) (a 13) (a 14) (a 15) (a 16) (a 17) (a 18) (a 19) (a 20) (a 21) (a 22) (a 23) (a 24) (a 25) (a 26) (a 27) (a 59) (a 28) (a 42) (a 56) (a 58) (a 60) (a 64) (a 68) (a 69) H.size kept T.w T.k T.c T.d T.b T.ro T.pl T.rc T.rf T.rs T.sc T.sf T.ss U.w U.k U.c U.d U.b U.ro U.pl U.rc U.rf U.rs U.sc U.sf U.ss m1 m2 m3 m4 m5 (xs (nI i + 1).toNatClampNeg) (xs (nI i + 2).toNatClampNeg) (xs (nI i + 3).toNatClampNeg) r z0 z1 z2 z3 z4 z5 z6 z7 z8 z9 z10 z11 z12 z13 z14 z15 z16 z17 hf) (cwV 3 hts gL_law_X10_year rfl rfl rfl (by decide +kernel) ⟨Nat.le_of_ble_eq_true rfl, Nat.le_of_ble_eq_true rfl⟩) (va_recv hK hP (ci := 10) (q0 := 0) rfl rfl) hP hD hK hN [0, 1, 2, 3, 4, 5, 6, 7, 8, 9, 10, 11, 12, 13, 14, 15, 16, 17, 18, 19, 20, 21, 22, 23, 24, 25, 26, 27, 28, 60] rfl (by decide +kernel) rfl hl.1 rfl (Nat.le_of_ble_eq_true rfl) dL_law_816 ⟨Nat.le_of_ble_eq_true rfl, Nat.le_of_ble_eq_true rfl⟩) hP hD hS hA [0, 1, 2, 3, 4, 5, 6, 7, 8, 9, 10, 11, 12, 13, 14, 15, 16, 17, 18, 19, 20, 21, 22, 23, 24, 25, 26, 27, 28, 60] rfl rfl [some 0, some 1, some 2, some 3, some 4, some 5, some 6, some 7, some 8, some 9, some 10, some 11, some 12, some 13, some 14, some 15, some 16, some 17, some 18, some 19, some 20, some 21, some 22, some 23, some 24, some 25, some 26, some 27, some 28, none, none, none, none, none, none, none, none, none, none, none, none, none, none, none, none, none, none, none, none, none, none, none, none, none, none, none, none, none, none, none, some 29, none, none, none, none, none, none, none, none, none, none, none, none, none, none, none, none, none, none, none, none, none, none, none, none, none, none, none] (by decide +kernel) rfl (fun H locs hP hD hS => ?_)
  have hP : va_P (dC, dI) vwCl (WW cI cJ cZ h0 a g0 g kept T ((z0, z1, z2, z3, z4, z5, z6, z7, z8, z9, z10, z11, z12)) V0 V1 (iZ (n : Int)) ps ac wy z13 z14 z15 z16 z17 s0 cr cs an w1 w2 w3 ra sa ta f1 f2 up lo wt M now rz am n1 n2 n3 n4 n5 n6 n7 n8 n9 n10 (iZ (n : Int)) pm ct io wl I Kp) H := hP
  have hD : va_D (fun q : Nat => s.heap.size ≤ q) (WW cI cJ cZ h0 a g0 g kept T ((z0, z1, z2, z3, z4, z5, z6, z7, z8, z9, z10, z11, z12)) V0 V1 (iZ (n : Int)) ps ac wy z13 z14 z15 z16 z17 s0 cr cs an w1 w2 w3 ra sa ta f1 f2 up lo wt M now rz am n1 n2 n3 n4 n5 n6 n7 n8 n9 n10 (iZ (n : Int)) pm ct io wl I Kp) := hD
  refine lv_aload_n hx hb dL_law_819 rfl (lv_at hl 2 rfl) ?_
  refine lv_aload_n hx hb dL_law_820 rfl (lv_at hl 0 rfl) ?_
  refine lv_iload_n hx hb dL_law_821 rfl (lv_at hl 3 rfl) ?_
  refine lv_iconst (v := 1) hx hb dL_law_822 (by decide) ?_
  refine lv_iadd hx hb dL_law_823 ?_
  refine va_sld hx hb hX hbl hbA hS (vin1 hi hL) dL_law_824 ?_
  refine lv_aload_n hx hb dL_law_825 rfl (lv_at hl 0 rfl) ?_
  refine lv_iload_n hx hb dL_law_826 rfl (lv_at hl 3 rfl) ?_
  refine lv_iconst (v := 2) hx hb dL_law_827 (by decide) ?_
  refine lv_iadd hx hb dL_law_828 ?_
  refine va_sld hx hb hX hbl hbA hS (vin2 hi hL) dL_law_829 ?_
  refine lv_aload_n hx hb dL_law_830 rfl (lv_at hl 0 rfl) ?_
  refine lv_iload_n hx hb dL_law_831 rfl (lv_at hl 3 rfl) ?_
  refine lv_iconst (v := 3) hx hb dL_law_832 (by decide) ?_
  refine lv_iadd hx hb dL_law_833 ?_
  refine va_sld hx hb hX hbl hbA hS (vin3 hi hL) dL_law_834 ?_
  refine kWi (rV (C := RX11) [.int (xs (nI i + 1).toNatClampNeg), .int (xs (nI i + 2).toNatClampNeg), .int (xs (nI i + 3).toNatClampNeg)] [.int r] S (c_X11_year l dC dI cI cJ cZ g0 (g 0) (g 1) (g 2) (g 4) (g 5) (g 3) (g 6) (g 7) (g 8) (g 9) (g 10) (g 11) (g 12) (g 13) (g 14) H.size M.rn M.sn (iZ (n : Int)) rz am n1 n2 n3 n4 n5 n6 n7 n8 n9 n10 M.bk now M.wd M.wi M.dl (xs (nI i + 1).toNatClampNeg) (xs (nI i + 2).toNatClampNeg) (xs (nI i + 3).toNatClampNeg) r y0 y1 y2 y3 y4 y5 y6 hg) (cwV 3 hts gL_law_X11_year rfl rfl rfl (by decide +kernel) ⟨Nat.le_of_ble_eq_true rfl, Nat.le_of_ble_eq_true rfl⟩) (va_recv hK hP (ci := 11) (q0 := 72) rfl rfl) hP hD hK hN [72, 73, 74, 75, 77, 78] rfl (by decide +kernel) rfl hl.1 rfl (Nat.le_of_ble_eq_true rfl) dL_law_835 ⟨Nat.le_of_ble_eq_true rfl, Nat.le_of_ble_eq_true rfl⟩) hP hD hS hA [72, 73, 74, 75, 77, 78] rfl rfl [none, none, none, none, none, none, none, none, none, none, none, none, none, none, none, none, none, none, none, none, none, none, none, none, none, none, none, none, none, none, none, none, none, none, none, none, none, none, none, none, none, none, none, none, none, none, none, none, none, none, none, none, none, none, none, none, none, none, none, none, none, none, none, none, none, none, none, none, none, none, none, none, some 0, some 1, some 2, some 3, none, some 4, some 5, none, none, none, none, none, none, none, none, none] (by decide +kernel) rfl (fun H locs hP hD hS => ?_)
  have hP : va_P (dC, dI) vwCl (WW cI cJ cZ h0 a g0 g kept T ((z0, z1, z2, z3, z4, z5, z6, z7, z8, z9, z10, z11, z12)) V0 V1 (iZ (n : Int)) ps ac wy z13 z14 z15 z16 z17 s0 cr cs an w1 w2 w3 ra sa ta f1 f2 up lo wt M y6 rz am y0 y1 y2 y3 y4 y5 n7 n8 n9 n10 (iZ (n : Int)) pm ct io wl I Kp) H := hP
  have hD : va_D (fun q : Nat => s.heap.size ≤ q) (WW cI cJ cZ h0 a g0 g kept T ((z0, z1, z2, z3, z4, z5, z6, z7, z8, z9, z10, z11, z12)) V0 V1 (iZ (n : Int)) ps ac wy z13 z14 z15 z16 z17 s0 cr cs an w1 w2 w3 ra sa ta f1 f2 up lo wt M y6 rz am y0 y1 y2 y3 y4 y5 n7 n8 n9 n10 (iZ (n : Int)) pm ct io wl I Kp) := hD
  refine lv_icmp_eq (tgt := 912) hx hb dL_law_838 (by decide) (fun _ => ?_) (fun h9 => absurd rfl h9)
  exact kk H locs _ ⟨n, P, kept, T, (z0, z1, z2, z3, z4, z5, z6, z7, z8, z9, z10, z11, z12), V0, V1, ps, ac, wy, z13, z14, z15, z16, z17, s0, cr, cs, an, w1, w2, w3, ra, sa, ta, f1, f2, up, lo, wt, M, y6, rz, am, y0, y1, y2, y3, y4, y5, n7, n8, n9, n10, pm, ct, io, wl, I, Kp, hT, hI, hp, rfl⟩ hP hD hS
set_option maxRecDepth 100000 in
set_option maxHeartbeats 4000000 in
theorem op_image (S : CallFix p m c cL_law 4 s #[Value.ref b] wsL_law RL) (hX : va_X b L xs s s.heap) (hbl : b < s.heap.size) (hL : L ≤ 2048) (hK : va_K (dC, dI) vwCl (TY cI cJ cZ) s) (hN : NW s) (hTab : TAB (fun q : Nat => s.heap.size ≤ q) tb s s.heap) {H : Heap} {locs : List Loc} {ws : va_W} (hR : RelW cI cJ cZ h0 a g0 g ws) (hP : va_P (dC, dI) vwCl ws H) (hD : va_D (fun q : Nat => s.heap.size ≤ q) ws) (hS : va_S (fun q : Nat => s.heap.size ≤ q) s.heap H locs) {ls : Array Slot} {i : Nat} (hi : i + 4 ≤ L) (hl : lv_has ls 4 [(0, .ref b), (1, .ref h0), (2, .ref g0), (3, .int (nI i))])
    (kk : ∀ (H : Heap) (locs : List Loc) (ws : va_W), RelW cI cJ cZ h0 a g0 g ws → va_P (dC, dI) vwCl ws H → va_D (fun q : Nat => s.heap.size ≤ q) ws → va_S (fun q : Nat => s.heap.size ≤ q) s.heap H locs → W p l e room_1 s m #[Value.ref b] below meth c H locs 88 1442 Q (F0 m 912 ls [])) : W p l e room_1 s m #[Value.ref b] below meth c H locs 88 1442 Q (F0 m 843 ls []) := by
  obtain ⟨hx, hb, hml, hown, hts⟩ := id S
  have hA : ∀ q : Nat, s.heap.size ≤ q → (fun q : Nat => s.heap.size ≤ q) q := fun _ h => h
  have hbA : ¬ (fun q : Nat => s.heap.size ≤ q) b := Nat.not_le.mpr hbl
  obtain ⟨n, P, kept, T, U, V0, V1, ps, ac, wy, m1, m2, m3, m4, m5, s0, cr, cs, an, w1, w2, w3, ra, sa, ta, f1, f2, up, lo, wt, M, now, rz, am, n1, n2, n3, n4, n5, n6, n7, n8, n9, n10, pm, ct, io, wl, I, Kp, hT, hI, hp, rfl⟩ := hR
  obtain ⟨r, keptx, Y0, Y1, Ix, Kpx, hf, hg, hI2⟩ := image_both hT hI (xs (nI i + 1).toNatClampNeg)
  refine lv_aload_n hx hb dL_law_843 rfl (lv_at hl 1 rfl) ?_
  refine lv_aload_n hx hb dL_law_844 rfl (lv_at hl 0 rfl) ?_
  refine lv_iload_n hx hb dL_law_845 rfl (lv_at hl 3 rfl) ?_
  refine lv_iconst (v := 1) hx hb dL_law_846 (by decide) ?_
  refine lv_iadd hx hb dL_law_847 ?_
  refine va_sld hx hb hX hbl hbA hS (vin1 hi hL) dL_law_848 ?_
  refine kWi (rV (C := RX10) [.int (xs (nI i + 1).toNatClampNeg)] [] S (c_X10_image l dC dI cI cJ cZ h0 (a 0) (a 1) (a 2) (a 3) (a 4) (a 5) (a 6) (a 7) (a 8) (a 9) (a 10) (a 11) (a 12) (a 13) (a 28) (a 29) (a 30) (a 31) (a 32) (a 33) (a 34) (a 35) (a 36) (a 37) (a 38) (a 39) (a 40) (a 41) (a 42) (a 43) (a 44) (a 45) (a 46) (a 47) (a 48) (a 49) (a 50) (a 51) (a 52) (a 53) (a 54) (a 55) (a 14) (a 56) (a 58) (a 59) (a 60) (a 64) (a 68) (a 69) H.size kept T.w T.k T.c T.d T.b T.ro T.pl T.rc T.rf T.rs T.sc T.sf T.ss V0.w V0.k V0.c V0.d V0.b V0.ro V0.pl V0.rc V0.rf V0.rs V0.sc V0.sf V0.ss V1.w V1.k V1.c V1.d V1.b V1.ro V1.pl V1.rc V1.rf V1.rs V1.sc V1.sf V1.ss (xs (nI i + 1).toNatClampNeg) r keptx Y0.w Y0.k Y0.c Y0.d Y0.b Y0.ro Y0.pl Y0.rc Y0.rf Y0.rs Y0.sc Y0.sf Y0.ss Y1.w Y1.k Y1.c Y1.d Y1.b Y1.ro Y1.pl Y1.rc Y1.rf Y1.rs Y1.sc Y1.sf Y1.ss hf) (cwV 1 hts gL_law_X10_image rfl rfl rfl (by decide +kernel) ⟨Nat.le_of_ble_eq_true rfl, Nat.le_of_ble_eq_true rfl⟩) (va_recv hK hP (ci := 10) (q0 := 0) rfl rfl) hP hD hK hN [0, 1, 2, 3, 4, 5, 6, 7, 8, 9, 10, 11, 12, 13, 14, 29, 30, 31, 32, 33, 34, 35, 36, 37, 38, 39, 40, 41, 42, 43, 44, 45, 46, 47, 48, 49, 50, 51, 52, 53, 54, 55, 56] rfl (by decide +kernel) rfl hl.1 rfl (Nat.le_of_ble_eq_true rfl) dL_law_849 ⟨Nat.le_of_ble_eq_true rfl, Nat.le_of_ble_eq_true rfl⟩) hP hD hS hA [0, 1, 2, 3, 4, 5, 6, 7, 8, 9, 10, 11, 12, 13, 14, 29, 30, 31, 32, 33, 34, 35, 36, 37, 38, 39, 40, 41, 42, 43, 44, 45, 46, 47, 48, 49, 50, 51, 52, 53, 54, 55, 56] rfl rfl [some 0, some 1, some 2, some 3, some 4, some 5, some 6, some 7, some 8, some 9, some 10, some 11, some 12, some 13, some 14, none, none, none, none, none, none, none, none, none, none, none, none, none, none, some 15, some 16, some 17, some 18, some 19, some 20, some 21, some 22, some 23, some 24, some 25, some 26, some 27, some 28, some 29, some 30, some 31, some 32, some 33, some 34, some 35, some 36, some 37, some 38, some 39, some 40, some 41, some 42, none, none, none, none, none, none, none, none, none, none, none, none, none, none, none, none, none, none, none, none, none, none, none, none, none, none, none, none, none, none, none] (by decide +kernel) rfl (fun H locs hP hD hS => ?_)
  have hP : va_P (dC, dI) vwCl (WW cI cJ cZ h0 a g0 g keptx T U Y0 Y1 (iZ (n : Int)) ps ac wy m1 m2 m3 m4 m5 s0 cr cs an w1 w2 w3 ra sa ta f1 f2 up lo wt M now rz am n1 n2 n3 n4 n5 n6 n7 n8 n9 n10 (iZ (n : Int)) pm ct io wl I Kp) H := hP
  have hD : va_D (fun q : Nat => s.heap.size ≤ q) (WW cI cJ cZ h0 a g0 g keptx T U Y0 Y1 (iZ (n : Int)) ps ac wy m1 m2 m3 m4 m5 s0 cr cs an w1 w2 w3 ra sa ta f1 f2 up lo wt M now rz am n1 n2 n3 n4 n5 n6 n7 n8 n9 n10 (iZ (n : Int)) pm ct io wl I Kp) := hD
  refine lv_aload_n hx hb dL_law_852 rfl (lv_at hl 2 rfl) ?_
  refine lv_aload_n hx hb dL_law_853 rfl (lv_at hl 0 rfl) ?_
  refine lv_iload_n hx hb dL_law_854 rfl (lv_at hl 3 rfl) ?_
  refine lv_iconst (v := 1) hx hb dL_law_855 (by decide) ?_
  refine lv_iadd hx hb dL_law_856 ?_
  refine va_sld hx hb hX hbl hbA hS (vin1 hi hL) dL_law_857 ?_
  refine kWi (rV (C := RX11) [.int (xs (nI i + 1).toNatClampNeg)] [.int r] S (c_X11_image l dC dI cI cJ cZ g0 (g 0) (g 2) (g 3) (g 4) (g 5) (g 6) (g 7) (g 8) (g 13) (g 14) (g 1) (g 9) (g 10) (g 11) (g 12) H.size M.rn M.sn (iZ (n : Int)) rz am n1 n2 n3 n4 n5 n6 n7 n8 n9 n10 M.bk M.wd M.ky M.wi M.dl M.ah M.af M.si I Kp (xs (nI i + 1).toNatClampNeg) r Ix Kpx hg) (cwV 1 hts gL_law_X11_image rfl rfl rfl (by decide +kernel) ⟨Nat.le_of_ble_eq_true rfl, Nat.le_of_ble_eq_true rfl⟩) (va_recv hK hP (ci := 11) (q0 := 72) rfl rfl) hP hD hK hN [72, 73, 75, 76, 77, 78, 79, 80, 81, 86, 87] rfl (by decide +kernel) rfl hl.1 rfl (Nat.le_of_ble_eq_true rfl) dL_law_858 ⟨Nat.le_of_ble_eq_true rfl, Nat.le_of_ble_eq_true rfl⟩) hP hD hS hA [72, 73, 75, 76, 77, 78, 79, 80, 81, 86, 87] rfl rfl [none, none, none, none, none, none, none, none, none, none, none, none, none, none, none, none, none, none, none, none, none, none, none, none, none, none, none, none, none, none, none, none, none, none, none, none, none, none, none, none, none, none, none, none, none, none, none, none, none, none, none, none, none, none, none, none, none, none, none, none, none, none, none, none, none, none, none, none, none, none, none, none, some 0, some 1, none, some 2, some 3, some 4, some 5, some 6, some 7, some 8, none, none, none, none, some 9, some 10] (by decide +kernel) rfl (fun H locs hP hD hS => ?_)
  have hP : va_P (dC, dI) vwCl (WW cI cJ cZ h0 a g0 g keptx T U Y0 Y1 (iZ (n : Int)) ps ac wy m1 m2 m3 m4 m5 s0 cr cs an w1 w2 w3 ra sa ta f1 f2 up lo wt M now rz am n1 n2 n3 n4 n5 n6 n7 n8 n9 n10 (iZ (n : Int)) pm ct io wl Ix Kpx) H := hP
  have hD : va_D (fun q : Nat => s.heap.size ≤ q) (WW cI cJ cZ h0 a g0 g keptx T U Y0 Y1 (iZ (n : Int)) ps ac wy m1 m2 m3 m4 m5 s0 cr cs an w1 w2 w3 ra sa ta f1 f2 up lo wt M now rz am n1 n2 n3 n4 n5 n6 n7 n8 n9 n10 (iZ (n : Int)) pm ct io wl Ix Kpx) := hD
  refine lv_icmp_eq (tgt := 912) hx hb dL_law_861 (by decide) (fun _ => ?_) (fun h9 => absurd rfl h9)
  exact kk H locs _ ⟨n, P, keptx, T, U, Y0, Y1, ps, ac, wy, m1, m2, m3, m4, m5, s0, cr, cs, an, w1, w2, w3, ra, sa, ta, f1, f2, up, lo, wt, M, now, rz, am, n1, n2, n3, n4, n5, n6, n7, n8, n9, n10, pm, ct, io, wl, Ix, Kpx, hT, hI2, hp, rfl⟩ hP hD hS
set_option maxRecDepth 100000 in
set_option maxHeartbeats 4000000 in
theorem op_restore (S : CallFix p m c cL_law 4 s #[Value.ref b] wsL_law RL) (hX : va_X b L xs s s.heap) (hbl : b < s.heap.size) (hL : L ≤ 2048) (hK : va_K (dC, dI) vwCl (TY cI cJ cZ) s) (hN : NW s) (hTab : TAB (fun q : Nat => s.heap.size ≤ q) tb s s.heap) {H : Heap} {locs : List Loc} {ws : va_W} (hR : RelW cI cJ cZ h0 a g0 g ws) (hP : va_P (dC, dI) vwCl ws H) (hD : va_D (fun q : Nat => s.heap.size ≤ q) ws) (hS : va_S (fun q : Nat => s.heap.size ≤ q) s.heap H locs) {ls : Array Slot} {i : Nat} (hi : i + 4 ≤ L) (hl : lv_has ls 4 [(0, .ref b), (1, .ref h0), (2, .ref g0), (3, .int (nI i))])
    (kk : ∀ (H : Heap) (locs : List Loc) (ws : va_W), RelW cI cJ cZ h0 a g0 g ws → va_P (dC, dI) vwCl ws H → va_D (fun q : Nat => s.heap.size ≤ q) ws → va_S (fun q : Nat => s.heap.size ≤ q) s.heap H locs → W p l e room_1 s m #[Value.ref b] below meth c H locs 88 1442 Q (F0 m 912 ls [])) : W p l e room_1 s m #[Value.ref b] below meth c H locs 88 1442 Q (F0 m 866 ls []) := by
  obtain ⟨hx, hb, hml, hown, hts⟩ := id S
  have hA : ∀ q : Nat, s.heap.size ≤ q → (fun q : Nat => s.heap.size ≤ q) q := fun _ h => h
  have hbA : ¬ (fun q : Nat => s.heap.size ≤ q) b := Nat.not_le.mpr hbl
  obtain ⟨n, P, kept, T, U, V0, V1, ps, ac, wy, m1, m2, m3, m4, m5, s0, cr, cs, an, w1, w2, w3, ra, sa, ta, f1, f2, up, lo, wt, M, now, rz, am, n1, n2, n3, n4, n5, n6, n7, n8, n9, n10, pm, ct, io, wl, I, Kp, hT, hI, hp, rfl⟩ := hR
  obtain ⟨r, T2, M2, hf, hg, hT2⟩ := restore_both hT hI (xs (nI i + 1).toNatClampNeg)
  refine lv_aload_n hx hb dL_law_866 rfl (lv_at hl 1 rfl) ?_
  refine lv_aload_n hx hb dL_law_867 rfl (lv_at hl 0 rfl) ?_
  refine lv_iload_n hx hb dL_law_868 rfl (lv_at hl 3 rfl) ?_
  refine lv_iconst (v := 1) hx hb dL_law_869 (by decide) ?_
  refine lv_iadd hx hb dL_law_870 ?_
  refine va_sld hx hb hX hbl hbA hS (vin1 hi hL) dL_law_871 ?_
  refine kWi (rV (C := RX10) [.int (xs (nI i + 1).toNatClampNeg)] [] S (c_X10_restore l dC dI cI cJ cZ h0 (a 0) (a 1) (a 2) (a 3) (a 4) (a 5) (a 6) (a 7) (a 8) (a 9) (a 10) (a 11) (a 12) (a 13) (a 28) (a 29) (a 30) (a 31) (a 32) (a 33) (a 34) (a 35) (a 36) (a 37) (a 38) (a 39) (a 40) (a 41) (a 42) (a 43) (a 44) (a 45) (a 46) (a 47) (a 48) (a 49) (a 50) (a 51) (a 52) (a 53) (a 54) (a 55) (a 14) (a 56) (a 58) (a 59) (a 60) (a 64) (a 68) (a 69) H.size kept T.w T.k T.c T.d T.b T.ro T.pl T.rc T.rf T.rs T.sc T.sf T.ss V0.w V0.k V0.c V0.d V0.b V0.ro V0.pl V0.rc V0.rf V0.rs V0.sc V0.sf V0.ss V1.w V1.k V1.c V1.d V1.b V1.ro V1.pl V1.rc V1.rf V1.rs V1.sc V1.sf V1.ss (xs (nI i + 1).toNatClampNeg) r T2.w T2.k T2.c T2.d T2.b T2.ro T2.pl T2.rc T2.rf T2.rs T2.sc T2.sf T2.ss hf) (cwV 1 hts gL_law_X10_restore rfl rfl rfl (by decide +kernel) ⟨Nat.le_of_ble_eq_true rfl, Nat.le_of_ble_eq_true rfl⟩) (va_recv hK hP (ci := 10) (q0 := 0) rfl rfl) hP hD hK hN [0, 1, 2, 3, 4, 5, 6, 7, 8, 9, 10, 11, 12, 13, 14, 29, 30, 31, 32, 33, 34, 35, 36, 37, 38, 39, 40, 41, 42, 43, 44, 45, 46, 47, 48, 49, 50, 51, 52, 53, 54, 55, 56] rfl (by decide +kernel) rfl hl.1 rfl (Nat.le_of_ble_eq_true rfl) dL_law_872 ⟨Nat.le_of_ble_eq_true rfl, Nat.le_of_ble_eq_true rfl⟩) hP hD hS hA [0, 1, 2, 3, 4, 5, 6, 7, 8, 9, 10, 11, 12, 13, 14, 29, 30, 31, 32, 33, 34, 35, 36, 37, 38, 39, 40, 41, 42, 43, 44, 45, 46, 47, 48, 49, 50, 51, 52, 53, 54, 55, 56] rfl rfl [some 0, some 1, some 2, some 3, some 4, some 5, some 6, some 7, some 8, some 9, some 10, some 11, some 12, some 13, some 14, none, none, none, none, none, none, none, none, none, none, none, none, none, none, some 15, some 16, some 17, some 18, some 19, some 20, some 21, some 22, some 23, some 24, some 25, some 26, some 27, some 28, some 29, some 30, some 31, some 32, some 33, some 34, some 35, some 36, some 37, some 38, some 39, some 40, some 41, some 42, none, none, none, none, none, none, none, none, none, none, none, none, none, none, none, none, none, none, none, none, none, none, none, none, none, none, none, none, none, none, none] (by decide +kernel) rfl (fun H locs hP hD hS => ?_)
  have hP : va_P (dC, dI) vwCl (WW cI cJ cZ h0 a g0 g kept T2 U V0 V1 (iZ (n : Int)) ps ac wy m1 m2 m3 m4 m5 s0 cr cs an w1 w2 w3 ra sa ta f1 f2 up lo wt M now rz am n1 n2 n3 n4 n5 n6 n7 n8 n9 n10 (iZ (n : Int)) pm ct io wl I Kp) H := hP
  have hD : va_D (fun q : Nat => s.heap.size ≤ q) (WW cI cJ cZ h0 a g0 g kept T2 U V0 V1 (iZ (n : Int)) ps ac wy m1 m2 m3 m4 m5 s0 cr cs an w1 w2 w3 ra sa ta f1 f2 up lo wt M now rz am n1 n2 n3 n4 n5 n6 n7 n8 n9 n10 (iZ (n : Int)) pm ct io wl I Kp) := hD
  refine lv_aload_n hx hb dL_law_875 rfl (lv_at hl 2 rfl) ?_
  refine lv_aload_n hx hb dL_law_876 rfl (lv_at hl 0 rfl) ?_
  refine lv_iload_n hx hb dL_law_877 rfl (lv_at hl 3 rfl) ?_
  refine lv_iconst (v := 1) hx hb dL_law_878 (by decide) ?_
  refine lv_iadd hx hb dL_law_879 ?_
  refine va_sld hx hb hX hbl hbA hS (vin1 hi hL) dL_law_880 ?_
  refine kWi (rV (C := RX11) [.int (xs (nI i + 1).toNatClampNeg)] [.int r] S (c_X11_restore l dC dI cI cJ cZ g0 (g 0) (g 2) (g 3) (g 4) (g 5) (g 6) (g 7) (g 8) (g 13) (g 14) (g 1) (g 9) (g 10) (g 11) (g 12) H.size M.rn M.sn (iZ (n : Int)) rz am n1 n2 n3 n4 n5 n6 n7 n8 n9 n10 M.bk M.wd M.ky M.wi M.dl M.ah M.af M.si I Kp (xs (nI i + 1).toNatClampNeg) r M2.rn M2.sn M2.bk M2.wd M2.ky M2.wi M2.dl M2.ah M2.af M2.si hg) (cwV 1 hts gL_law_X11_restore rfl rfl rfl (by decide +kernel) ⟨Nat.le_of_ble_eq_true rfl, Nat.le_of_ble_eq_true rfl⟩) (va_recv hK hP (ci := 11) (q0 := 72) rfl rfl) hP hD hK hN [72, 73, 75, 76, 77, 78, 79, 80, 81, 86, 87] rfl (by decide +kernel) rfl hl.1 rfl (Nat.le_of_ble_eq_true rfl) dL_law_881 ⟨Nat.le_of_ble_eq_true rfl, Nat.le_of_ble_eq_true rfl⟩) hP hD hS hA [72, 73, 75, 76, 77, 78, 79, 80, 81, 86, 87] rfl rfl [none, none, none, none, none, none, none, none, none, none, none, none, none, none, none, none, none, none, none, none, none, none, none, none, none, none, none, none, none, none, none, none, none, none, none, none, none, none, none, none, none, none, none, none, none, none, none, none, none, none, none, none, none, none, none, none, none, none, none, none, none, none, none, none, none, none, none, none, none, none, none, none, some 0, some 1, none, some 2, some 3, some 4, some 5, some 6, some 7, some 8, none, none, none, none, some 9, some 10] (by decide +kernel) rfl (fun H locs hP hD hS => ?_)
  have hP : va_P (dC, dI) vwCl (WW cI cJ cZ h0 a g0 g kept T2 U V0 V1 (iZ (n : Int)) ps ac wy m1 m2 m3 m4 m5 s0 cr cs an w1 w2 w3 ra sa ta f1 f2 up lo wt M2 now rz am n1 n2 n3 n4 n5 n6 n7 n8 n9 n10 (iZ (n : Int)) pm ct io wl I Kp) H := hP
  have hD : va_D (fun q : Nat => s.heap.size ≤ q) (WW cI cJ cZ h0 a g0 g kept T2 U V0 V1 (iZ (n : Int)) ps ac wy m1 m2 m3 m4 m5 s0 cr cs an w1 w2 w3 ra sa ta f1 f2 up lo wt M2 now rz am n1 n2 n3 n4 n5 n6 n7 n8 n9 n10 (iZ (n : Int)) pm ct io wl I Kp) := hD
  refine lv_icmp_eq (tgt := 912) hx hb dL_law_884 (by decide) (fun _ => ?_) (fun h9 => absurd rfl h9)
  exact kk H locs _ ⟨n, P, kept, T2, U, V0, V1, ps, ac, wy, m1, m2, m3, m4, m5, s0, cr, cs, an, w1, w2, w3, ra, sa, ta, f1, f2, up, lo, wt, M2, now, rz, am, n1, n2, n3, n4, n5, n6, n7, n8, n9, n10, pm, ct, io, wl, I, Kp, hT2, hI, hp, rfl⟩ hP hD hS
set_option maxRecDepth 100000 in
set_option maxHeartbeats 4000000 in
theorem op_told (S : CallFix p m c cL_law 4 s #[Value.ref b] wsL_law RL) (hX : va_X b L xs s s.heap) (hbl : b < s.heap.size) (hL : L ≤ 2048) (hK : va_K (dC, dI) vwCl (TY cI cJ cZ) s) (hN : NW s) (hTab : TAB (fun q : Nat => s.heap.size ≤ q) tb s s.heap) {H : Heap} {locs : List Loc} {ws : va_W} (hR : RelW cI cJ cZ h0 a g0 g ws) (hP : va_P (dC, dI) vwCl ws H) (hD : va_D (fun q : Nat => s.heap.size ≤ q) ws) (hS : va_S (fun q : Nat => s.heap.size ≤ q) s.heap H locs) {ls : Array Slot} {i : Nat} (hi : i + 4 ≤ L) (hl : lv_has ls 4 [(0, .ref b), (1, .ref h0), (2, .ref g0), (3, .int (nI i))])
    (kk : ∀ (H : Heap) (locs : List Loc) (ws : va_W), RelW cI cJ cZ h0 a g0 g ws → va_P (dC, dI) vwCl ws H → va_D (fun q : Nat => s.heap.size ≤ q) ws → va_S (fun q : Nat => s.heap.size ≤ q) s.heap H locs → W p l e room_1 s m #[Value.ref b] below meth c H locs 88 1442 Q (F0 m 912 ls [])) : W p l e room_1 s m #[Value.ref b] below meth c H locs 88 1442 Q (F0 m 889 ls []) := by
  obtain ⟨hx, hb, hml, hown, hts⟩ := id S
  have hA : ∀ q : Nat, s.heap.size ≤ q → (fun q : Nat => s.heap.size ≤ q) q := fun _ h => h
  have hbA : ¬ (fun q : Nat => s.heap.size ≤ q) b := Nat.not_le.mpr hbl
  obtain ⟨n, P, kept, T, U, V0, V1, ps, ac, wy, m1, m2, m3, m4, m5, s0, cr, cs, an, w1, w2, w3, ra, sa, ta, f1, f2, up, lo, wt, M, now, rz, am, n1, n2, n3, n4, n5, n6, n7, n8, n9, n10, pm, ct, io, wl, I, Kp, hT, hI, hp, rfl⟩ := hR
  obtain ⟨r, hf, hg⟩ := s_told hT n (xs (nI i + 1).toNatClampNeg)
  refine lv_aload_n hx hb dL_law_889 rfl (lv_at hl 1 rfl) ?_
  refine lv_aload_n hx hb dL_law_890 rfl (lv_at hl 0 rfl) ?_
  refine lv_iload_n hx hb dL_law_891 rfl (lv_at hl 3 rfl) ?_
  refine lv_iconst (v := 1) hx hb dL_law_892 (by decide) ?_
  refine lv_iadd hx hb dL_law_893 ?_
  refine va_sld hx hb hX hbl hbA hS (vin1 hi hL) dL_law_894 ?_
  refine kSi (rV (C := RX10) [.int (xs (nI i + 1).toNatClampNeg)] [] S (c_X10_told l dC dI cI cJ cZ h0 (a 0) (a 1) (a 2) (a 3) (a 4) (a 5) (a 6) (a 7) (a 8) (a 11) (a 56) (a 14) (a 28) (a 42) (a 58) (a 59) (a 60) (a 64) (a 68) (a 69) (a 9) (a 10) (a 12) (a 13) (a 57) H.size kept T.w T.k T.c T.d T.b T.ro T.pl T.rc T.sc (iZ (n : Int)) (xs (nI i + 1).toNatClampNeg) r hf) (cwV 1 hts gL_law_X10_told rfl rfl rfl (by decide +kernel) ⟨Nat.le_of_ble_eq_true rfl, Nat.le_of_ble_eq_true rfl⟩) (va_recv hK hP (ci := 10) (q0 := 0) rfl rfl) hP hD hK hN [0, 1, 2, 3, 4, 5, 6, 7, 8, 9, 12, 57] rfl (by decide +kernel) rfl hl.1 rfl (Nat.le_of_ble_eq_true rfl) dL_law_895 ⟨Nat.le_of_ble_eq_true rfl, Nat.le_of_ble_eq_true rfl⟩) ?_
  refine lv_aload_n hx hb dL_law_898 rfl (lv_at hl 2 rfl) ?_
  refine lv_aload_n hx hb dL_law_899 rfl (lv_at hl 0 rfl) ?_
  refine lv_iload_n hx hb dL_law_900 rfl (lv_at hl 3 rfl) ?_
  refine lv_iconst (v := 1) hx hb dL_law_901 (by decide) ?_
  refine lv_iadd hx hb dL_law_902 ?_
  refine va_sld hx hb hX hbl hbA hS (vin1 hi hL) dL_law_903 ?_
  refine kSi (rV (C := RX11) [.int (xs (nI i + 1).toNatClampNeg)] [.int r] S (c_X11_told l dC dI cI cJ cZ g0 (g 0) (g 2) (g 3) (g 4) (g 5) (g 1) (g 6) (g 7) (g 8) (g 9) (g 10) (g 11) (g 12) (g 13) (g 14) H.size M.rn M.sn (iZ (n : Int)) rz am n1 n2 n3 n4 n5 n6 n7 n8 n9 n10 M.bk M.wd M.ky M.wi M.dl (xs (nI i + 1).toNatClampNeg) r hg) (cwV 1 hts gL_law_X11_told rfl rfl rfl (by decide +kernel) ⟨Nat.le_of_ble_eq_true rfl, Nat.le_of_ble_eq_true rfl⟩) (va_recv hK hP (ci := 11) (q0 := 72) rfl rfl) hP hD hK hN [72, 73, 75, 76, 77, 78] rfl (by decide +kernel) rfl hl.1 rfl (Nat.le_of_ble_eq_true rfl) dL_law_904 ⟨Nat.le_of_ble_eq_true rfl, Nat.le_of_ble_eq_true rfl⟩) ?_
  refine lv_icmp_eq (tgt := 912) hx hb dL_law_907 (by decide) (fun _ => ?_) (fun h9 => absurd rfl h9)
  exact kk H locs _ ⟨n, P, kept, T, U, V0, V1, ps, ac, wy, m1, m2, m3, m4, m5, s0, cr, cs, an, w1, w2, w3, ra, sa, ta, f1, f2, up, lo, wt, M, now, rz, am, n1, n2, n3, n4, n5, n6, n7, n8, n9, n10, pm, ct, io, wl, I, Kp, hT, hI, hp, rfl⟩ hP hD hS
end LAWOP
