section LAWOP
variable {p : Program} {l : Launch} {e : Env} {s : State} {m : MethodId} {below : List Frame} {meth : Method} {c : Code} {Q : State → Prop}
variable {b L : Nat} {xs : Nat → Int32} {dC : Nat → ClassId} {dI : Nat → Nat → Nat} {cI cJ cZ : ClassId} {tb h0 g0 : Nat} {a g : Nat → Nat}
set_option maxRecDepth 100000 in
set_option maxHeartbeats 4000000 in
theorem op_member (S : CallFix p m c cL_law 4 s #[Value.ref b] wsL_law RL) (hX : va_X b L xs s s.heap) (hbl : b < s.heap.size) (hL : L ≤ 2048) (hK : va_K (dC, dI) vwCl (TY cI cJ cZ) s) (hN : NW s) (hTab : TAB (fun q : Nat => s.heap.size ≤ q) tb s s.heap) {H : Heap} {locs : List Loc} {ws : va_W} (hR : RelW cI cJ cZ h0 a g0 g ws) (hP : va_P (dC, dI) vwCl ws H) (hD : va_D (fun q : Nat => s.heap.size ≤ q) ws) (hS : va_S (fun q : Nat => s.heap.size ≤ q) s.heap H locs) {ls : Array Slot} {i : Nat} (hi : i + 4 ≤ L) (hl : lv_has ls 4 [(0, .ref b), (1, .ref h0), (2, .ref g0), (3, .int (nI i))])
    (kk : ∀ (H : Heap) (locs : List Loc) (ws : va_W), RelW cI cJ cZ h0 a g0 g ws → va_P (dC, dI) vwCl ws H → va_D (fun q : Nat => s.heap.size ≤ q) ws → va_S (fun q : Nat => s.heap.size ≤ q) s.heap H locs → W p l e room_1 s m #[Value.ref b] below meth c H locs 88 1442 Q (F0 m 912 ls [])) : W p l e room_1 s m #[Value.ref b] below meth c H locs 88 1442 Q (F0 m 164 ls []) := by
  obtain ⟨hx, hb, hml, hown, hts⟩ := id S
  have hA : ∀ q : Nat, s.heap.size ≤ q → (fun q : Nat => s.heap.size ≤ q) q := fun _ h => h
  have hbA : ¬ (fun q : Nat => s.heap.size ≤ q) b := Nat.not_le.mpr hbl
  obtain ⟨n, P, kept, T, U, V0, V1, ps, ac, wy, m1, m2, m3, m4, m5, s0, cr, cs, an, w1, w2, w3, ra, sa, ta, f1, f2, up, lo, wt, M, now, rz, am, n1, n2, n3, n4, n5, n6, n7, n8, n9, n10, pm, ct, io, wl, I, Kp, hT, hI, hp, rfl⟩ := hR
  obtain ⟨r, w2x, k2x, wdx, kyx, hf, hg, hT2⟩ := s_member hT (xs (nI i + 1).toNatClampNeg) (xs (nI i + 2).toNatClampNeg) (xs (nI i + 3).toNatClampNeg)
  refine lv_aload_n hx hb dL_law_164 rfl (lv_at hl 1 rfl) ?_
  refine lv_aload_n hx hb dL_law_165 rfl (lv_at hl 0 rfl) ?_
  refine lv_iload_n hx hb dL_law_166 rfl (lv_at hl 3 rfl) ?_
  refine lv_iconst (v := 1) hx hb dL_law_167 (by decide) ?_
  refine lv_iadd hx hb dL_law_168 ?_
  refine va_sld hx hb hX hbl hbA hS (vin1 hi hL) dL_law_169 ?_
  refine lv_aload_n hx hb dL_law_170 rfl (lv_at hl 0 rfl) ?_
  refine lv_iload_n hx hb dL_law_171 rfl (lv_at hl 3 rfl) ?_
  refine lv_iconst (v := 2) hx hb dL_law_172 (by decide) ?_
  refine lv_iadd hx hb dL_law_173 ?_
  refine va_sld hx hb hX hbl hbA hS (vin2 hi hL) dL_law_174 ?_
  refine lv_aload_n hx hb dL_law_175 rfl (lv_at hl 0 rfl) ?_
  refine lv_iload_n hx hb dL_law_176 rfl (lv_at hl 3 rfl) ?_
  refine lv_iconst (v := 3) hx hb dL_law_177 (by decide) ?_
  refine lv_iadd hx hb dL_law_178 ?_
  refine va_sld hx hb hX hbl hbA hS (vin3 hi hL) dL_law_179 ?_
  refine kWi (rV (C := RX10) [.int (xs (nI i + 1).toNatClampNeg), .int (xs (nI i + 2).toNatClampNeg), .int (xs (nI i + 3).toNatClampNeg)] [] S (c_X10_member l dC dI cI cJ cZ h0 (a 0) (a 1) (a 2) (a 14) (a 28) (a 42) (a 56) (a 58) (a 59) (a 60) (a 64) (a 68) (a 69) (a 3) (a 4) (a 5) (a 8) (a 11) H.size kept T.w T.k (xs (nI i + 1).toNatClampNeg) (xs (nI i + 2).toNatClampNeg) (xs (nI i + 3).toNatClampNeg) r w2x k2x hf) (cwV 3 hts gL_law_X10_member rfl rfl rfl (by decide +kernel) ⟨Nat.le_of_ble_eq_true rfl, Nat.le_of_ble_eq_true rfl⟩) (va_recv hK hP (ci := 10) (q0 := 0) rfl rfl) hP hD hK hN [0, 1, 2, 3] rfl (by decide +kernel) rfl hl.1 rfl (Nat.le_of_ble_eq_true rfl) dL_law_180 ⟨Nat.le_of_ble_eq_true rfl, Nat.le_of_ble_eq_true rfl⟩) hP hD hS hA [0, 1, 2, 3] rfl rfl [some 0, some 1, some 2, some 3, none, none, none, none, none, none, none, none, none, none, none, none, none, none, none, none, none, none, none, none, none, none, none, none, none, none, none, none, none, none, none, none, none, none, none, none, none, none, none, none, none, none, none, none, none, none, none, none, none, none, none, none, none, none, none, none, none, none, none, none, none, none, none, none, none, none, none, none, none, none, none, none, none, none, none, none, none, none, none, none, none, none, none, none] (by decide +kernel) rfl (fun H locs hP hD hS => ?_)
  have hP : va_P (dC, dI) vwCl (WW cI cJ cZ h0 a g0 g kept ((w2x, k2x, T.c, T.d, T.b, T.ro, T.pl, T.rc, T.rf, T.rs, T.sc, T.sf, T.ss)) U V0 V1 (iZ (n : Int)) ps ac wy m1 m2 m3 m4 m5 s0 cr cs an w1 w2 w3 ra sa ta f1 f2 up lo wt M now rz am n1 n2 n3 n4 n5 n6 n7 n8 n9 n10 (iZ (n : Int)) pm ct io wl I Kp) H := hP
  have hD : va_D (fun q : Nat => s.heap.size ≤ q) (WW cI cJ cZ h0 a g0 g kept ((w2x, k2x, T.c, T.d, T.b, T.ro, T.pl, T.rc, T.rf, T.rs, T.sc, T.sf, T.ss)) U V0 V1 (iZ (n : Int)) ps ac wy m1 m2 m3 m4 m5 s0 cr cs an w1 w2 w3 ra sa ta f1 f2 up lo wt M now rz am n1 n2 n3 n4 n5 n6 n7 n8 n9 n10 (iZ (n : Int)) pm ct io wl I Kp) := hD
  refine lv_aload_n hx hb dL_law_183 rfl (lv_at hl 2 rfl) ?_
  refine lv_aload_n hx hb dL_law_184 rfl (lv_at hl 0 rfl) ?_
  refine lv_iload_n hx hb dL_law_185 rfl (lv_at hl 3 rfl) ?_
  refine lv_iconst (v := 1) hx hb dL_law_186 (by decide) ?_
  refine lv_iadd hx hb dL_law_187 ?_
  refine va_sld hx hb hX hbl hbA hS (vin1 hi hL) dL_law_188 ?_
  refine lv_aload_n hx hb dL_law_189 rfl (lv_at hl 0 rfl) ?_
  refine lv_iload_n hx hb dL_law_190 rfl (lv_at hl 3 rfl) ?_
  refine lv_iconst (v := 2) hx hb dL_law_191 (by decide) ?_
  refine lv_iadd hx hb dL_law_192 ?_
  refine va_sld hx hb hX hbl hbA hS (vin2 hi hL) dL_law_193 ?_
  refine lv_aload_n hx hb dL_law_194 rfl (lv_at hl 0 rfl) ?_
  refine lv_iload_n hx hb dL_law_195 rfl (lv_at hl 3 rfl) ?_
  refine lv_iconst (v := 3) hx hb dL_law_196 (by decide) ?_
  refine lv_iadd hx hb dL_law_197 ?_
  refine va_sld hx hb hX hbl hbA hS (vin3 hi hL) dL_law_198 ?_
  refine kWi (rV (C := RX11) [.int (xs (nI i + 1).toNatClampNeg), .int (xs (nI i + 2).toNatClampNeg), .int (xs (nI i + 3).toNatClampNeg)] [.int r] S (c_X11_member l dC dI cI cJ cZ g0 (g 2) (g 3) (g 0) (g 1) (g 4) (g 5) (g 6) (g 7) (g 8) (g 9) (g 10) (g 11) (g 12) (g 13) (g 14) H.size M.rn M.sn (iZ (n : Int)) rz am n1 n2 n3 n4 n5 n6 n7 n8 n9 n10 M.wd M.ky (xs (nI i + 1).toNatClampNeg) (xs (nI i + 2).toNatClampNeg) (xs (nI i + 3).toNatClampNeg) r wdx kyx hg) (cwV 3 hts gL_law_X11_member rfl rfl rfl (by decide +kernel) ⟨Nat.le_of_ble_eq_true rfl, Nat.le_of_ble_eq_true rfl⟩) (va_recv hK hP (ci := 11) (q0 := 72) rfl rfl) hP hD hK hN [72, 75, 76] rfl (by decide +kernel) rfl hl.1 rfl (Nat.le_of_ble_eq_true rfl) dL_law_199 ⟨Nat.le_of_ble_eq_true rfl, Nat.le_of_ble_eq_true rfl⟩) hP hD hS hA [72, 75, 76] rfl rfl [none, none, none, none, none, none, none, none, none, none, none, none, none, none, none, none, none, none, none, none, none, none, none, none, none, none, none, none, none, none, none, none, none, none, none, none, none, none, none, none, none, none, none, none, none, none, none, none, none, none, none, none, none, none, none, none, none, none, none, none, none, none, none, none, none, none, none, none, none, none, none, none, some 0, none, none, some 1, some 2, none, none, none, none, none, none, none, none, none, none, none] (by decide +kernel) rfl (fun H locs hP hD hS => ?_)
  have hP : va_P (dC, dI) vwCl (WW cI cJ cZ h0 a g0 g kept ((w2x, k2x, T.c, T.d, T.b, T.ro, T.pl, T.rc, T.rf, T.rs, T.sc, T.sf, T.ss)) U V0 V1 (iZ (n : Int)) ps ac wy m1 m2 m3 m4 m5 s0 cr cs an w1 w2 w3 ra sa ta f1 f2 up lo wt ((M.bk, wdx, kyx, M.wi, M.dl, M.rn, M.ah, M.af, M.sn, M.si)) now rz am n1 n2 n3 n4 n5 n6 n7 n8 n9 n10 (iZ (n : Int)) pm ct io wl I Kp) H := hP
  have hD : va_D (fun q : Nat => s.heap.size ≤ q) (WW cI cJ cZ h0 a g0 g kept ((w2x, k2x, T.c, T.d, T.b, T.ro, T.pl, T.rc, T.rf, T.rs, T.sc, T.sf, T.ss)) U V0 V1 (iZ (n : Int)) ps ac wy m1 m2 m3 m4 m5 s0 cr cs an w1 w2 w3 ra sa ta f1 f2 up lo wt ((M.bk, wdx, kyx, M.wi, M.dl, M.rn, M.ah, M.af, M.sn, M.si)) now rz am n1 n2 n3 n4 n5 n6 n7 n8 n9 n10 (iZ (n : Int)) pm ct io wl I Kp) := hD
  refine lv_icmp_eq (tgt := 912) hx hb dL_law_202 (by decide) (fun _ => ?_) (fun h9 => absurd rfl h9)
  exact kk H locs _ ⟨n, P, kept, (w2x, k2x, T.c, T.d, T.b, T.ro, T.pl, T.rc, T.rf, T.rs, T.sc, T.sf, T.ss), U, V0, V1, ps, ac, wy, m1, m2, m3, m4, m5, s0, cr, cs, an, w1, w2, w3, ra, sa, ta, f1, f2, up, lo, wt, (M.bk, wdx, kyx, M.wi, M.dl, M.rn, M.ah, M.af, M.sn, M.si), now, rz, am, n1, n2, n3, n4, n5, n6, n7, n8, n9, n10, pm, ct, io, wl, I, Kp, hT2, hI, hp, rfl⟩ hP hD hS
set_option maxRecDepth 100000 in
set_option maxHeartbeats 4000000 in
theorem op_wide (S : CallFix p m c cL_law 4 s #[Value.ref b] wsL_law RL) (hX : va_X b L xs s s.heap) (hbl : b < s.heap.size) (hL : L ≤ 2048) (hK : va_K (dC, dI) vwCl (TY cI cJ cZ) s) (hN : NW s) (hTab : TAB (fun q : Nat => s.heap.size ≤ q) tb s s.heap) {H : Heap} {locs : List Loc} {ws : va_W} (hR : RelW cI cJ cZ h0 a g0 g ws) (hP : va_P (dC, dI) vwCl ws H) (hD : va_D (fun q : Nat => s.heap.size ≤ q) ws) (hS : va_S (fun q : Nat => s.heap.size ≤ q) s.heap H locs) {ls : Array Slot} {i : Nat} (hi : i + 4 ≤ L) (hl : lv_has ls 4 [(0, .ref b), (1, .ref h0), (2, .ref g0), (3, .int (nI i))])
    (kk : ∀ (H : Heap) (locs : List Loc) (ws : va_W), RelW cI cJ cZ h0 a g0 g ws → va_P (dC, dI) vwCl ws H → va_D (fun q : Nat => s.heap.size ≤ q) ws → va_S (fun q : Nat => s.heap.size ≤ q) s.heap H locs → W p l e room_1 s m #[Value.ref b] below meth c H locs 88 1442 Q (F0 m 912 ls [])) : W p l e room_1 s m #[Value.ref b] below meth c H locs 88 1442 Q (F0 m 207 ls []) := by
  obtain ⟨hx, hb, hml, hown, hts⟩ := id S
  have hA : ∀ q : Nat, s.heap.size ≤ q → (fun q : Nat => s.heap.size ≤ q) q := fun _ h => h
  have hbA : ¬ (fun q : Nat => s.heap.size ≤ q) b := Nat.not_le.mpr hbl
  obtain ⟨n, P, kept, T, U, V0, V1, ps, ac, wy, m1, m2, m3, m4, m5, s0, cr, cs, an, w1, w2, w3, ra, sa, ta, f1, f2, up, lo, wt, M, now, rz, am, n1, n2, n3, n4, n5, n6, n7, n8, n9, n10, pm, ct, io, wl, I, Kp, hT, hI, hp, rfl⟩ := hR
  obtain ⟨r, cx, wix, hf, hg, hT2⟩ := s_wide hT (xs (nI i + 1).toNatClampNeg) (xs (nI i + 2).toNatClampNeg)
  refine lv_aload_n hx hb dL_law_207 rfl (lv_at hl 1 rfl) ?_
  refine lv_aload_n hx hb dL_law_208 rfl (lv_at hl 0 rfl) ?_
  refine lv_iload_n hx hb dL_law_209 rfl (lv_at hl 3 rfl) ?_
  refine lv_iconst (v := 1) hx hb dL_law_210 (by decide) ?_
  refine lv_iadd hx hb dL_law_211 ?_
  refine va_sld hx hb hX hbl hbA hS (vin1 hi hL) dL_law_212 ?_
  refine lv_aload_n hx hb dL_law_213 rfl (lv_at hl 0 rfl) ?_
  refine lv_iload_n hx hb dL_law_214 rfl (lv_at hl 3 rfl) ?_
  refine lv_iconst (v := 2) hx hb dL_law_215 (by decide) ?_
  refine lv_iadd hx hb dL_law_216 ?_
  refine va_sld hx hb hX hbl hbA hS (vin2 hi hL) dL_law_217 ?_
  refine kWi (rV (C := RX10) [.int (xs (nI i + 1).toNatClampNeg), .int (xs (nI i + 2).toNatClampNeg)] [] S (c_X10_wide l dC dI cI cJ cZ h0 (a 0) (a 3) (a 14) (a 28) (a 42) (a 56) (a 58) (a 59) (a 60) (a 64) (a 68) (a 69) (a 1) (a 2) (a 4) (a 5) (a 8) (a 11) H.size kept T.c (xs (nI i + 1).toNatClampNeg) (xs (nI i + 2).toNatClampNeg) r cx hf) (cwV 2 hts gL_law_X10_wide rfl rfl rfl (by decide +kernel) ⟨Nat.le_of_ble_eq_true rfl, Nat.le_of_ble_eq_true rfl⟩) (va_recv hK hP (ci := 10) (q0 := 0) rfl rfl) hP hD hK hN [0, 1, 4] rfl (by decide +kernel) rfl hl.1 rfl (Nat.le_of_ble_eq_true rfl) dL_law_218 ⟨Nat.le_of_ble_eq_true rfl, Nat.le_of_ble_eq_true rfl⟩) hP hD hS hA [0, 1, 4] rfl rfl [some 0, some 1, none, none, some 2, none, none, none, none, none, none, none, none, none, none, none, none, none, none, none, none, none, none, none, none, none, none, none, none, none, none, none, none, none, none, none, none, none, none, none, none, none, none, none, none, none, none, none, none, none, none, none, none, none, none, none, none, none, none, none, none, none, none, none, none, none, none, none, none, none, none, none, none, none, none, none, none, none, none, none, none, none, none, none, none, none, none, none] (by decide +kernel) rfl (fun H locs hP hD hS => ?_)
  have hP : va_P (dC, dI) vwCl (WW cI cJ cZ h0 a g0 g kept ((T.w, T.k, cx, T.d, T.b, T.ro, T.pl, T.rc, T.rf, T.rs, T.sc, T.sf, T.ss)) U V0 V1 (iZ (n : Int)) ps ac wy m1 m2 m3 m4 m5 s0 cr cs an w1 w2 w3 ra sa ta f1 f2 up lo wt M now rz am n1 n2 n3 n4 n5 n6 n7 n8 n9 n10 (iZ (n : Int)) pm ct io wl I Kp) H := hP
  have hD : va_D (fun q : Nat => s.heap.size ≤ q) (WW cI cJ cZ h0 a g0 g kept ((T.w, T.k, cx, T.d, T.b, T.ro, T.pl, T.rc, T.rf, T.rs, T.sc, T.sf, T.ss)) U V0 V1 (iZ (n : Int)) ps ac wy m1 m2 m3 m4 m5 s0 cr cs an w1 w2 w3 ra sa ta f1 f2 up lo wt M now rz am n1 n2 n3 n4 n5 n6 n7 n8 n9 n10 (iZ (n : Int)) pm ct io wl I Kp) := hD
  refine lv_aload_n hx hb dL_law_221 rfl (lv_at hl 2 rfl) ?_
  refine lv_aload_n hx hb dL_law_222 rfl (lv_at hl 0 rfl) ?_
  refine lv_iload_n hx hb dL_law_223 rfl (lv_at hl 3 rfl) ?_
  refine lv_iconst (v := 1) hx hb dL_law_224 (by decide) ?_
  refine lv_iadd hx hb dL_law_225 ?_
  refine va_sld hx hb hX hbl hbA hS (vin1 hi hL) dL_law_226 ?_
  refine lv_aload_n hx hb dL_law_227 rfl (lv_at hl 0 rfl) ?_
  refine lv_iload_n hx hb dL_law_228 rfl (lv_at hl 3 rfl) ?_
  refine lv_iconst (v := 2) hx hb dL_law_229 (by decide) ?_
  refine lv_iadd hx hb dL_law_230 ?_
  refine va_sld hx hb hX hbl hbA hS (vin2 hi hL) dL_law_231 ?_
  refine kWi (rV (C := RX11) [.int (xs (nI i + 1).toNatClampNeg), .int (xs (nI i + 2).toNatClampNeg)] [.int r] S (c_X11_wide l dC dI cI cJ cZ g0 (g 4) (g 0) (g 1) (g 2) (g 3) (g 5) (g 6) (g 7) (g 8) (g 9) (g 10) (g 11) (g 12) (g 13) (g 14) H.size M.rn M.sn (iZ (n : Int)) rz am n1 n2 n3 n4 n5 n6 n7 n8 n9 n10 M.wi (xs (nI i + 1).toNatClampNeg) (xs (nI i + 2).toNatClampNeg) r wix hg) (cwV 2 hts gL_law_X11_wide rfl rfl rfl (by decide +kernel) ⟨Nat.le_of_ble_eq_true rfl, Nat.le_of_ble_eq_true rfl⟩) (va_recv hK hP (ci := 11) (q0 := 72) rfl rfl) hP hD hK hN [72, 77] rfl (by decide +kernel) rfl hl.1 rfl (Nat.le_of_ble_eq_true rfl) dL_law_232 ⟨Nat.le_of_ble_eq_true rfl, Nat.le_of_ble_eq_true rfl⟩) hP hD hS hA [72, 77] rfl rfl [none, none, none, none, none, none, none, none, none, none, none, none, none, none, none, none, none, none, none, none, none, none, none, none, none, none, none, none, none, none, none, none, none, none, none, none, none, none, none, none, none, none, none, none, none, none, none, none, none, none, none, none, none, none, none, none, none, none, none, none, none, none, none, none, none, none, none, none, none, none, none, none, some 0, none, none, none, none, some 1, none, none, none, none, none, none, none, none, none, none] (by decide +kernel) rfl (fun H locs hP hD hS => ?_)
  have hP : va_P (dC, dI) vwCl (WW cI cJ cZ h0 a g0 g kept ((T.w, T.k, cx, T.d, T.b, T.ro, T.pl, T.rc, T.rf, T.rs, T.sc, T.sf, T.ss)) U V0 V1 (iZ (n : Int)) ps ac wy m1 m2 m3 m4 m5 s0 cr cs an w1 w2 w3 ra sa ta f1 f2 up lo wt ((M.bk, M.wd, M.ky, wix, M.dl, M.rn, M.ah, M.af, M.sn, M.si)) now rz am n1 n2 n3 n4 n5 n6 n7 n8 n9 n10 (iZ (n : Int)) pm ct io wl I Kp) H := hP
  have hD : va_D (fun q : Nat => s.heap.size ≤ q) (WW cI cJ cZ h0 a g0 g kept ((T.w, T.k, cx, T.d, T.b, T.ro, T.pl, T.rc, T.rf, T.rs, T.sc, T.sf, T.ss)) U V0 V1 (iZ (n : Int)) ps ac wy m1 m2 m3 m4 m5 s0 cr cs an w1 w2 w3 ra sa ta f1 f2 up lo wt ((M.bk, M.wd, M.ky, wix, M.dl, M.rn, M.ah, M.af, M.sn, M.si)) now rz am n1 n2 n3 n4 n5 n6 n7 n8 n9 n10 (iZ (n : Int)) pm ct io wl I Kp) := hD
  refine lv_icmp_eq (tgt := 912) hx hb dL_law_235 (by decide) (fun _ => ?_) (fun h9 => absurd rfl h9)
  exact kk H locs _ ⟨n, P, kept, (T.w, T.k, cx, T.d, T.b, T.ro, T.pl, T.rc, T.rf, T.rs, T.sc, T.sf, T.ss), U, V0, V1, ps, ac, wy, m1, m2, m3, m4, m5, s0, cr, cs, an, w1, w2, w3, ra, sa, ta, f1, f2, up, lo, wt, (M.bk, M.wd, M.ky, wix, M.dl, M.rn, M.ah, M.af, M.sn, M.si), now, rz, am, n1, n2, n3, n4, n5, n6, n7, n8, n9, n10, pm, ct, io, wl, I, Kp, hT2, hI, hp, rfl⟩ hP hD hS
set_option maxRecDepth 100000 in
set_option maxHeartbeats 4000000 in
theorem op_delay (S : CallFix p m c cL_law 4 s #[Value.ref b] wsL_law RL) (hX : va_X b L xs s s.heap) (hbl : b < s.heap.size) (hL : L ≤ 2048) (hK : va_K (dC, dI) vwCl (TY cI cJ cZ) s) (hN : NW s) (hTab : TAB (fun q : Nat => s.heap.size ≤ q) tb s s.heap) {H : Heap} {locs : List Loc} {ws : va_W} (hR : RelW cI cJ cZ h0 a g0 g ws) (hP : va_P (dC, dI) vwCl ws H) (hD : va_D (fun q : Nat => s.heap.size ≤ q) ws) (hS : va_S (fun q : Nat => s.heap.size ≤ q) s.heap H locs) {ls : Array Slot} {i : Nat} (hi : i + 4 ≤ L) (hl : lv_has ls 4 [(0, .ref b), (1, .ref h0), (2, .ref g0), (3, .int (nI i))])
    (kk : ∀ (H : Heap) (locs : List Loc) (ws : va_W), RelW cI cJ cZ h0 a g0 g ws → va_P (dC, dI) vwCl ws H → va_D (fun q : Nat => s.heap.size ≤ q) ws → va_S (fun q : Nat => s.heap.size ≤ q) s.heap H locs → W p l e room_1 s m #[Value.ref b] below meth c H locs 88 1442 Q (F0 m 912 ls [])) : W p l e room_1 s m #[Value.ref b] below meth c H locs 88 1442 Q (F0 m 240 ls []) := by
  obtain ⟨hx, hb, hml, hown, hts⟩ := id S
  have hA : ∀ q : Nat, s.heap.size ≤ q → (fun q : Nat => s.heap.size ≤ q) q := fun _ h => h
  have hbA : ¬ (fun q : Nat => s.heap.size ≤ q) b := Nat.not_le.mpr hbl
  obtain ⟨n, P, kept, T, U, V0, V1, ps, ac, wy, m1, m2, m3, m4, m5, s0, cr, cs, an, w1, w2, w3, ra, sa, ta, f1, f2, up, lo, wt, M, now, rz, am, n1, n2, n3, n4, n5, n6, n7, n8, n9, n10, pm, ct, io, wl, I, Kp, hT, hI, hp, rfl⟩ := hR
  obtain ⟨r, dx, dlx, hf, hg, hT2⟩ := s_delay hT (xs (nI i + 1).toNatClampNeg) (xs (nI i + 2).toNatClampNeg)
  refine lv_aload_n hx hb dL_law_240 rfl (lv_at hl 1 rfl) ?_
  refine lv_aload_n hx hb dL_law_241 rfl (lv_at hl 0 rfl) ?_
  refine lv_iload_n hx hb dL_law_242 rfl (lv_at hl 3 rfl) ?_
  refine lv_iconst (v := 1) hx hb dL_law_243 (by decide) ?_
  refine lv_iadd hx hb dL_law_244 ?_
  refine va_sld hx hb hX hbl hbA hS (vin1 hi hL) dL_law_245 ?_
  refine lv_aload_n hx hb dL_law_246 rfl (lv_at hl 0 rfl) ?_
  refine lv_iload_n hx hb dL_law_247 rfl (lv_at hl 3 rfl) ?_
  refine lv_iconst (v := 2) hx hb dL_law_248 (by decide) ?_
  refine lv_iadd hx hb dL_law_249 ?_
  refine va_sld hx hb hX hbl hbA hS (vin2 hi hL) dL_law_250 ?_
  refine kWi (rV (C := RX10) [.int (xs (nI i + 1).toNatClampNeg), .int (xs (nI i + 2).toNatClampNeg)] [] S (c_X10_delay l dC dI cI cJ cZ h0 (a 0) (a 4) (a 14) (a 28) (a 42) (a 56) (a 58) (a 59) (a 60) (a 64) (a 68) (a 69) (a 1) (a 2) (a 3) (a 5) (a 8) (a 11) H.size kept T.d (xs (nI i + 1).toNatClampNeg) (xs (nI i + 2).toNatClampNeg) r dx hf) (cwV 2 hts gL_law_X10_delay rfl rfl rfl (by decide +kernel) ⟨Nat.le_of_ble_eq_true rfl, Nat.le_of_ble_eq_true rfl⟩) (va_recv hK hP (ci := 10) (q0 := 0) rfl rfl) hP hD hK hN [0, 1, 5] rfl (by decide +kernel) rfl hl.1 rfl (Nat.le_of_ble_eq_true rfl) dL_law_251 ⟨Nat.le_of_ble_eq_true rfl, Nat.le_of_ble_eq_true rfl⟩) hP hD hS hA [0, 1, 5] rfl rfl [some 0, some 1, none, none, none, some 2, none, none, none, none, none, none, none, none, none, none, none, none, none, none, none, none, none, none, none, none, none, none, none, none, none, none, none, none, none, none, none, none, none, none, none, none, none, none, none, none, none, none, none, none, none, none, none, none, none, none, none, none, none, none, none, none, none, none, none, none, none, none, none, none, none, none, none, none, none, none, none, none, none, none, none, none, none, none, none, none, none, none] (by decide +kernel) rfl (fun H locs hP hD hS => ?_)
  have hP : va_P (dC, dI) vwCl (WW cI cJ cZ h0 a g0 g kept ((T.w, T.k, T.c, dx, T.b, T.ro, T.pl, T.rc, T.rf, T.rs, T.sc, T.sf, T.ss)) U V0 V1 (iZ (n : Int)) ps ac wy m1 m2 m3 m4 m5 s0 cr cs an w1 w2 w3 ra sa ta f1 f2 up lo wt M now rz am n1 n2 n3 n4 n5 n6 n7 n8 n9 n10 (iZ (n : Int)) pm ct io wl I Kp) H := hP
  have hD : va_D (fun q : Nat => s.heap.size ≤ q) (WW cI cJ cZ h0 a g0 g kept ((T.w, T.k, T.c, dx, T.b, T.ro, T.pl, T.rc, T.rf, T.rs, T.sc, T.sf, T.ss)) U V0 V1 (iZ (n : Int)) ps ac wy m1 m2 m3 m4 m5 s0 cr cs an w1 w2 w3 ra sa ta f1 f2 up lo wt M now rz am n1 n2 n3 n4 n5 n6 n7 n8 n9 n10 (iZ (n : Int)) pm ct io wl I Kp) := hD
  refine lv_aload_n hx hb dL_law_254 rfl (lv_at hl 2 rfl) ?_
  refine lv_aload_n hx hb dL_law_255 rfl (lv_at hl 0 rfl) ?_
  refine lv_iload_n hx hb dL_law_256 rfl (lv_at hl 3 rfl) ?_
  refine lv_iconst (v := 1) hx hb dL_law_257 (by decide) ?_
  refine lv_iadd hx hb dL_law_258 ?_
  refine va_sld hx hb hX hbl hbA hS (vin1 hi hL) dL_law_259 ?_
  refine lv_aload_n hx hb dL_law_260 rfl (lv_at hl 0 rfl) ?_
  refine lv_iload_n hx hb dL_law_261 rfl (lv_at hl 3 rfl) ?_
  refine lv_iconst (v := 2) hx hb dL_law_262 (by decide) ?_
  refine lv_iadd hx hb dL_law_263 ?_
  refine va_sld hx hb hX hbl hbA hS (vin2 hi hL) dL_law_264 ?_
  refine kWi (rV (C := RX11) [.int (xs (nI i + 1).toNatClampNeg), .int (xs (nI i + 2).toNatClampNeg)] [.int r] S (c_X11_delay l dC dI cI cJ cZ g0 (g 5) (g 0) (g 1) (g 2) (g 3) (g 4) (g 6) (g 7) (g 8) (g 9) (g 10) (g 11) (g 12) (g 13) (g 14) H.size M.rn M.sn (iZ (n : Int)) rz am n1 n2 n3 n4 n5 n6 n7 n8 n9 n10 M.dl (xs (nI i + 1).toNatClampNeg) (xs (nI i + 2).toNatClampNeg) r dlx hg) (cwV 2 hts gL_law_X11_delay rfl rfl rfl (by decide +kernel) ⟨Nat.le_of_ble_eq_true rfl, Nat.le_of_ble_eq_true rfl⟩) (va_recv hK hP (ci := 11) (q0 := 72) rfl rfl) hP hD hK hN [72, 78] rfl (by decide +kernel) rfl hl.1 rfl (Nat.le_of_ble_eq_true rfl) dL_law_265 ⟨Nat.le_of_ble_eq_true rfl, Nat.le_of_ble_eq_true rfl⟩) hP hD hS hA [72, 78] rfl rfl [none, none, none, none, none, none, none, none, none, none, none, none, none, none, none, none, none, none, none, none, none, none, none, none, none, none, none, none, none, none, none, none, none, none, none, none, none, none, none, none, none, none, none, none, none, none, none, none, none, none, none, none, none, none, none, none, none, none, none, none, none, none, none, none, none, none, none, none, none, none, none, none, some 0, none, none, none, none, none, some 1, none, none, none, none, none, none, none, none, none] (by decide +kernel) rfl (fun H locs hP hD hS => ?_)
  have hP : va_P (dC, dI) vwCl (WW cI cJ cZ h0 a g0 g kept ((T.w, T.k, T.c, dx, T.b, T.ro, T.pl, T.rc, T.rf, T.rs, T.sc, T.sf, T.ss)) U V0 V1 (iZ (n : Int)) ps ac wy m1 m2 m3 m4 m5 s0 cr cs an w1 w2 w3 ra sa ta f1 f2 up lo wt ((M.bk, M.wd, M.ky, M.wi, dlx, M.rn, M.ah, M.af, M.sn, M.si)) now rz am n1 n2 n3 n4 n5 n6 n7 n8 n9 n10 (iZ (n : Int)) pm ct io wl I Kp) H := hP
  have hD : va_D (fun q : Nat => s.heap.size ≤ q) (WW cI cJ cZ h0 a g0 g kept ((T.w, T.k, T.c, dx, T.b, T.ro, T.pl, T.rc, T.rf, T.rs, T.sc, T.sf, T.ss)) U V0 V1 (iZ (n : Int)) ps ac wy m1 m2 m3 m4 m5 s0 cr cs an w1 w2 w3 ra sa ta f1 f2 up lo wt ((M.bk, M.wd, M.ky, M.wi, dlx, M.rn, M.ah, M.af, M.sn, M.si)) now rz am n1 n2 n3 n4 n5 n6 n7 n8 n9 n10 (iZ (n : Int)) pm ct io wl I Kp) := hD
  refine lv_icmp_eq (tgt := 912) hx hb dL_law_268 (by decide) (fun _ => ?_) (fun h9 => absurd rfl h9)
  exact kk H locs _ ⟨n, P, kept, (T.w, T.k, T.c, dx, T.b, T.ro, T.pl, T.rc, T.rf, T.rs, T.sc, T.sf, T.ss), U, V0, V1, ps, ac, wy, m1, m2, m3, m4, m5, s0, cr, cs, an, w1, w2, w3, ra, sa, ta, f1, f2, up, lo, wt, (M.bk, M.wd, M.ky, M.wi, dlx, M.rn, M.ah, M.af, M.sn, M.si), now, rz, am, n1, n2, n3, n4, n5, n6, n7, n8, n9, n10, pm, ct, io, wl, I, Kp, hT2, hI, hp, rfl⟩ hP hD hS
set_option maxRecDepth 100000 in
set_option maxHeartbeats 4000000 in
theorem op_say (S : CallFix p m c cL_law 4 s #[Value.ref b] wsL_law RL) (hX : va_X b L xs s s.heap) (hbl : b < s.heap.size) (hL : L ≤ 2048) (hK : va_K (dC, dI) vwCl (TY cI cJ cZ) s) (hN : NW s) (hTab : TAB (fun q : Nat => s.heap.size ≤ q) tb s s.heap) {H : Heap} {locs : List Loc} {ws : va_W} (hR : RelW cI cJ cZ h0 a g0 g ws) (hP : va_P (dC, dI) vwCl ws H) (hD : va_D (fun q : Nat => s.heap.size ≤ q) ws) (hS : va_S (fun q : Nat => s.heap.size ≤ q) s.heap H locs) {ls : Array Slot} {i : Nat} (hi : i + 4 ≤ L) (hl : lv_has ls 4 [(0, .ref b), (1, .ref h0), (2, .ref g0), (3, .int (nI i))])
    (kk : ∀ (H : Heap) (locs : List Loc) (ws : va_W), RelW cI cJ cZ h0 a g0 g ws → va_P (dC, dI) vwCl ws H → va_D (fun q : Nat => s.heap.size ≤ q) ws → va_S (fun q : Nat => s.heap.size ≤ q) s.heap H locs → W p l e room_1 s m #[Value.ref b] below meth c H locs 88 1442 Q (F0 m 912 ls [])) : W p l e room_1 s m #[Value.ref b] below meth c H locs 88 1442 Q (F0 m 273 ls []) := by
  obtain ⟨hx, hb, hml, hown, hts⟩ := id S
  have hA : ∀ q : Nat, s.heap.size ≤ q → (fun q : Nat => s.heap.size ≤ q) q := fun _ h => h
  have hbA : ¬ (fun q : Nat => s.heap.size ≤ q) b := Nat.not_le.mpr hbl
  obtain ⟨n, P, kept, T, U, V0, V1, ps, ac, wy, m1, m2, m3, m4, m5, s0, cr, cs, an, w1, w2, w3, ra, sa, ta, f1, f2, up, lo, wt, M, now, rz, am, n1, n2, n3, n4, n5, n6, n7, n8, n9, n10, pm, ct, io, wl, I, Kp, hT, hI, hp, rfl⟩ := hR
  obtain ⟨r, nn, P2, psx, pmx, hp2, hf, hg⟩ := say_both hp (xs (nI i + 1).toNatClampNeg)
  refine lv_aload_n hx hb dL_law_273 rfl (lv_at hl 1 rfl) ?_
  refine lv_aload_n hx hb dL_law_274 rfl (lv_at hl 0 rfl) ?_
  refine lv_iload_n hx hb dL_law_275 rfl (lv_at hl 3 rfl) ?_
  refine lv_iconst (v := 1) hx hb dL_law_276 (by decide) ?_
  refine lv_iadd hx hb dL_law_277 ?_
  refine va_sld hx hb hX hbl hbA hS (vin1 hi hL) dL_law_278 ?_
  refine kWi (rV (C := RX10) [.int (xs (nI i + 1).toNatClampNeg)] [] S (c_X10_say l dC dI cI cJ cZ h0 (a 56) (a 57) (a 0) (a 14) (a 28) (a 42) (a 58) (a 59) (a 60) (a 64) (a 68) (a 69) H.size kept (iZ (n : Int)) ps (xs (nI i + 1).toNatClampNeg) r (iZ (nn : Int)) psx hf) (cwV 1 hts gL_law_X10_say rfl rfl rfl (by decide +kernel) ⟨Nat.le_of_ble_eq_true rfl, Nat.le_of_ble_eq_true rfl⟩) (va_recv hK hP (ci := 10) (q0 := 0) rfl rfl) hP hD hK hN [0, 57, 58] rfl (by decide +kernel) rfl hl.1 rfl (Nat.le_of_ble_eq_true rfl) dL_law_279 ⟨Nat.le_of_ble_eq_true rfl, Nat.le_of_ble_eq_true rfl⟩) hP hD hS hA [0, 57, 58] rfl rfl [some 0, none, none, none, none, none, none, none, none, none, none, none, none, none, none, none, none, none, none, none, none, none, none, none, none, none, none, none, none, none, none, none, none, none, none, none, none, none, none, none, none, none, none, none, none, none, none, none, none, none, none, none, none, none, none, none, none, some 1, some 2, none, none, none, none, none, none, none, none, none, none, none, none, none, none, none, none, none, none, none, none, none, none, none, none, none, none, none, none, none] (by decide +kernel) rfl (fun H locs hP hD hS => ?_)
  have hP : va_P (dC, dI) vwCl (WW cI cJ cZ h0 a g0 g kept T U V0 V1 ((iZ (nn : Int))) psx ac wy m1 m2 m3 m4 m5 s0 cr cs an w1 w2 w3 ra sa ta f1 f2 up lo wt M now rz am n1 n2 n3 n4 n5 n6 n7 n8 n9 n10 (iZ (n : Int)) pm ct io wl I Kp) H := hP
  have hD : va_D (fun q : Nat => s.heap.size ≤ q) (WW cI cJ cZ h0 a g0 g kept T U V0 V1 ((iZ (nn : Int))) psx ac wy m1 m2 m3 m4 m5 s0 cr cs an w1 w2 w3 ra sa ta f1 f2 up lo wt M now rz am n1 n2 n3 n4 n5 n6 n7 n8 n9 n10 (iZ (n : Int)) pm ct io wl I Kp) := hD
  refine lv_aload_n hx hb dL_law_282 rfl (lv_at hl 2 rfl) ?_
  refine lv_aload_n hx hb dL_law_283 rfl (lv_at hl 0 rfl) ?_
  refine lv_iload_n hx hb dL_law_284 rfl (lv_at hl 3 rfl) ?_
  refine lv_iconst (v := 1) hx hb dL_law_285 (by decide) ?_
  refine lv_iadd hx hb dL_law_286 ?_
  refine va_sld hx hb hX hbl hbA hS (vin1 hi hL) dL_law_287 ?_
  refine kWi (rV (C := RX11) [.int (xs (nI i + 1).toNatClampNeg)] [.int r] S (c_X11_say l dC dI cI cJ cZ g0 (g 9) (g 0) (g 1) (g 2) (g 3) (g 4) (g 5) (g 6) (g 7) (g 8) (g 10) (g 11) (g 12) (g 13) (g 14) H.size M.rn M.sn (iZ (n : Int)) rz am n1 n2 n3 n4 n5 n6 n7 n8 n9 n10 pm (xs (nI i + 1).toNatClampNeg) r (iZ (nn : Int)) pmx hg) (cwV 1 hts gL_law_X11_say rfl rfl rfl (by decide +kernel) ⟨Nat.le_of_ble_eq_true rfl, Nat.le_of_ble_eq_true rfl⟩) (va_recv hK hP (ci := 11) (q0 := 72) rfl rfl) hP hD hK hN [72, 82] rfl (by decide +kernel) rfl hl.1 rfl (Nat.le_of_ble_eq_true rfl) dL_law_288 ⟨Nat.le_of_ble_eq_true rfl, Nat.le_of_ble_eq_true rfl⟩) hP hD hS hA [72, 82] rfl rfl [none, none, none, none, none, none, none, none, none, none, none, none, none, none, none, none, none, none, none, none, none, none, none, none, none, none, none, none, none, none, none, none, none, none, none, none, none, none, none, none, none, none, none, none, none, none, none, none, none, none, none, none, none, none, none, none, none, none, none, none, none, none, none, none, none, none, none, none, none, none, none, none, some 0, none, none, none, none, none, none, none, none, none, some 1, none, none, none, none, none] (by decide +kernel) rfl (fun H locs hP hD hS => ?_)
  have hP : va_P (dC, dI) vwCl (WW cI cJ cZ h0 a g0 g kept T U V0 V1 ((iZ (nn : Int))) psx ac wy m1 m2 m3 m4 m5 s0 cr cs an w1 w2 w3 ra sa ta f1 f2 up lo wt M now rz am n1 n2 n3 n4 n5 n6 n7 n8 n9 n10 ((iZ (nn : Int))) pmx ct io wl I Kp) H := hP
  have hD : va_D (fun q : Nat => s.heap.size ≤ q) (WW cI cJ cZ h0 a g0 g kept T U V0 V1 ((iZ (nn : Int))) psx ac wy m1 m2 m3 m4 m5 s0 cr cs an w1 w2 w3 ra sa ta f1 f2 up lo wt M now rz am n1 n2 n3 n4 n5 n6 n7 n8 n9 n10 ((iZ (nn : Int))) pmx ct io wl I Kp) := hD
  refine lv_icmp_eq (tgt := 912) hx hb dL_law_291 (by decide) (fun _ => ?_) (fun h9 => absurd rfl h9)
  exact kk H locs _ ⟨nn, P2, kept, T, U, V0, V1, psx, ac, wy, m1, m2, m3, m4, m5, s0, cr, cs, an, w1, w2, w3, ra, sa, ta, f1, f2, up, lo, wt, M, now, rz, am, n1, n2, n3, n4, n5, n6, n7, n8, n9, n10, pmx, ct, io, wl, I, Kp, hT, hI, hp2, rfl⟩ hP hD hS
set_option maxRecDepth 100000 in
set_option maxHeartbeats 4000000 in
theorem op_wipe (S : CallFix p m c cL_law 4 s #[Value.ref b] wsL_law RL) (hX : va_X b L xs s s.heap) (hbl : b < s.heap.size) (hL : L ≤ 2048) (hK : va_K (dC, dI) vwCl (TY cI cJ cZ) s) (hN : NW s) (hTab : TAB (fun q : Nat => s.heap.size ≤ q) tb s s.heap) {H : Heap} {locs : List Loc} {ws : va_W} (hR : RelW cI cJ cZ h0 a g0 g ws) (hP : va_P (dC, dI) vwCl ws H) (hD : va_D (fun q : Nat => s.heap.size ≤ q) ws) (hS : va_S (fun q : Nat => s.heap.size ≤ q) s.heap H locs) {ls : Array Slot} {i : Nat} (hi : i + 4 ≤ L) (hl : lv_has ls 4 [(0, .ref b), (1, .ref h0), (2, .ref g0), (3, .int (nI i))])
    (kk : ∀ (H : Heap) (locs : List Loc) (ws : va_W), RelW cI cJ cZ h0 a g0 g ws → va_P (dC, dI) vwCl ws H → va_D (fun q : Nat => s.heap.size ≤ q) ws → va_S (fun q : Nat => s.heap.size ≤ q) s.heap H locs → W p l e room_1 s m #[Value.ref b] below meth c H locs 88 1442 Q (F0 m 912 ls [])) : W p l e room_1 s m #[Value.ref b] below meth c H locs 88 1442 Q (F0 m 296 ls []) := by
  obtain ⟨hx, hb, hml, hown, hts⟩ := id S
  have hA : ∀ q : Nat, s.heap.size ≤ q → (fun q : Nat => s.heap.size ≤ q) q := fun _ h => h
  have hbA : ¬ (fun q : Nat => s.heap.size ≤ q) b := Nat.not_le.mpr hbl
  obtain ⟨n, P, kept, T, U, V0, V1, ps, ac, wy, m1, m2, m3, m4, m5, s0, cr, cs, an, w1, w2, w3, ra, sa, ta, f1, f2, up, lo, wt, M, now, rz, am, n1, n2, n3, n4, n5, n6, n7, n8, n9, n10, pm, ct, io, wl, I, Kp, hT, hI, hp, rfl⟩ := hR
  obtain ⟨hf, hg, hp2⟩ := s_wipe hp
  refine lv_aload_n hx hb dL_law_296 rfl (lv_at hl 1 rfl) ?_
  refine kWi (rV (C := RX10) [] [] S (c_X10_wipe l dC dI cI cJ cZ h0 (a 56) (a 0) (a 14) (a 28) (a 42) (a 58) (a 59) (a 60) (a 64) (a 68) (a 69) (a 57) H.size kept (iZ (n : Int)) (iZ (n : Int)) (iZ ((0 : Nat) : Int)) hf) (cwV 0 hts gL_law_X10_wipe rfl rfl rfl (by decide +kernel) ⟨Nat.le_of_ble_eq_true rfl, Nat.le_of_ble_eq_true rfl⟩) (va_recv hK hP (ci := 10) (q0 := 0) rfl rfl) hP hD hK hN [0, 57] rfl (by decide +kernel) rfl hl.1 rfl (Nat.le_of_ble_eq_true rfl) dL_law_297 ⟨Nat.le_of_ble_eq_true rfl, Nat.le_of_ble_eq_true rfl⟩) hP hD hS hA [0, 57] rfl rfl [some 0, none, none, none, none, none, none, none, none, none, none, none, none, none, none, none, none, none, none, none, none, none, none, none, none, none, none, none, none, none, none, none, none, none, none, none, none, none, none, none, none, none, none, none, none, none, none, none, none, none, none, none, none, none, none, none, none, some 1, none, none, none, none, none, none, none, none, none, none, none, none, none, none, none, none, none, none, none, none, none, none, none, none, none, none, none, none, none, none] (by decide +kernel) rfl (fun H locs hP hD hS => ?_)
  have hP : va_P (dC, dI) vwCl (WW cI cJ cZ h0 a g0 g kept T U V0 V1 ((iZ ((0 : Nat) : Int))) ps ac wy m1 m2 m3 m4 m5 s0 cr cs an w1 w2 w3 ra sa ta f1 f2 up lo wt M now rz am n1 n2 n3 n4 n5 n6 n7 n8 n9 n10 (iZ (n : Int)) pm ct io wl I Kp) H := hP
  have hD : va_D (fun q : Nat => s.heap.size ≤ q) (WW cI cJ cZ h0 a g0 g kept T U V0 V1 ((iZ ((0 : Nat) : Int))) ps ac wy m1 m2 m3 m4 m5 s0 cr cs an w1 w2 w3 ra sa ta f1 f2 up lo wt M now rz am n1 n2 n3 n4 n5 n6 n7 n8 n9 n10 (iZ (n : Int)) pm ct io wl I Kp) := hD
  refine lv_aload_n hx hb dL_law_300 rfl (lv_at hl 2 rfl) ?_
  refine kWi (rV (C := RX11) [] [.int (iZ (n : Int))] S (c_X11_wipe l dC dI cI cJ cZ g0 (g 0) (g 1) (g 2) (g 3) (g 4) (g 5) (g 6) (g 7) (g 8) (g 9) (g 10) (g 11) (g 12) (g 13) (g 14) H.size M.rn M.sn (iZ (n : Int)) rz am n1 n2 n3 n4 n5 n6 n7 n8 n9 n10 (iZ (n : Int)) (iZ ((0 : Nat) : Int)) hg) (cwV 0 hts gL_law_X11_wipe rfl rfl rfl (by decide +kernel) ⟨Nat.le_of_ble_eq_true rfl, Nat.le_of_ble_eq_true rfl⟩) (va_recv hK hP (ci := 11) (q0 := 72) rfl rfl) hP hD hK hN [72] rfl (by decide +kernel) rfl hl.1 rfl (Nat.le_of_ble_eq_true rfl) dL_law_301 ⟨Nat.le_of_ble_eq_true rfl, Nat.le_of_ble_eq_true rfl⟩) hP hD hS hA [72] rfl rfl [none, none, none, none, none, none, none, none, none, none, none, none, none, none, none, none, none, none, none, none, none, none, none, none, none, none, none, none, none, none, none, none, none, none, none, none, none, none, none, none, none, none, none, none, none, none, none, none, none, none, none, none, none, none, none, none, none, none, none, none, none, none, none, none, none, none, none, none, none, none, none, none, some 0, none, none, none, none, none, none, none, none, none, none, none, none, none, none, none] (by decide +kernel) rfl (fun H locs hP hD hS => ?_)
  have hP : va_P (dC, dI) vwCl (WW cI cJ cZ h0 a g0 g kept T U V0 V1 ((iZ ((0 : Nat) : Int))) ps ac wy m1 m2 m3 m4 m5 s0 cr cs an w1 w2 w3 ra sa ta f1 f2 up lo wt M now rz am n1 n2 n3 n4 n5 n6 n7 n8 n9 n10 ((iZ ((0 : Nat) : Int))) pm ct io wl I Kp) H := hP
  have hD : va_D (fun q : Nat => s.heap.size ≤ q) (WW cI cJ cZ h0 a g0 g kept T U V0 V1 ((iZ ((0 : Nat) : Int))) ps ac wy m1 m2 m3 m4 m5 s0 cr cs an w1 w2 w3 ra sa ta f1 f2 up lo wt M now rz am n1 n2 n3 n4 n5 n6 n7 n8 n9 n10 ((iZ ((0 : Nat) : Int))) pm ct io wl I Kp) := hD
  refine lv_icmp_eq (tgt := 912) hx hb dL_law_304 (by decide) (fun _ => ?_) (fun h9 => absurd rfl h9)
  exact kk H locs _ ⟨0, P, kept, T, U, V0, V1, ps, ac, wy, m1, m2, m3, m4, m5, s0, cr, cs, an, w1, w2, w3, ra, sa, ta, f1, f2, up, lo, wt, M, now, rz, am, n1, n2, n3, n4, n5, n6, n7, n8, n9, n10, pm, ct, io, wl, I, Kp, hT, hI, hp2, rfl⟩ hP hD hS
set_option maxRecDepth 100000 in
set_option maxHeartbeats 4000000 in
theorem op_fault (S : CallFix p m c cL_law 4 s #[Value.ref b] wsL_law RL) (hX : va_X b L xs s s.heap) (hbl : b < s.heap.size) (hL : L ≤ 2048) (hK : va_K (dC, dI) vwCl (TY cI cJ cZ) s) (hN : NW s) (hTab : TAB (fun q : Nat => s.heap.size ≤ q) tb s s.heap) {H : Heap} {locs : List Loc} {ws : va_W} (hR : RelW cI cJ cZ h0 a g0 g ws) (hP : va_P (dC, dI) vwCl ws H) (hD : va_D (fun q : Nat => s.heap.size ≤ q) ws) (hS : va_S (fun q : Nat => s.heap.size ≤ q) s.heap H locs) {ls : Array Slot} {i : Nat} (hi : i + 4 ≤ L) (hl : lv_has ls 4 [(0, .ref b), (1, .ref h0), (2, .ref g0), (3, .int (nI i))])
    (kk : ∀ (H : Heap) (locs : List Loc) (ws : va_W), RelW cI cJ cZ h0 a g0 g ws → va_P (dC, dI) vwCl ws H → va_D (fun q : Nat => s.heap.size ≤ q) ws → va_S (fun q : Nat => s.heap.size ≤ q) s.heap H locs → W p l e room_1 s m #[Value.ref b] below meth c H locs 88 1442 Q (F0 m 912 ls [])) : W p l e room_1 s m #[Value.ref b] below meth c H locs 88 1442 Q (F0 m 309 ls []) := by
  obtain ⟨hx, hb, hml, hown, hts⟩ := id S
  have hA : ∀ q : Nat, s.heap.size ≤ q → (fun q : Nat => s.heap.size ≤ q) q := fun _ h => h
  have hbA : ¬ (fun q : Nat => s.heap.size ≤ q) b := Nat.not_le.mpr hbl
  obtain ⟨n, P, kept, T, U, V0, V1, ps, ac, wy, m1, m2, m3, m4, m5, s0, cr, cs, an, w1, w2, w3, ra, sa, ta, f1, f2, up, lo, wt, M, now, rz, am, n1, n2, n3, n4, n5, n6, n7, n8, n9, n10, pm, ct, io, wl, I, Kp, hT, hI, hp, rfl⟩ := hR
  obtain ⟨r, hf, hg⟩ := s_fault hp
  refine lv_aload_n hx hb dL_law_309 rfl (lv_at hl 1 rfl) ?_
  refine kSi (rV (C := RX10) [] [] S (c_X10_fault l dC dI cI cJ cZ h0 (a 56) (a 57) (a 0) (a 14) (a 28) (a 42) (a 58) (a 59) (a 60) (a 64) (a 68) (a 69) H.size kept (iZ (n : Int)) ps r hf) (cwV 0 hts gL_law_X10_fault rfl rfl rfl (by decide +kernel) ⟨Nat.le_of_ble_eq_true rfl, Nat.le_of_ble_eq_true rfl⟩) (va_recv hK hP (ci := 10) (q0 := 0) rfl rfl) hP hD hK hN [0, 57, 58] rfl (by decide +kernel) rfl hl.1 rfl (Nat.le_of_ble_eq_true rfl) dL_law_310 ⟨Nat.le_of_ble_eq_true rfl, Nat.le_of_ble_eq_true rfl⟩) ?_
  refine lv_aload_n hx hb dL_law_313 rfl (lv_at hl 2 rfl) ?_
  refine kSi (rV (C := RX11) [] [.int r] S (c_X11_fault l dC dI cI cJ cZ g0 (g 9) (g 0) (g 1) (g 2) (g 3) (g 4) (g 5) (g 6) (g 7) (g 8) (g 10) (g 11) (g 12) (g 13) (g 14) H.size M.rn M.sn (iZ (n : Int)) rz am n1 n2 n3 n4 n5 n6 n7 n8 n9 n10 pm r hg) (cwV 0 hts gL_law_X11_fault rfl rfl rfl (by decide +kernel) ⟨Nat.le_of_ble_eq_true rfl, Nat.le_of_ble_eq_true rfl⟩) (va_recv hK hP (ci := 11) (q0 := 72) rfl rfl) hP hD hK hN [72, 82] rfl (by decide +kernel) rfl hl.1 rfl (Nat.le_of_ble_eq_true rfl) dL_law_314 ⟨Nat.le_of_ble_eq_true rfl, Nat.le_of_ble_eq_true rfl⟩) ?_
  refine lv_icmp_eq (tgt := 912) hx hb dL_law_317 (by decide) (fun _ => ?_) (fun h9 => absurd rfl h9)
  exact kk H locs _ ⟨n, P, kept, T, U, V0, V1, ps, ac, wy, m1, m2, m3, m4, m5, s0, cr, cs, an, w1, w2, w3, ra, sa, ta, f1, f2, up, lo, wt, M, now, rz, am, n1, n2, n3, n4, n5, n6, n7, n8, n9, n10, pm, ct, io, wl, I, Kp, hT, hI, hp, rfl⟩ hP hD hS
end LAWOP
