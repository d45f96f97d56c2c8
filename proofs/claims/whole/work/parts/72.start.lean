theorem w_inst0 : (.instantiable RX0 2 : Cond) ∈ lw_tbl := List.mem_of_getElem? (i := 259) (by decide +kernel)
theorem w_inst1 : (.instantiable RX1 5 : Cond) ∈ lw_tbl := List.mem_of_getElem? (i := 186) (by decide +kernel)
theorem w_inst2 : (.instantiable RX2 3 : Cond) ∈ lw_tbl := List.mem_of_getElem? (i := 274) (by decide +kernel)
theorem w_inst3 : (.instantiable RX3 4 : Cond) ∈ lw_tbl := List.mem_of_getElem? (i := 212) (by decide +kernel)
theorem w_inst4 : (.instantiable RX4 2 : Cond) ∈ lw_tbl := List.mem_of_getElem? (i := 156) (by decide +kernel)
theorem w_inst5 : (.instantiable RX5 3 : Cond) ∈ lw_tbl := List.mem_of_getElem? (i := 95) (by decide +kernel)
theorem w_inst6 : (.instantiable RX6 2 : Cond) ∈ lw_tbl := List.mem_of_getElem? (i := 171) (by decide +kernel)
theorem w_inst7 : (.instantiable RX7 3 : Cond) ∈ lw_tbl := List.mem_of_getElem? (i := 66) (by decide +kernel)
theorem w_inst8 : (.instantiable RX8 7 : Cond) ∈ lw_tbl := List.mem_of_getElem? (i := 60) (by decide +kernel)
theorem w_inst9 : (.instantiable RX9 6 : Cond) ∈ lw_tbl := List.mem_of_getElem? (i := 231) (by decide +kernel)
theorem w_inst10 : (.instantiable RX10 12 : Cond) ∈ lw_tbl := List.mem_of_getElem? (i := 52) (by decide +kernel)
theorem w_inst11 : (.instantiable RX11 30 : Cond) ∈ lw_tbl := List.mem_of_getElem? (i := 736) (by decide +kernel)
theorem w_cl10 : (.classLink RL 7 RX10 : Cond) ∈ lw_tbl := List.mem_of_getElem? (i := 51) (by decide +kernel)
theorem w_ini10 : (.initialized RX10 : Cond) ∈ lw_tbl := List.mem_of_getElem? (i := 37) (by decide +kernel)
theorem w_cl11 : (.classLink RL 10 RX11 : Cond) ∈ lw_tbl := List.mem_of_getElem? (i := 735) (by decide +kernel)
theorem w_ini11 : (.initialized RX11 : Cond) ∈ lw_tbl := List.mem_of_getElem? (i := 49) (by decide +kernel)
theorem w_ml10 : (.methodLink RL 9 yX10_init : Cond) ∈ lw_tbl := List.mem_of_getElem? (i := 53) (by decide +kernel)
theorem w_im10 : (.instanceMethod yX10_init : Cond) ∈ lw_tbl := List.mem_of_getElem? (i := 54) (by decide +kernel)
theorem w_ml11 : (.methodLink RL 12 yX11_init : Cond) ∈ lw_tbl := List.mem_of_getElem? (i := 737) (by decide +kernel)
theorem w_im11 : (.instanceMethod yX11_init : Cond) ∈ lw_tbl := List.mem_of_getElem? (i := 738) (by decide +kernel)
set_option maxRecDepth 100000 in
set_option maxHeartbeats 4000000 in
theorem whole_start {p : Program} {e : Env} {s : State} {m : MethodId} {below : List Frame} {meth : Method} {c : Code} (l : Launch) (hflags : l.flags = flags0) {b L : Nat} {xs : Nat → Int32} (hL : L ≤ 2048) (C0 : lw_At p s m meth c b L xs) : W p l e room_1 s m #[Value.ref b] below meth c s.heap [] 0 0 (lw_Z below #[Value.ref b] s) (entryFrame m ([Value.ref b] : List Value).toArray 4) := by
  obtain ⟨hx, hb, hr, hml, hown, htt, hX, hbl, hlocks, hgv⟩ := id C0
  have hown : s.vm.findClass RL = some m.cls := hown
  have hb : c.code = cL_law := hb
  have hA : ∀ q : Nat, s.heap.size ≤ q → (fun q : Nat => s.heap.size ≤ q) q := fun _ h => h
  have hts : ∀ w ∈ wsL_law, w.before #[Value.ref b] s = true := fun w h => htt w (lawIn w h)
  have S : CallFix p m c cL_law 4 s #[Value.ref b] wsL_law RL := ⟨hx, hb, hml, hown, hts⟩
  have hex : ∀ k : Nat, ∃ y : ClassId × (Nat → Nat), ∀ q : vw_C, vwCl[k]? = some q → u_Kn s q.1 q.2.1 q.2.2 y.1 y.2 := by
    intro k
    match k with
    | 0 => obtain ⟨c9, i9, h9⟩ := u_known (C := RX0) (T := TX0) (N := 2) (n := 2) htt wi_wsX00 (htt _ w_inst0); exact ⟨(c9, i9), fun q hq => (by cases hq; exact h9)⟩
    | 1 => obtain ⟨c9, i9, h9⟩ := u_known (C := RX1) (T := TX1) (N := 5) (n := 5) htt wi_wsX10 (htt _ w_inst1); exact ⟨(c9, i9), fun q hq => (by cases hq; exact h9)⟩
    | 2 => obtain ⟨c9, i9, h9⟩ := u_known (C := RX2) (T := TX2) (N := 3) (n := 3) htt wi_wsX20 (htt _ w_inst2); exact ⟨(c9, i9), fun q hq => (by cases hq; exact h9)⟩
    | 3 => obtain ⟨c9, i9, h9⟩ := u_known (C := RX3) (T := TX3) (N := 4) (n := 4) htt wi_wsX30 (htt _ w_inst3); exact ⟨(c9, i9), fun q hq => (by cases hq; exact h9)⟩
    | 4 => obtain ⟨c9, i9, h9⟩ := u_known (C := RX4) (T := TX4) (N := 2) (n := 2) htt wi_wsX40 (htt _ w_inst4); exact ⟨(c9, i9), fun q hq => (by cases hq; exact h9)⟩
    | 5 => obtain ⟨c9, i9, h9⟩ := u_known (C := RX5) (T := TX5) (N := 3) (n := 3) htt wi_wsX50 (htt _ w_inst5); exact ⟨(c9, i9), fun q hq => (by cases hq; exact h9)⟩
    | 6 => obtain ⟨c9, i9, h9⟩ := u_known (C := RX6) (T := TX6) (N := 2) (n := 2) htt wi_wsX60 (htt _ w_inst6); exact ⟨(c9, i9), fun q hq => (by cases hq; exact h9)⟩
    | 7 => obtain ⟨c9, i9, h9⟩ := u_known (C := RX7) (T := TX7) (N := 3) (n := 3) htt wi_wsX70 (htt _ w_inst7); exact ⟨(c9, i9), fun q hq => (by cases hq; exact h9)⟩
    | 8 => obtain ⟨c9, i9, h9⟩ := u_known (C := RX8) (T := TX8) (N := 7) (n := 7) htt wi_wsX80 (htt _ w_inst8); exact ⟨(c9, i9), fun q hq => (by cases hq; exact h9)⟩
    | 9 => obtain ⟨c9, i9, h9⟩ := u_known (C := RX9) (T := TX9) (N := 6) (n := 6) htt wi_wsX90 (htt _ w_inst9); exact ⟨(c9, i9), fun q hq => (by cases hq; exact h9)⟩
    | 10 => obtain ⟨c9, i9, h9⟩ := u_known (C := RX10) (T := TX10) (N := 12) (n := 12) htt wi_wsX100 (htt _ w_inst10); exact ⟨(c9, i9), fun q hq => (by cases hq; exact h9)⟩
    | 11 => obtain ⟨c9, i9, h9⟩ := u_known (C := RX11) (T := TX11) (N := 30) (n := 30) htt wi_wsX110 (htt _ w_inst11); exact ⟨(c9, i9), fun q hq => (by cases hq; exact h9)⟩
    | k + 12 => exact ⟨(0, fun _ => 0), fun q hq => (by simp [vwCl] at hq)⟩
  obtain ⟨dd, hdd⟩ := Classical.axiomOfChoice hex
  obtain ⟨dC, dI, hKc⟩ : ∃ (dC : Nat → ClassId) (dI : Nat → Nat → Nat), ∀ (k : Nat) (q : vw_C), vwCl[k]? = some q → u_Kn s q.1 q.2.1 q.2.2 (dC k) (dI k) := ⟨fun k => (dd k).1, fun k => (dd k).2, hdd⟩
  obtain ⟨cI, aI1, aI2⟩ := arr_known (htt _ w_arrI)
  obtain ⟨cJ, aJ1, aJ2⟩ := arr_known (htt _ w_arrJ)
  obtain ⟨cZ, aZ1, aZ2⟩ := arr_known (htt _ w_arrZ)
  have hK : va_K (dC, dI) vwCl (TY cI cJ cZ) s := by
    refine ⟨hKc, fun k q hq => ?_⟩
    match k, hq with
    | 0, hq => cases hq; exact ⟨aI1, aI2⟩
    | 1, hq => cases hq; exact ⟨aJ1, aJ2⟩
    | 2, hq => cases hq; exact ⟨aZ1, aZ2⟩
    | k + 3, hq => simp at hq
  have hN : NW s := nest_known htt
  obtain ⟨tb, hTab⟩ := tab_known (A := fun q : Nat => s.heap.size ≤ q) htt hgv (fun a ha => Nat.not_le.mpr ha)
  have hS : va_S (fun q : Nat => s.heap.size ≤ q) s.heap s.heap [] := va_S.rf
  have hP : va_P (dC, dI) vwCl [] s.heap := fun k q h => by simp at h
  have hD : va_D (fun q : Nat => s.heap.size ≤ q) [] := ⟨fun i j p q h => by simp at h, fun k q h => by simp at h⟩
  have hl := lv_entry ([.ref b]) (n := 4) (Nat.le_of_ble_eq_true rfl)
  rw [lg_entry_eq]
  generalize (lg_sl ([.ref b]) ++ List.replicate (4 - (lg_sl ([.ref b])).length) Slot.unset).toArray = ls at hl ⊢
  have hl : lv_has ls 4 [(0, .ref b)] := hl
  refine va_new (ci := 10) (fs := [.null, .null, .null, .null, .int 0, .null, .null, .null, .null, .null, .null, .null]) (C := RX10) (T := TX10) (N := 12) hx hb htt wi_wsX100 tyX10 tyX10_ok hown (htt _ w_cl10) (htt _ w_inst10) (htt _ w_ini10) hK hP hD hS hA rfl (fun j hj => by rcases (show j = 0 ∨ j = 1 ∨ j = 2 ∨ j = 3 ∨ j = 4 ∨ j = 5 ∨ j = 6 ∨ j = 7 ∨ j = 8 ∨ j = 9 ∨ j = 10 ∨ j = 11 by omega) with rfl | rfl | rfl | rfl | rfl | rfl | rfl | rfl | rfl | rfl | rfl | rfl <;> rfl) (Nat.le_of_ble_eq_true rfl) (Nat.le_of_ble_eq_true rfl) dL_law_0 (fun h0 H hP hD hS => ?_)
  have hP : va_P (dC, dI) vwCl [(h0, .inr (10, [.null, .null, .null, .null, .int 0, .null, .null, .null, .null, .null, .null, .null]))] H := hP
  have hD : va_D (fun q : Nat => s.heap.size ≤ q) [(h0, .inr (10, [.null, .null, .null, .null, .int 0, .null, .null, .null, .null, .null, .null, .null]))] := hD
  refine W.widen (k := 1) (n := 12) (Nat.le_of_ble_eq_true rfl) (Nat.le_of_ble_eq_true rfl) ?_
  refine lv_dup hx hb dL_law_3 rfl ?_
  refine kWn (wr := []) (rI [] [.ref h0] S (c_X10_init l dC dI cI cJ cZ h0 H.size 0 T0.w T0.k T0.c T0.d T0.b T0.ro T0.pl T0.rc T0.rf T0.rs T0.sc T0.sf T0.ss T0.w T0.k T0.c T0.d T0.b T0.ro T0.pl T0.rc T0.rf T0.rs T0.sc T0.sf T0.ss T0.w T0.k T0.c T0.d T0.b T0.ro T0.pl T0.rc T0.rf T0.rs T0.sc T0.sf T0.ss T0.w T0.k T0.c T0.d T0.b T0.ro T0.pl T0.rc T0.rf T0.rs T0.sc T0.sf T0.ss 0 (fun _ => 0) 0 0 0 0 (-6) (-6) 0 0 (fun _ => 0) (fun _ => 0) (fun _ => 0) 0 0 0 (fun _ => 0) (fun _ => 0) (fun _ => 0) (-6) 0 0 1 (fun _ => 0) init_c) (cwI 0 hts gL_law_X10_init rfl rfl rfl (htt _ w_ini10) (htt _ w_ml10) (htt _ w_im10) rfl (by decide +kernel) ⟨Nat.le_of_ble_eq_true rfl, Nat.le_of_ble_eq_true rfl⟩) hP hD hK hN [0] rfl (by decide +kernel) rfl hl.1 rfl (Nat.le_of_ble_eq_true rfl) dL_law_4 ⟨Nat.le_of_ble_eq_true rfl, Nat.le_of_ble_eq_true rfl⟩) hP hD hS hA [0] [] rfl rfl (by decide +kernel) (by decide +kernel) (fun a H locs hP hD hS => ?_)
  have hP : va_P (dC, dI) vwCl (wo_X10_init cI cJ cZ h0 0 T0.w T0.k T0.c T0.d T0.b T0.ro T0.pl T0.rc T0.rf T0.rs T0.sc T0.sf T0.ss T0.w T0.k T0.c T0.d T0.b T0.ro T0.pl T0.rc T0.rf T0.rs T0.sc T0.sf T0.ss T0.w T0.k T0.c T0.d T0.b T0.ro T0.pl T0.rc T0.rf T0.rs T0.sc T0.sf T0.ss T0.w T0.k T0.c T0.d T0.b T0.ro T0.pl T0.rc T0.rf T0.rs T0.sc T0.sf T0.ss 0 (fun _ => 0) 0 0 0 0 (-6) (-6) 0 0 (fun _ => 0) (fun _ => 0) (fun _ => 0) 0 0 0 (fun _ => 0) (fun _ => 0) (fun _ => 0) (-6) 0 0 1 (fun _ => 0) a) H := hP
  have hD : va_D (fun q : Nat => s.heap.size ≤ q) (wo_X10_init cI cJ cZ h0 0 T0.w T0.k T0.c T0.d T0.b T0.ro T0.pl T0.rc T0.rf T0.rs T0.sc T0.sf T0.ss T0.w T0.k T0.c T0.d T0.b T0.ro T0.pl T0.rc T0.rf T0.rs T0.sc T0.sf T0.ss T0.w T0.k T0.c T0.d T0.b T0.ro T0.pl T0.rc T0.rf T0.rs T0.sc T0.sf T0.ss T0.w T0.k T0.c T0.d T0.b T0.ro T0.pl T0.rc T0.rf T0.rs T0.sc T0.sf T0.ss 0 (fun _ => 0) 0 0 0 0 (-6) (-6) 0 0 (fun _ => 0) (fun _ => 0) (fun _ => 0) 0 0 0 (fun _ => 0) (fun _ => 0) (fun _ => 0) (-6) 0 0 1 (fun _ => 0) a) := hD
  refine W.widen (k := 72) (n := 893) (Nat.le_of_ble_eq_true rfl) (Nat.le_of_ble_eq_true rfl) ?_
  refine lv_astore_n (lv' := [(1, .ref h0), (0, .ref b)]) hx hb dL_law_7 rfl hl (by decide) rfl (fun ls hl => ?_)
  refine va_new (ci := 11) (fs := [.null, .null, .null, .null, .null, .null, .int 0, .null, .null, .int 0, .null, .int 0, .null, .int 0, .int 0, .int 0, .int 0, .int 0, .int 0, .int 0, .int 0, .int 0, .int 0, .int 0, .int 0, .null, .null, .null, .null, .null]) (C := RX11) (T := TX11) (N := 30) hx hb htt wi_wsX110 tyX11 tyX11_ok hown (htt _ w_cl11) (htt _ w_inst11) (htt _ w_ini11) hK hP hD hS hA rfl (fun j hj => by rcases (show j = 0 ∨ j = 1 ∨ j = 2 ∨ j = 3 ∨ j = 4 ∨ j = 5 ∨ j = 6 ∨ j = 7 ∨ j = 8 ∨ j = 9 ∨ j = 10 ∨ j = 11 ∨ j = 12 ∨ j = 13 ∨ j = 14 ∨ j = 15 ∨ j = 16 ∨ j = 17 ∨ j = 18 ∨ j = 19 ∨ j = 20 ∨ j = 21 ∨ j = 22 ∨ j = 23 ∨ j = 24 ∨ j = 25 ∨ j = 26 ∨ j = 27 ∨ j = 28 ∨ j = 29 by omega) with rfl | rfl | rfl | rfl | rfl | rfl | rfl | rfl | rfl | rfl | rfl | rfl | rfl | rfl | rfl | rfl | rfl | rfl | rfl | rfl | rfl | rfl | rfl | rfl | rfl | rfl | rfl | rfl | rfl | rfl <;> rfl) (Nat.le_of_ble_eq_true rfl) (Nat.le_of_ble_eq_true rfl) dL_law_8 (fun g0 H hP hD hS => ?_)
  refine W.widen (k := 73) (n := 923) (Nat.le_of_ble_eq_true rfl) (Nat.le_of_ble_eq_true rfl) ?_
  refine lv_dup hx hb dL_law_11 rfl ?_
  refine kWn2 (rI [] [.ref g0] S (c_X11_init l dC dI cI cJ cZ g0 H.size 0 0 0 0 0 0 0 0 0 0 0 0 0 0 0 (fun _ => 0) (fun _ => 0) (fl 10 5) (fl 10 12) (fl 17 12) (fun _ => 0) (fun _ => 0) (fun _ => 0) (fun _ => 0) (fun _ => 0) (fun _ => 0) (fun _ => 0) (fun _ => 0) (fun _ => 0) (fun _ => 0) init_m) (cwI 0 hts gL_law_X11_init rfl rfl rfl (htt _ w_ini11) (htt _ w_ml11) (htt _ w_im11) rfl (by decide +kernel) ⟨Nat.le_of_ble_eq_true rfl, Nat.le_of_ble_eq_true rfl⟩) hP hD hK hN [72] rfl (by decide +kernel) rfl hl.1 rfl (Nat.le_of_ble_eq_true rfl) dL_law_12 ⟨Nat.le_of_ble_eq_true rfl, Nat.le_of_ble_eq_true rfl⟩) hP hD hS hA (fun g H locs hP hD hS => ?_)
  have hP : va_P (dC, dI) vwCl (WW cI cJ cZ h0 a g0 g 0 T0 T0 T0 T0 (iZ ((0 : Nat) : Int)) (fun _ => 0) 0 0 0 0 (-6) (-6) 0 0 (fun _ => 0) (fun _ => 0) (fun _ => 0) 0 0 0 (fun _ => 0) (fun _ => 0) (fun _ => 0) (-6) 0 0 1 (fun _ => 0) M0 (fun _ => 0) 0 0 0 0 0 0 0 0 0 0 0 0 (iZ ((0 : Nat) : Int)) (fun _ => 0) (fun _ => 0) (fun _ => 0) (fun _ => 0) (fun _ => 0) (fun _ => 0)) H := hP
  have hD : va_D (fun q : Nat => s.heap.size ≤ q) (WW cI cJ cZ h0 a g0 g 0 T0 T0 T0 T0 (iZ ((0 : Nat) : Int)) (fun _ => 0) 0 0 0 0 (-6) (-6) 0 0 (fun _ => 0) (fun _ => 0) (fun _ => 0) 0 0 0 (fun _ => 0) (fun _ => 0) (fun _ => 0) (-6) 0 0 1 (fun _ => 0) M0 (fun _ => 0) 0 0 0 0 0 0 0 0 0 0 0 0 (iZ ((0 : Nat) : Int)) (fun _ => 0) (fun _ => 0) (fun _ => 0) (fun _ => 0) (fun _ => 0) (fun _ => 0)) := hD
  refine W.widen (k := 88) (n := 1442) (Nat.le_of_ble_eq_true rfl) (Nat.le_of_ble_eq_true rfl) ?_
  refine lv_astore_n (lv' := [(2, .ref g0), (1, .ref h0), (0, .ref b)]) hx hb dL_law_15 rfl hl (by decide) rfl (fun ls hl => ?_)
  refine lv_iconst (v := 0) hx hb dL_law_16 (by decide) ?_
  refine lv_istore_n (lv' := [(3, .int 0), (2, .ref g0), (1, .ref h0), (0, .ref b)]) hx hb dL_law_17 rfl hl (by decide) rfl (fun ls hl => ?_)
  have hR : RelW cI cJ cZ h0 a g0 g (WW cI cJ cZ h0 a g0 g 0 T0 T0 T0 T0 (iZ ((0 : Nat) : Int)) (fun _ => 0) 0 0 0 0 (-6) (-6) 0 0 (fun _ => 0) (fun _ => 0) (fun _ => 0) 0 0 0 (fun _ => 0) (fun _ => 0) (fun _ => 0) (-6) 0 0 1 (fun _ => 0) M0 (fun _ => 0) 0 0 0 0 0 0 0 0 0 0 0 0 (iZ ((0 : Nat) : Int)) (fun _ => 0) (fun _ => 0) (fun _ => 0) (fun _ => 0) (fun _ => 0) (fun _ => 0)) := ⟨0, fun _ => 0, 0, T0, T0, T0, T0, (fun _ => 0), 0, 0, 0, 0, (-6), (-6), 0, 0, (fun _ => 0), (fun _ => 0), (fun _ => 0), 0, 0, 0, (fun _ => 0), (fun _ => 0), (fun _ => 0), (-6), 0, 0, 1, (fun _ => 0), M0, (fun _ => 0), 0, 0, 0, 0, 0, 0, 0, 0, 0, 0, 0, 0, (fun _ => 0), (fun _ => 0), (fun _ => 0), (fun _ => 0), (fun _ => 0), (fun _ => 0), rel_0, im_0 T0 T0, pad_0, rfl⟩
  exact law_loop S hr hlocks hX hbl hL hK hN hTab (L + 1) 0 (Nat.zero_le L) (by omega) H locs _ ls hR hP hD hS (lv_sub hl [3, 2, 1, 0] rfl)
