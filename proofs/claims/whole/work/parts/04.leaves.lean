abbrev w_X10_within : va_W := []
abbrev rm_X10_within : Room := { frames := 0, cells := 0, slots := 0, locals := 0 }
set_option maxRecDepth 100000 in
set_option maxHeartbeats 4000000 in
theorem c_X10_within (l : Launch) (dC : Nat → ClassId) (dI : Nat → Nat → Nat) (cI cJ cZ : ClassId) (sz : Nat) (l0 : Int32) (l1 : Int32) (l2 : Int32) (r : Int32) (hf : f_X10_within l0 l1 l2 = some r) : Met l yX10_within wsX10_within rm_X10_within (va_Pc [.int l0, .int l1, .int l2] (PRE (dC, dI) (TY cI cJ cZ) sz w_X10_within)) (vp_Si (fun r' => r' = r)) 0 0 (fun _ => False) := by
  refine ofSi (ty := .boolean) (by decide +kernel) rfl (Nat.le_of_ble_eq_true rfl) ?_
  intro p e s m args below meth c Z ls S hP hD hK hN hl hret
  obtain ⟨hx, hb, hml, hown, hts⟩ := id S
  have hown : s.vm.findClass RX10 = some m.cls := hown
  have hl : lv_has ls 3 [(0, .int l0), (1, .int l1), (2, .int l2)] := hl
  unfold f_X10_within at hf
  refine lv_iload_n hx hb dX10_within_0 rfl (lv_at hl 0 rfl) ?_
  refine lv_iload_n hx hb dX10_within_1 rfl (lv_at hl 1 rfl) ?_
  refine lv_icmp_lt (tgt := 14) hx hb dX10_within_2 (by decide) (fun k_2 => ?_) (fun k_2 => ?_)
  · have hf := ite_t hf k_2
    refine lv_iconst (v := 0) hx hb dX10_within_14 (by decide) ?_
    have e_f := Option.some.inj hf
    cases e_f
    exact hret rfl dX10_within_15
  · have hf := ite_f hf k_2
    refine lv_iload_n hx hb dX10_within_5 rfl (lv_at hl 0 rfl) ?_
    refine lv_iload_n hx hb dX10_within_6 rfl (lv_at hl 2 rfl) ?_
    refine lv_icmp_gt (tgt := 14) hx hb dX10_within_7 (by decide) (fun k_7 => ?_) (fun k_7 => ?_)
    · have hf := ite_t hf k_7
      refine lv_iconst (v := 0) hx hb dX10_within_14 (by decide) ?_
      have e_f := Option.some.inj hf
      cases e_f
      exact hret rfl dX10_within_15
    · have hf := ite_f hf k_7
      refine lv_iconst (v := 1) hx hb dX10_within_10 (by decide) ?_
      refine lv_goto (tgt := 15) hx hb dX10_within_11 (by decide) ?_
      have e_f := Option.some.inj hf
      cases e_f
      exact hret rfl dX10_within_15
abbrev w_X10_isRow : va_W := []
abbrev rm_X10_isRow : Room := { frames := 0, cells := 0, slots := 0, locals := 0 }
set_option maxRecDepth 100000 in
set_option maxHeartbeats 4000000 in
theorem c_X10_isRow (l : Launch) (dC : Nat → ClassId) (dI : Nat → Nat → Nat) (cI cJ cZ : ClassId) (sz : Nat) (l0 : Int32) (r : Int32) (hf : f_X10_isRow l0 = some r) : Met l yX10_isRow wsX10_isRow rm_X10_isRow (va_Pc [.int l0] (PRE (dC, dI) (TY cI cJ cZ) sz w_X10_isRow)) (vp_Si (fun r' => r' = r)) 0 0 (fun _ => False) := by
  refine ofSi (ty := .boolean) (by decide +kernel) rfl (Nat.le_of_ble_eq_true rfl) ?_
  intro p e s m args below meth c Z ls S hP hD hK hN hl hret
  obtain ⟨hx, hb, hml, hown, hts⟩ := id S
  have hown : s.vm.findClass RX10 = some m.cls := hown
  have hl : lv_has ls 1 [(0, .int l0)] := hl
  unfold f_X10_isRow at hf
  have J_9 : ∀ (ls : Array Slot), lv_has ls 1 [] → f_X10_isRow_j9 = some r → W p l e rm_X10_isRow s m args below meth c s.heap [] 0 0 Z (F0 m 9 ls []) := by
    intro ls hl hf
    unfold f_X10_isRow_j9 at hf
    refine lv_iconst (v := 1) hx hb dX10_isRow_9 (by decide) ?_
    refine lv_goto (tgt := 14) hx hb dX10_isRow_10 (by decide) ?_
    have e_f := Option.some.inj hf
    cases e_f
    exact hret rfl dX10_isRow_14
  refine lv_iload_n hx hb dX10_isRow_0 rfl (lv_at hl 0 rfl) ?_
  refine lv_if_eq (tgt := 9) hx hb dX10_isRow_1 (by decide) (fun k_1 => ?_) (fun k_1 => ?_)
  · have hf := ite_t hf k_1
    exact J_9  ls (lv_sub hl [] rfl) hf
  · have hf := ite_f hf k_1
    refine lv_iload_n hx hb dX10_isRow_4 rfl (lv_at hl 0 rfl) ?_
    refine lv_iconst (v := 1) hx hb dX10_isRow_5 (by decide) ?_
    refine lv_icmp_ne (tgt := 13) hx hb dX10_isRow_6 (by decide) (fun k_6 => ?_) (fun k_6 => ?_)
    · have hf := ite_f hf k_6
      refine lv_iconst (v := 0) hx hb dX10_isRow_13 (by decide) ?_
      have e_f := Option.some.inj hf
      cases e_f
      exact hret rfl dX10_isRow_14
    · have hf := ite_t hf k_6
      exact J_9  ls (lv_sub hl [] rfl) hf
abbrev w_X10_at (cI cJ cZ : ClassId) (h_a0 : Nat) (n_a0 : Nat) (c_a0 : Nat → Int32) : va_W := [(h_a0, .inl (cI, n_a0, .inl c_a0))]
abbrev rm_X10_at : Room := { frames := 0, cells := 0, slots := 0, locals := 0 }
set_option maxRecDepth 100000 in
set_option maxHeartbeats 4000000 in
theorem c_X10_at (l : Launch) (dC : Nat → ClassId) (dI : Nat → Nat → Nat) (cI cJ cZ : ClassId) (h_a0 : Nat) (sz : Nat) (n_a0 : Nat) (c_a0 : Nat → Int32) (l1 : Int32) (r : Int32) (hf : f_X10_at n_a0 c_a0 l1 = some r) : Met l yX10_at wsX10_at rm_X10_at (va_Pc [.ref h_a0, .int l1] (PRE (dC, dI) (TY cI cJ cZ) sz (w_X10_at cI cJ cZ h_a0 n_a0 c_a0))) (vp_Si (fun r' => r' = r)) 0 0 (fun _ => False) := by
  refine ofSi (ty := .int) (by decide +kernel) rfl (Nat.le_of_ble_eq_true rfl) ?_
  intro p e s m args below meth c Z ls S hP hD hK hN hl hret
  obtain ⟨hx, hb, hml, hown, hts⟩ := id S
  have hown : s.vm.findClass RX10 = some m.cls := hown
  have hl : lv_has ls 2 [(0, .ref h_a0), (1, .int l1)] := hl
  unfold f_X10_at at hf
  refine lv_aload_n hx hb dX10_at_0 rfl (lv_at hl 0 rfl) ?_
  refine lv_ifnull hx hb dX10_at_1 ?_
  refine lv_iload_n hx hb dX10_at_4 rfl (lv_at hl 1 rfl) ?_
  refine lv_if_lt (tgt := 20) hx hb dX10_at_5 (by decide) (fun k_5 => ?_) (fun k_5 => ?_)
  · have hf := ite_t hf k_5
    refine lv_iconst (v := 0) hx hb dX10_at_20 (by decide) ?_
    have e_f := Option.some.inj hf
    cases e_f
    exact hret rfl dX10_at_21
  · have hf := ite_f hf k_5
    refine lv_iload_n hx hb dX10_at_8 rfl (lv_at hl 1 rfl) ?_
    refine lv_aload_n hx hb dX10_at_9 rfl (lv_at hl 0 rfl) ?_
    refine va_alen (v := (nI n_a0)) hx hb hK hP 0 0 rfl rfl rfl dX10_at_10 ?_
    refine lv_icmp_ge (tgt := 20) hx hb dX10_at_11 (by decide) (fun k_11 => ?_) (fun k_11 => ?_)
    · have hf := ite_t hf k_11
      refine lv_iconst (v := 0) hx hb dX10_at_20 (by decide) ?_
      have e_f := Option.some.inj hf
      cases e_f
      exact hret rfl dX10_at_21
    · have hf := ite_f hf k_11
      refine lv_aload_n hx hb dX10_at_14 rfl (lv_at hl 0 rfl) ?_
      refine lv_iload_n hx hb dX10_at_15 rfl (lv_at hl 1 rfl) ?_
      obtain ⟨g_16, hf⟩ := gd_some hf
      refine va_iald hx hb hK hP 0 0 rfl rfl g_16 dX10_at_16 ?_
      refine lv_goto (tgt := 21) hx hb dX10_at_17 (by decide) ?_
      have e_f := Option.some.inj hf
      cases e_f
      exact hret rfl dX10_at_21
abbrev w_X10_put (cI cJ cZ : ClassId) (h_a0 : Nat) (n_a0 : Nat) (c_a0 : Nat → Int32) : va_W := [(h_a0, .inl (cI, n_a0, .inl c_a0))]
abbrev rm_X10_put : Room := { frames := 0, cells := 0, slots := 0, locals := 0 }
set_option maxRecDepth 100000 in
set_option maxHeartbeats 4000000 in
theorem c_X10_put (l : Launch) (dC : Nat → ClassId) (dI : Nat → Nat → Nat) (cI cJ cZ : ClassId) (h_a0 : Nat) (sz : Nat) (n_a0 : Nat) (c_a0 : Nat → Int32) (l1 : Int32) (l2 : Int32) (z_a0 : Nat → Int32) (hf : f_X10_put n_a0 c_a0 l1 l2 = some z_a0) : Met l yX10_put wsX10_put rm_X10_put (va_Pc [.ref h_a0, .int l1, .int l2] (PRE (dC, dI) (TY cI cJ cZ) sz (w_X10_put cI cJ cZ h_a0 n_a0 c_a0))) (va_Qv (fun _ : Unit => True) (POW (dC, dI) (va_A (w_X10_put cI cJ cZ h_a0 n_a0 c_a0) sz) (w_X10_put cI cJ cZ h_a0 n_a0 z_a0)) (va_A (w_X10_put cI cJ cZ h_a0 n_a0 c_a0) sz)) 0 0 (va_A (w_X10_put cI cJ cZ h_a0 n_a0 c_a0) sz) := by
  refine ofWv (by decide +kernel) rfl (Nat.le_of_ble_eq_true rfl) ?_
  intro p e s m args below meth c Z A ls S hP hD hK hN hA hl hret
  obtain ⟨hx, hb, hml, hown, hts⟩ := id S
  have hown : s.vm.findClass RX10 = some m.cls := hown
  have hS : va_S A s.heap s.heap [] := va_S.rf
  have hl : lv_has ls 3 [(0, .ref h_a0), (1, .int l1), (2, .int l2)] := hl
  unfold f_X10_put at hf
  refine lv_aload_n hx hb dX10_put_0 rfl (lv_at hl 0 rfl) ?_
  refine lv_ifnull hx hb dX10_put_1 ?_
  refine lv_iload_n hx hb dX10_put_4 rfl (lv_at hl 1 rfl) ?_
  refine lv_if_lt (tgt := 18) hx hb dX10_put_5 (by decide) (fun k_5 => ?_) (fun k_5 => ?_)
  · have hf := ite_t hf k_5
    have e_f := Option.some.inj hf
    cases e_f
    exact hret hP hD hS dX10_put_18
  · have hf := ite_f hf k_5
    refine lv_iload_n hx hb dX10_put_8 rfl (lv_at hl 1 rfl) ?_
    refine lv_aload_n hx hb dX10_put_9 rfl (lv_at hl 0 rfl) ?_
    refine va_alen (v := (nI n_a0)) hx hb hK hP 0 0 rfl rfl rfl dX10_put_10 ?_
    refine lv_icmp_ge (tgt := 18) hx hb dX10_put_11 (by decide) (fun k_11 => ?_) (fun k_11 => ?_)
    · have hf := ite_t hf k_11
      have e_f := Option.some.inj hf
      cases e_f
      exact hret hP hD hS dX10_put_18
    · have hf := ite_f hf k_11
      refine lv_aload_n hx hb dX10_put_14 rfl (lv_at hl 0 rfl) ?_
      refine lv_iload_n hx hb dX10_put_15 rfl (lv_at hl 1 rfl) ?_
      refine lv_iload_n hx hb dX10_put_16 rfl (lv_at hl 2 rfl) ?_
      obtain ⟨g_17, hf⟩ := gd_some hf
      refine va_iast hx hb hK hP hD hS 0 0 rfl rfl g_17 dX10_put_17 (fun H locs hP hD hS => ?_)
      have hP : va_P (dC, dI) vwCl (w_X10_put cI cJ cZ h_a0 n_a0 (upd c_a0 (Int32.toNatClampNeg l1) l2)) H := hP
      have hD : va_D A (w_X10_put cI cJ cZ h_a0 n_a0 (upd c_a0 (Int32.toNatClampNeg l1) l2)) := hD
      have e_f := Option.some.inj hf
      cases e_f
      exact hret hP hD hS dX10_put_18
abbrev w_X10_fill (cI cJ cZ : ClassId) (h_a0 : Nat) (n_a0 : Nat) (c_a0 : Nat → Int32) : va_W := [(h_a0, .inl (cI, n_a0, .inl c_a0))]
abbrev rm_X10_fill : Room := { frames := 0, cells := 0, slots := 0, locals := 0 }
set_option maxRecDepth 100000 in
set_option maxHeartbeats 4000000 in
theorem c_X10_fill (l : Launch) (dC : Nat → ClassId) (dI : Nat → Nat → Nat) (cI cJ cZ : ClassId) (h_a0 : Nat) (sz : Nat) (n_a0 : Nat) (c_a0 : Nat → Int32) (l1 : Int32) (z_a0 : Nat → Int32) (hf : f_X10_fill n_a0 c_a0 l1 = some z_a0) : Met l yX10_fill wsX10_fill rm_X10_fill (va_Pc [.ref h_a0, .int l1] (PRE (dC, dI) (TY cI cJ cZ) sz (w_X10_fill cI cJ cZ h_a0 n_a0 c_a0))) (va_Qv (fun _ : Unit => True) (POW (dC, dI) (va_A (w_X10_fill cI cJ cZ h_a0 n_a0 c_a0) sz) (w_X10_fill cI cJ cZ h_a0 n_a0 z_a0)) (va_A (w_X10_fill cI cJ cZ h_a0 n_a0 c_a0) sz)) 0 0 (va_A (w_X10_fill cI cJ cZ h_a0 n_a0 c_a0) sz) := by
  refine ofWv (by decide +kernel) rfl (Nat.le_of_ble_eq_true rfl) ?_
  intro p e s m args below meth c Z A ls S hP hD hK hN hA hl hret
  obtain ⟨hx, hb, hml, hown, hts⟩ := id S
  have hown : s.vm.findClass RX10 = some m.cls := hown
  have hS : va_S A s.heap s.heap [] := va_S.rf
  have hl : lv_has ls 3 [(0, .ref h_a0), (1, .int l1)] := hl
  unfold f_X10_fill at hf
  refine lv_aload_n hx hb dX10_fill_0 rfl (lv_at hl 0 rfl) ?_
  refine lv_ifnonnull (tgt := 5) hx hb dX10_fill_1 (by decide) ?_
  refine lv_iconst (v := 0) hx hb dX10_fill_5 (by decide) ?_
  refine lv_istore_n (lv' := [(2, .int 0), (0, .ref h_a0), (1, .int l1)]) hx hb dX10_fill_6 rfl hl (by decide) rfl (fun ls hl => ?_)
  obtain ⟨l2_7x, c_a0_7x, hq_7, hf⟩ := bd2_some hf
  have K_7 : ∀ (H : Heap) (locs : List Loc) (ls : Array Slot), va_P (dC, dI) vwCl (w_X10_fill cI cJ cZ h_a0 n_a0 c_a0_7x) H → va_D A (w_X10_fill cI cJ cZ h_a0 n_a0 c_a0_7x) → va_S A s.heap H locs → lv_has ls 3 [] → W p l e rm_X10_fill s m args below meth c H locs 0 0 Z (F0 m 23 ls []) := by
    intro H locs ls hP hD hS hl
    have e_f := Option.some.inj hf
    cases e_f
    exact hret hP hD hS dX10_fill_23
  have L_7 : ∀ (n : Nat) (l2_7 : Int32) (c_a0_7 : Nat → Int32) (H : Heap) (locs : List Loc) (ls : Array Slot), va_P (dC, dI) vwCl (w_X10_fill cI cJ cZ h_a0 n_a0 c_a0_7) H → va_D A (w_X10_fill cI cJ cZ h_a0 n_a0 c_a0_7) → va_S A s.heap H locs → lv_has ls 3 [(0, .ref h_a0), (1, .int l1), (2, .int l2_7)] → loopN (fun (q : Int32 × (Nat → Int32)) => f_X10_fill_b7 n_a0 l1 q.1 q.2) n (l2_7, c_a0_7) = some (l2_7x, c_a0_7x) → W p l e rm_X10_fill s m args below meth c H locs 0 0 Z (F0 m 7 ls []) := by
    intro n
    induction n with
    | zero => intro l2_7 c_a0_7 H locs ls hP hD hS hl hq; exact (loopN_zero hq).elim
    | succ n ih_7 =>
      intro l2_7 c_a0_7 H locs ls hP hD hS hl hq
      obtain ⟨o_7, hf, ho1_7, ho2_7⟩ := loopN_step hq
      have hf : f_X10_fill_b7 n_a0 l1 l2_7 c_a0_7 = some o_7 := hf
      unfold f_X10_fill_b7 at hf
      refine lv_iload_n hx hb dX10_fill_7 rfl (lv_at hl 2 rfl) ?_
      refine lv_aload_n hx hb dX10_fill_8 rfl (lv_at hl 0 rfl) ?_
      refine va_alen (v := (nI n_a0)) hx hb hK hP 0 0 rfl rfl rfl dX10_fill_9 ?_
      refine lv_icmp_ge (tgt := 23) hx hb dX10_fill_10 (by decide) (fun k_10 => ?_) (fun k_10 => ?_)
      · have hf := ite_t hf k_10
        have e_7 := ho2_7 _ (Option.some.inj hf).symm
        cases e_7
        exact K_7 H locs ls hP hD hS (lv_sub hl [] rfl)
      · have hf := ite_f hf k_10
        refine lv_aload_n hx hb dX10_fill_13 rfl (lv_at hl 0 rfl) ?_
        refine lv_iload_n hx hb dX10_fill_14 rfl (lv_at hl 2 rfl) ?_
        refine lv_iload_n hx hb dX10_fill_15 rfl (lv_at hl 1 rfl) ?_
        obtain ⟨g_16, hf⟩ := gd_some hf
        refine va_iast hx hb hK hP hD hS 0 0 rfl rfl g_16 dX10_fill_16 (fun H locs hP hD hS => ?_)
        have hP : va_P (dC, dI) vwCl (w_X10_fill cI cJ cZ h_a0 n_a0 (upd c_a0_7 (Int32.toNatClampNeg l2_7) l1)) H := hP
        have hD : va_D A (w_X10_fill cI cJ cZ h_a0 n_a0 (upd c_a0_7 (Int32.toNatClampNeg l2_7) l1)) := hD
        refine lv_iinc (v := (l2_7 + 1)) (lv' := [(2, .int (l2_7 + 1)), (0, .ref h_a0), (1, .int l1)]) hx hb dX10_fill_17 hl (k := 2) rfl rfl (by decide) rfl (fun ls hl => ?_)
        refine lv_goto (tgt := 7) hx hb dX10_fill_20 (by decide) ?_
        exact ih_7 (l2_7 + 1) (upd c_a0_7 (Int32.toNatClampNeg l2_7) l1) H locs ls hP hD hS (lv_sub hl [1, 2, 0] rfl) (ho1_7 _ (Option.some.inj hf).symm)
  exact L_7 FU 0 c_a0 s.heap [] ls hP hD hS (lv_sub hl [1, 2, 0] rfl) hq_7
abbrev w_X10_copy (cI cJ cZ : ClassId) (h_a0 h_a1 : Nat) (n_a0 : Nat) (n_a1 : Nat) (c_a0 : Nat → Int32) (c_a1 : Nat → Int32) : va_W := [(h_a0, .inl (cI, n_a0, .inl c_a0)), (h_a1, .inl (cI, n_a1, .inl c_a1))]
abbrev rm_X10_copy : Room := { frames := 0, cells := 0, slots := 0, locals := 0 }
set_option maxRecDepth 100000 in
set_option maxHeartbeats 4000000 in
theorem c_X10_copy (l : Launch) (dC : Nat → ClassId) (dI : Nat → Nat → Nat) (cI cJ cZ : ClassId) (h_a0 h_a1 : Nat) (sz : Nat) (n_a0 : Nat) (n_a1 : Nat) (c_a0 : Nat → Int32) (c_a1 : Nat → Int32) (z_a1 : Nat → Int32) (hf : f_X10_copy n_a0 n_a1 c_a0 c_a1 = some z_a1) : Met l yX10_copy wsX10_copy rm_X10_copy (va_Pc [.ref h_a0, .ref h_a1] (PRE (dC, dI) (TY cI cJ cZ) sz (w_X10_copy cI cJ cZ h_a0 h_a1 n_a0 n_a1 c_a0 c_a1))) (va_Qv (fun _ : Unit => True) (POW (dC, dI) (va_A (w_X10_copy cI cJ cZ h_a0 h_a1 n_a0 n_a1 c_a0 c_a1) sz) (w_X10_copy cI cJ cZ h_a0 h_a1 n_a0 n_a1 c_a0 z_a1)) (va_A (w_X10_copy cI cJ cZ h_a0 h_a1 n_a0 n_a1 c_a0 c_a1) sz)) 0 0 (va_A (w_X10_copy cI cJ cZ h_a0 h_a1 n_a0 n_a1 c_a0 c_a1) sz) := by
  refine ofWv (by decide +kernel) rfl (Nat.le_of_ble_eq_true rfl) ?_
  intro p e s m args below meth c Z A ls S hP hD hK hN hA hl hret
  obtain ⟨hx, hb, hml, hown, hts⟩ := id S
  have hown : s.vm.findClass RX10 = some m.cls := hown
  have hS : va_S A s.heap s.heap [] := va_S.rf
  have hl : lv_has ls 3 [(0, .ref h_a0), (1, .ref h_a1)] := hl
  unfold f_X10_copy at hf
  refine lv_aload_n hx hb dX10_copy_0 rfl (lv_at hl 0 rfl) ?_
  refine lv_ifnull hx hb dX10_copy_1 ?_
  refine lv_aload_n hx hb dX10_copy_4 rfl (lv_at hl 1 rfl) ?_
  refine lv_ifnonnull (tgt := 9) hx hb dX10_copy_5 (by decide) ?_
  refine lv_iconst (v := 0) hx hb dX10_copy_9 (by decide) ?_
  refine lv_istore_n (lv' := [(2, .int 0), (0, .ref h_a0), (1, .ref h_a1)]) hx hb dX10_copy_10 rfl hl (by decide) rfl (fun ls hl => ?_)
  obtain ⟨l2_11x, c_a1_11x, hq_11, hf⟩ := bd2_some hf
  have K_11 : ∀ (H : Heap) (locs : List Loc) (ls : Array Slot), va_P (dC, dI) vwCl (w_X10_copy cI cJ cZ h_a0 h_a1 n_a0 n_a1 c_a0 c_a1_11x) H → va_D A (w_X10_copy cI cJ cZ h_a0 h_a1 n_a0 n_a1 c_a0 c_a1_11x) → va_S A s.heap H locs → lv_has ls 3 [] → W p l e rm_X10_copy s m args below meth c H locs 0 0 Z (F0 m 35 ls []) := by
    intro H locs ls hP hD hS hl
    have e_f := Option.some.inj hf
    cases e_f
    exact hret hP hD hS dX10_copy_35
  have L_11 : ∀ (n : Nat) (l2_11 : Int32) (c_a1_11 : Nat → Int32) (H : Heap) (locs : List Loc) (ls : Array Slot), va_P (dC, dI) vwCl (w_X10_copy cI cJ cZ h_a0 h_a1 n_a0 n_a1 c_a0 c_a1_11) H → va_D A (w_X10_copy cI cJ cZ h_a0 h_a1 n_a0 n_a1 c_a0 c_a1_11) → va_S A s.heap H locs → lv_has ls 3 [(0, .ref h_a0), (1, .ref h_a1), (2, .int l2_11)] → loopN (fun (q : Int32 × (Nat → Int32)) => f_X10_copy_b11 n_a0 n_a1 c_a0 q.1 q.2) n (l2_11, c_a1_11) = some (l2_11x, c_a1_11x) → W p l e rm_X10_copy s m args below meth c H locs 0 0 Z (F0 m 11 ls []) := by
    intro n
    induction n with
    | zero => intro l2_11 c_a1_11 H locs ls hP hD hS hl hq; exact (loopN_zero hq).elim
    | succ n ih_11 =>
      intro l2_11 c_a1_11 H locs ls hP hD hS hl hq
      obtain ⟨o_11, hf, ho1_11, ho2_11⟩ := loopN_step hq
      have hf : f_X10_copy_b11 n_a0 n_a1 c_a0 l2_11 c_a1_11 = some o_11 := hf
      unfold f_X10_copy_b11 at hf
      refine lv_iload_n hx hb dX10_copy_11 rfl (lv_at hl 2 rfl) ?_
      refine lv_aload_n hx hb dX10_copy_12 rfl (lv_at hl 0 rfl) ?_
      refine va_alen (v := (nI n_a0)) hx hb hK hP 0 0 rfl rfl rfl dX10_copy_13 ?_
      refine lv_icmp_ge (tgt := 35) hx hb dX10_copy_14 (by decide) (fun k_14 => ?_) (fun k_14 => ?_)
      · have hf := ite_t hf k_14
        have e_11 := ho2_11 _ (Option.some.inj hf).symm
        cases e_11
        exact K_11 H locs ls hP hD hS (lv_sub hl [] rfl)
      · have hf := ite_f hf k_14
        refine lv_iload_n hx hb dX10_copy_17 rfl (lv_at hl 2 rfl) ?_
        refine lv_aload_n hx hb dX10_copy_18 rfl (lv_at hl 1 rfl) ?_
        refine va_alen (v := (nI n_a1)) hx hb hK hP 1 0 rfl rfl rfl dX10_copy_19 ?_
        refine lv_icmp_ge (tgt := 35) hx hb dX10_copy_20 (by decide) (fun k_20 => ?_) (fun k_20 => ?_)
        · have hf := ite_t hf k_20
          have e_11 := ho2_11 _ (Option.some.inj hf).symm
          cases e_11
          exact K_11 H locs ls hP hD hS (lv_sub hl [] rfl)
        · have hf := ite_f hf k_20
          refine lv_aload_n hx hb dX10_copy_23 rfl (lv_at hl 1 rfl) ?_
          refine lv_iload_n hx hb dX10_copy_24 rfl (lv_at hl 2 rfl) ?_
          refine lv_aload_n hx hb dX10_copy_25 rfl (lv_at hl 0 rfl) ?_
          refine lv_iload_n hx hb dX10_copy_26 rfl (lv_at hl 2 rfl) ?_
          obtain ⟨g_27, hf⟩ := gd_some hf
          refine va_iald hx hb hK hP 0 0 rfl rfl g_27 dX10_copy_27 ?_
          obtain ⟨g_28, hf⟩ := gd_some hf
          refine va_iast hx hb hK hP hD hS 1 0 rfl rfl g_28 dX10_copy_28 (fun H locs hP hD hS => ?_)
          have hP : va_P (dC, dI) vwCl (w_X10_copy cI cJ cZ h_a0 h_a1 n_a0 n_a1 c_a0 (upd c_a1_11 (Int32.toNatClampNeg l2_11) (c_a0 (Int32.toNatClampNeg l2_11)))) H := hP
          have hD : va_D A (w_X10_copy cI cJ cZ h_a0 h_a1 n_a0 n_a1 c_a0 (upd c_a1_11 (Int32.toNatClampNeg l2_11) (c_a0 (Int32.toNatClampNeg l2_11)))) := hD
          refine lv_iinc (v := (l2_11 + 1)) (lv' := [(2, .int (l2_11 + 1)), (0, .ref h_a0), (1, .ref h_a1)]) hx hb dX10_copy_29 hl (k := 2) rfl rfl (by decide) rfl (fun ls hl => ?_)
          refine lv_goto (tgt := 11) hx hb dX10_copy_32 (by decide) ?_
          exact ih_11 (l2_11 + 1) (upd c_a1_11 (Int32.toNatClampNeg l2_11) (c_a0 (Int32.toNatClampNeg l2_11))) H locs ls hP hD hS (lv_sub hl [1, 2, 0] rfl) (ho1_11 _ (Option.some.inj hf).symm)
  exact L_11 FU 0 c_a1 s.heap [] ls hP hD hS (lv_sub hl [1, 2, 0] rfl) hq_11
abbrev w_J6_bitCount_0f7a4 : va_W := []
abbrev rm_J6_bitCount_0f7a4 : Room := { frames := 0, cells := 0, slots := 0, locals := 0 }
theorem m_J6_bitCount_0f7a4_k265 : (.constant RJ6 265 (1431655765) : Cond) ∈ wsJ6_bitCount_0f7a4 := by decide +kernel
theorem m_J6_bitCount_0f7a4_k266 : (.constant RJ6 266 (858993459) : Cond) ∈ wsJ6_bitCount_0f7a4 := by decide +kernel
theorem m_J6_bitCount_0f7a4_k267 : (.constant RJ6 267 (252645135) : Cond) ∈ wsJ6_bitCount_0f7a4 := by decide +kernel
set_option maxRecDepth 100000 in
set_option maxHeartbeats 4000000 in
theorem c_J6_bitCount_0f7a4 (l : Launch) (dC : Nat → ClassId) (dI : Nat → Nat → Nat) (cI cJ cZ : ClassId) (sz : Nat) (l0 : Int32) (r : Int32) (hf : f_J6_bitCount_0f7a4 l0 = some r) : Met l yJ6_bitCount_0f7a4 wsJ6_bitCount_0f7a4 rm_J6_bitCount_0f7a4 (va_Pc [.int l0] (PRE (dC, dI) (TY cI cJ cZ) sz w_J6_bitCount_0f7a4)) (vp_Si (fun r' => r' = r)) 0 0 (fun _ => False) := by
  refine ofSi (ty := .int) (by decide +kernel) rfl (Nat.le_of_ble_eq_true rfl) ?_
  intro p e s m args below meth c Z ls S hP hD hK hN hl hret
  obtain ⟨hx, hb, hml, hown, hts⟩ := id S
  have hl : lv_has ls 1 [(0, .int l0)] := hl
  unfold f_J6_bitCount_0f7a4 at hf
  refine lv_iload_n hx hb dJ6_bitCount_0f7a4_0 rfl (lv_at hl 0 rfl) ?_
  refine lv_iload_n hx hb dJ6_bitCount_0f7a4_1 rfl (lv_at hl 0 rfl) ?_
  refine lv_iconst (v := 1) hx hb dJ6_bitCount_0f7a4_2 (by decide) ?_
  refine lv_iushr hx hb dJ6_bitCount_0f7a4_3 rfl ?_
  refine lv_ldcw (v := 1431655765) hx hb hown (hts _ m_J6_bitCount_0f7a4_k265) dJ6_bitCount_0f7a4_4 ?_
  refine lv_iand hx hb dJ6_bitCount_0f7a4_7 ?_
  refine lv_isub hx hb dJ6_bitCount_0f7a4_8 ?_
  obtain ⟨l0_9s, e_l0_9s, hf⟩ := nmv_some hf
  refine tpi e_l0_9s ?_
  refine lv_istore_n (lv' := [(0, .int l0_9s)]) hx hb dJ6_bitCount_0f7a4_9 rfl hl (by decide) rfl (fun ls hl => ?_)
  refine lv_iload_n hx hb dJ6_bitCount_0f7a4_10 rfl (lv_at hl 0 rfl) ?_
  refine lv_ldcw (v := 858993459) hx hb hown (hts _ m_J6_bitCount_0f7a4_k266) dJ6_bitCount_0f7a4_11 ?_
  refine lv_iand hx hb dJ6_bitCount_0f7a4_14 ?_
  refine lv_iload_n hx hb dJ6_bitCount_0f7a4_15 rfl (lv_at hl 0 rfl) ?_
  refine lv_iconst (v := 2) hx hb dJ6_bitCount_0f7a4_16 (by decide) ?_
  refine lv_iushr hx hb dJ6_bitCount_0f7a4_17 rfl ?_
  refine lv_ldcw (v := 858993459) hx hb hown (hts _ m_J6_bitCount_0f7a4_k266) dJ6_bitCount_0f7a4_18 ?_
  refine lv_iand hx hb dJ6_bitCount_0f7a4_21 ?_
  refine lv_iadd hx hb dJ6_bitCount_0f7a4_22 ?_
  obtain ⟨l0_23s, e_l0_23s, hf⟩ := nmv_some hf
  refine tpi e_l0_23s ?_
  refine lv_istore_n (lv' := [(0, .int l0_23s)]) hx hb dJ6_bitCount_0f7a4_23 rfl hl (by decide) rfl (fun ls hl => ?_)
  refine lv_iload_n hx hb dJ6_bitCount_0f7a4_24 rfl (lv_at hl 0 rfl) ?_
  refine lv_iload_n hx hb dJ6_bitCount_0f7a4_25 rfl (lv_at hl 0 rfl) ?_
  refine lv_iconst (v := 4) hx hb dJ6_bitCount_0f7a4_26 (by decide) ?_
  refine lv_iushr hx hb dJ6_bitCount_0f7a4_27 rfl ?_
  refine lv_iadd hx hb dJ6_bitCount_0f7a4_28 ?_
  refine lv_ldcw (v := 252645135) hx hb hown (hts _ m_J6_bitCount_0f7a4_k267) dJ6_bitCount_0f7a4_29 ?_
  refine lv_iand hx hb dJ6_bitCount_0f7a4_32 ?_
  obtain ⟨l0_33s, e_l0_33s, hf⟩ := nmv_some hf
  refine tpi e_l0_33s ?_
  refine lv_istore_n (lv' := [(0, .int l0_33s)]) hx hb dJ6_bitCount_0f7a4_33 rfl hl (by decide) rfl (fun ls hl => ?_)
  refine lv_iload_n hx hb dJ6_bitCount_0f7a4_34 rfl (lv_at hl 0 rfl) ?_
  refine lv_iload_n hx hb dJ6_bitCount_0f7a4_35 rfl (lv_at hl 0 rfl) ?_
  refine lv_bipush (v := 8) hx hb dJ6_bitCount_0f7a4_36 (by decide) ?_
  refine lv_iushr hx hb dJ6_bitCount_0f7a4_38 rfl ?_
  refine lv_iadd hx hb dJ6_bitCount_0f7a4_39 ?_
  obtain ⟨l0_40s, e_l0_40s, hf⟩ := nmv_some hf
  refine tpi e_l0_40s ?_
  refine lv_istore_n (lv' := [(0, .int l0_40s)]) hx hb dJ6_bitCount_0f7a4_40 rfl hl (by decide) rfl (fun ls hl => ?_)
  refine lv_iload_n hx hb dJ6_bitCount_0f7a4_41 rfl (lv_at hl 0 rfl) ?_
  refine lv_iload_n hx hb dJ6_bitCount_0f7a4_42 rfl (lv_at hl 0 rfl) ?_
  refine lv_bipush (v := 16) hx hb dJ6_bitCount_0f7a4_43 (by decide) ?_
  refine lv_iushr hx hb dJ6_bitCount_0f7a4_45 rfl ?_
  refine lv_iadd hx hb dJ6_bitCount_0f7a4_46 ?_
  obtain ⟨l0_47s, e_l0_47s, hf⟩ := nmv_some hf
  refine tpi e_l0_47s ?_
  refine lv_istore_n (lv' := [(0, .int l0_47s)]) hx hb dJ6_bitCount_0f7a4_47 rfl hl (by decide) rfl (fun ls hl => ?_)
  refine lv_iload_n hx hb dJ6_bitCount_0f7a4_48 rfl (lv_at hl 0 rfl) ?_
  refine lv_bipush (v := 63) hx hb dJ6_bitCount_0f7a4_49 (by decide) ?_
  refine lv_iand hx hb dJ6_bitCount_0f7a4_51 ?_
  have e_f := Option.some.inj hf
  cases e_f
  exact hret rfl dJ6_bitCount_0f7a4_52
abbrev w_X0_begin (cI cJ cZ : ClassId) (h_this : Nat) (c_by : Int32) (c_count : Int32) : va_W := [(h_this, .inr (0, [.int c_by, .int c_count]))]
abbrev rm_X0_begin : Room := { frames := 0, cells := 0, slots := 0, locals := 0 }
theorem m_X0_begin_f9 : (.fieldLink RX0 9 "WovenRows$Fewest" "by" "I" : Cond) ∈ wsX0_begin := by decide +kernel
theorem in_X0_begin_X0 : ∀ w ∈ u_ws RX0 TX0 2, w ∈ wsX0_begin := by decide +kernel
theorem m_X0_begin_f15 : (.fieldLink RX0 15 "WovenRows$Fewest" "count" "I" : Cond) ∈ wsX0_begin := by decide +kernel
set_option maxRecDepth 100000 in
set_option maxHeartbeats 4000000 in
theorem c_X0_begin (l : Launch) (dC : Nat → ClassId) (dI : Nat → Nat → Nat) (cI cJ cZ : ClassId) (h_this : Nat) (sz : Nat) (c_by : Int32) (c_count : Int32) (z_by : Int32) (z_count : Int32) (hf : f_X0_begin = some (z_by, z_count)) : Met l yX0_begin wsX0_begin rm_X0_begin (va_Pc [.ref h_this] (PRE (dC, dI) (TY cI cJ cZ) sz (w_X0_begin cI cJ cZ h_this c_by c_count))) (va_Qv (fun _ : Unit => True) (POW (dC, dI) (va_A (w_X0_begin cI cJ cZ h_this c_by c_count) sz) (w_X0_begin cI cJ cZ h_this z_by z_count)) (va_A (w_X0_begin cI cJ cZ h_this c_by c_count) sz)) 0 0 (va_A (w_X0_begin cI cJ cZ h_this c_by c_count) sz) := by
  refine ofWv (by decide +kernel) rfl (Nat.le_of_ble_eq_true rfl) ?_
  intro p e s m args below meth c Z A ls S hP hD hK hN hA hl hret
  obtain ⟨hx, hb, hml, hown, hts⟩ := id S
  have hown : s.vm.findClass RX0 = some m.cls := hown
  have hS : va_S A s.heap s.heap [] := va_S.rf
  have hl : lv_has ls 1 [(0, .ref h_this)] := hl
  unfold f_X0_begin at hf
  refine lv_aload_n hx hb dX0_begin_0 rfl (lv_at hl 0 rfl) ?_
  refine lv_bipush (v := (-6)) hx hb dX0_begin_1 (by decide) ?_
  refine va_put (D := (dC, dI)) (ci := 0) (v := .int (-6)) (ty := .int) (C := RX0) (T := TX0) (N := 2) hx hb hts in_X0_begin_X0 tyX0 tyX0_ok nmX0 hown hK hP hD hS 0 rfl rfl 0 (by decide) (hts _ m_X0_begin_f9) (fun _ h9 => h9) rfl (by decide +kernel) rfl rfl (Nat.le_of_ble_eq_true rfl) dX0_begin_3 (fun H locs hP hD hS => ?_)
  have hP : va_P (dC, dI) vwCl (w_X0_begin cI cJ cZ h_this (-6) c_count) H := hP
  have hD : va_D A (w_X0_begin cI cJ cZ h_this (-6) c_count) := hD
  refine lv_aload_n hx hb dX0_begin_6 rfl (lv_at hl 0 rfl) ?_
  refine lv_iconst (v := 0) hx hb dX0_begin_7 (by decide) ?_
  refine va_put (D := (dC, dI)) (ci := 0) (v := .int 0) (ty := .int) (C := RX0) (T := TX0) (N := 2) hx hb hts in_X0_begin_X0 tyX0 tyX0_ok nmX0 hown hK hP hD hS 0 rfl rfl 1 (by decide) (hts _ m_X0_begin_f15) (fun _ h9 => h9) rfl (by decide +kernel) rfl rfl (Nat.le_of_ble_eq_true rfl) dX0_begin_8 (fun H locs hP hD hS => ?_)
  have hP : va_P (dC, dI) vwCl (w_X0_begin cI cJ cZ h_this (-6) 0) H := hP
  have hD : va_D A (w_X0_begin cI cJ cZ h_this (-6) 0) := hD
  have e_f := Option.some.inj hf
  cases e_f
  exact hret hP hD hS dX0_begin_11
abbrev w_X0_offer (cI cJ cZ : ClassId) (h_this : Nat) (c_by : Int32) (c_count : Int32) : va_W := [(h_this, .inr (0, [.int c_by, .int c_count]))]
abbrev rm_X0_offer : Room := { frames := 0, cells := 0, slots := 0, locals := 0 }
theorem m_X0_offer_f9 : (.fieldLink RX0 9 "WovenRows$Fewest" "by" "I" : Cond) ∈ wsX0_offer := by decide +kernel
theorem in_X0_offer_X0 : ∀ w ∈ u_ws RX0 TX0 2, w ∈ wsX0_offer := by decide +kernel
theorem m_X0_offer_f15 : (.fieldLink RX0 15 "WovenRows$Fewest" "count" "I" : Cond) ∈ wsX0_offer := by decide +kernel
set_option maxRecDepth 100000 in
set_option maxHeartbeats 4000000 in
theorem c_X0_offer (l : Launch) (dC : Nat → ClassId) (dI : Nat → Nat → Nat) (cI cJ cZ : ClassId) (h_this : Nat) (sz : Nat) (c_by : Int32) (c_count : Int32) (l1 : Int32) (l2 : Int32) (z_by : Int32) (z_count : Int32) (hf : f_X0_offer c_by c_count l1 l2 = some (z_by, z_count)) : Met l yX0_offer wsX0_offer rm_X0_offer (va_Pc [.ref h_this, .int l1, .int l2] (PRE (dC, dI) (TY cI cJ cZ) sz (w_X0_offer cI cJ cZ h_this c_by c_count))) (va_Qv (fun _ : Unit => True) (POW (dC, dI) (va_A (w_X0_offer cI cJ cZ h_this c_by c_count) sz) (w_X0_offer cI cJ cZ h_this z_by z_count)) (va_A (w_X0_offer cI cJ cZ h_this c_by c_count) sz)) 0 0 (va_A (w_X0_offer cI cJ cZ h_this c_by c_count) sz) := by
  refine ofWv (by decide +kernel) rfl (Nat.le_of_ble_eq_true rfl) ?_
  intro p e s m args below meth c Z A ls S hP hD hK hN hA hl hret
  obtain ⟨hx, hb, hml, hown, hts⟩ := id S
  have hown : s.vm.findClass RX0 = some m.cls := hown
  have hS : va_S A s.heap s.heap [] := va_S.rf
  have hl : lv_has ls 3 [(0, .ref h_this), (1, .int l1), (2, .int l2)] := hl
  unfold f_X0_offer at hf
  have J_17 : ∀ (c_by_17j : Int32) (c_count_17j : Int32) (H : Heap) (locs : List Loc) (ls : Array Slot), va_P (dC, dI) vwCl (w_X0_offer cI cJ cZ h_this c_by_17j c_count_17j) H → va_D A (w_X0_offer cI cJ cZ h_this c_by_17j c_count_17j) → va_S A s.heap H locs → lv_has ls 3 [(0, .ref h_this), (1, .int l1), (2, .int l2)] → f_X0_offer_j17 l1 l2 = some (z_by, z_count) → W p l e rm_X0_offer s m args below meth c H locs 0 0 Z (F0 m 17 ls []) := by
    intro c_by_17j c_count_17j H locs ls hP hD hS hl hf
    unfold f_X0_offer_j17 at hf
    refine lv_aload_n hx hb dX0_offer_17 rfl (lv_at hl 0 rfl) ?_
    refine lv_iload_n hx hb dX0_offer_18 rfl (lv_at hl 1 rfl) ?_
    refine va_put (D := (dC, dI)) (ci := 0) (v := .int l1) (ty := .int) (C := RX0) (T := TX0) (N := 2) hx hb hts in_X0_offer_X0 tyX0 tyX0_ok nmX0 hown hK hP hD hS 0 rfl rfl 0 (by decide) (hts _ m_X0_offer_f9) (fun _ h9 => h9) rfl (by decide +kernel) rfl rfl (Nat.le_of_ble_eq_true rfl) dX0_offer_19 (fun H locs hP hD hS => ?_)
    have hP : va_P (dC, dI) vwCl (w_X0_offer cI cJ cZ h_this l1 c_count_17j) H := hP
    have hD : va_D A (w_X0_offer cI cJ cZ h_this l1 c_count_17j) := hD
    refine lv_aload_n hx hb dX0_offer_22 rfl (lv_at hl 0 rfl) ?_
    refine lv_iload_n hx hb dX0_offer_23 rfl (lv_at hl 2 rfl) ?_
    refine va_put (D := (dC, dI)) (ci := 0) (v := .int l2) (ty := .int) (C := RX0) (T := TX0) (N := 2) hx hb hts in_X0_offer_X0 tyX0 tyX0_ok nmX0 hown hK hP hD hS 0 rfl rfl 1 (by decide) (hts _ m_X0_offer_f15) (fun _ h9 => h9) rfl (by decide +kernel) rfl rfl (Nat.le_of_ble_eq_true rfl) dX0_offer_24 (fun H locs hP hD hS => ?_)
    have hP : va_P (dC, dI) vwCl (w_X0_offer cI cJ cZ h_this l1 l2) H := hP
    have hD : va_D A (w_X0_offer cI cJ cZ h_this l1 l2) := hD
    have e_f := Option.some.inj hf
    cases e_f
    exact hret hP hD hS dX0_offer_27
  refine lv_aload_n hx hb dX0_offer_0 rfl (lv_at hl 0 rfl) ?_
  refine va_get (D := (dC, dI)) (ci := 0) (v := .int c_by) (C := RX0) (T := TX0) (N := 2) hx hb hts in_X0_offer_X0 hown hK hP 0 rfl rfl 0 (by decide) (hts _ m_X0_offer_f9) (fun _ h9 => h9) rfl dX0_offer_1 ?_
  refine lv_bipush (v := (-6)) hx hb dX0_offer_4 (by decide) ?_
  refine lv_icmp_eq (tgt := 17) hx hb dX0_offer_6 (by decide) (fun k_6 => ?_) (fun k_6 => ?_)
  · have hf := ite_t hf k_6
    exact J_17 c_by c_count s.heap [] ls hP hD hS (lv_sub hl [0, 1, 2] rfl) hf
  · have hf := ite_f hf k_6
    refine lv_iload_n hx hb dX0_offer_9 rfl (lv_at hl 2 rfl) ?_
    refine lv_aload_n hx hb dX0_offer_10 rfl (lv_at hl 0 rfl) ?_
    refine va_get (D := (dC, dI)) (ci := 0) (v := .int c_count) (C := RX0) (T := TX0) (N := 2) hx hb hts in_X0_offer_X0 hown hK hP 0 rfl rfl 1 (by decide) (hts _ m_X0_offer_f15) (fun _ h9 => h9) rfl dX0_offer_11 ?_
    refine lv_icmp_ge (tgt := 27) hx hb dX0_offer_14 (by decide) (fun k_14 => ?_) (fun k_14 => ?_)
    · have hf := ite_t hf k_14
      have e_f := Option.some.inj hf
      cases e_f
      exact hret hP hD hS dX0_offer_27
    · have hf := ite_f hf k_14
      exact J_17 c_by c_count s.heap [] ls hP hD hS (lv_sub hl [0, 1, 2] rfl) hf
abbrev w_X5_takeFrom (cI cJ cZ : ClassId) (h_this h_this_firsts h_this_seconds h_a1 h_a1_firsts h_a1_seconds : Nat) (n_this : Nat) (n_a1 : Nat) (c_count : Int32) (c_firsts : Nat → Int32) (c_seconds : Nat → Int32) (c_a1_count : Int32) (c_a1_firsts : Nat → Int32) (c_a1_seconds : Nat → Int32) : va_W := [(h_this, .inr (5, [.ref h_this_firsts, .ref h_this_seconds, .int c_count])), (h_this_firsts, .inl (cI, n_this, .inl c_firsts)), (h_this_seconds, .inl (cI, n_this, .inl c_seconds)), (h_a1, .inr (5, [.ref h_a1_firsts, .ref h_a1_seconds, .int c_a1_count])), (h_a1_firsts, .inl (cI, n_a1, .inl c_a1_firsts)), (h_a1_seconds, .inl (cI, n_a1, .inl c_a1_seconds))]
abbrev rm_X5_takeFrom : Room := { frames := 1, cells := 0, slots := 0, locals := 22 }
theorem m_X5_takeFrom_f19 : (.fieldLink RX5 19 "WovenRows$Pairs" "firsts" "[I" : Cond) ∈ wsX5_takeFrom := by decide +kernel
theorem in_X5_takeFrom_X5 : ∀ w ∈ u_ws RX5 TX5 3, w ∈ wsX5_takeFrom := by decide +kernel
theorem m_X5_takeFrom_f23 : (.fieldLink RX5 23 "WovenRows$Pairs" "seconds" "[I" : Cond) ∈ wsX5_takeFrom := by decide +kernel
theorem m_X5_takeFrom_f7 : (.fieldLink RX5 7 "WovenRows$Pairs" "count" "I" : Cond) ∈ wsX5_takeFrom := by decide +kernel
theorem m_X5_takeFrom_iX10 : (.initialized RX10 : Cond) ∈ wsX5_takeFrom := by decide +kernel
theorem m_X5_takeFrom_st_X10_copy : (.static yX10_copy : Cond) ∈ wsX5_takeFrom := by decide +kernel
set_option maxRecDepth 100000 in
set_option maxHeartbeats 4000000 in
theorem c_X5_takeFrom (l : Launch) (dC : Nat → ClassId) (dI : Nat → Nat → Nat) (cI cJ cZ : ClassId) (h_this h_this_firsts h_this_seconds h_a1 h_a1_firsts h_a1_seconds : Nat) (sz : Nat) (n_this : Nat) (n_a1 : Nat) (c_count : Int32) (c_firsts : Nat → Int32) (c_seconds : Nat → Int32) (c_a1_count : Int32) (c_a1_firsts : Nat → Int32) (c_a1_seconds : Nat → Int32) (z_count : Int32) (z_firsts : Nat → Int32) (z_seconds : Nat → Int32) (hf : f_X5_takeFrom n_this n_a1 c_firsts c_seconds c_a1_count c_a1_firsts c_a1_seconds = some (z_count, z_firsts, z_seconds)) : Met l yX5_takeFrom wsX5_takeFrom rm_X5_takeFrom (va_Pc [.ref h_this, .ref h_a1] (PRE (dC, dI) (TY cI cJ cZ) sz (w_X5_takeFrom cI cJ cZ h_this h_this_firsts h_this_seconds h_a1 h_a1_firsts h_a1_seconds n_this n_a1 c_count c_firsts c_seconds c_a1_count c_a1_firsts c_a1_seconds))) (va_Qv (fun _ : Unit => True) (POW (dC, dI) (va_A (w_X5_takeFrom cI cJ cZ h_this h_this_firsts h_this_seconds h_a1 h_a1_firsts h_a1_seconds n_this n_a1 c_count c_firsts c_seconds c_a1_count c_a1_firsts c_a1_seconds) sz) (w_X5_takeFrom cI cJ cZ h_this h_this_firsts h_this_seconds h_a1 h_a1_firsts h_a1_seconds n_this n_a1 z_count z_firsts z_seconds c_a1_count c_a1_firsts c_a1_seconds)) (va_A (w_X5_takeFrom cI cJ cZ h_this h_this_firsts h_this_seconds h_a1 h_a1_firsts h_a1_seconds n_this n_a1 c_count c_firsts c_seconds c_a1_count c_a1_firsts c_a1_seconds) sz)) 0 0 (va_A (w_X5_takeFrom cI cJ cZ h_this h_this_firsts h_this_seconds h_a1 h_a1_firsts h_a1_seconds n_this n_a1 c_count c_firsts c_seconds c_a1_count c_a1_firsts c_a1_seconds) sz) := by
  refine ofWv (by decide +kernel) rfl (Nat.le_of_ble_eq_true rfl) ?_
  intro p e s m args below meth c Z A ls S hP hD hK hN hA hl hret
  obtain ⟨hx, hb, hml, hown, hts⟩ := id S
  have hown : s.vm.findClass RX5 = some m.cls := hown
  have hS : va_S A s.heap s.heap [] := va_S.rf
  have hl : lv_has ls 2 [(0, .ref h_this), (1, .ref h_a1)] := hl
  unfold f_X5_takeFrom at hf
  refine lv_aload_n hx hb dX5_takeFrom_0 rfl (lv_at hl 1 rfl) ?_
  refine lv_ifnonnull (tgt := 5) hx hb dX5_takeFrom_1 (by decide) ?_
  refine lv_aload_n hx hb dX5_takeFrom_5 rfl (lv_at hl 1 rfl) ?_
  refine va_get (D := (dC, dI)) (ci := 5) (v := .ref h_a1_firsts) (C := RX5) (T := TX5) (N := 3) hx hb hts in_X5_takeFrom_X5 hown hK hP 3 rfl rfl 0 (by decide) (hts _ m_X5_takeFrom_f19) (fun _ h9 => h9) rfl dX5_takeFrom_6 ?_
  refine lv_aload_n hx hb dX5_takeFrom_9 rfl (lv_at hl 0 rfl) ?_
  refine va_get (D := (dC, dI)) (ci := 5) (v := .ref h_this_firsts) (C := RX5) (T := TX5) (N := 3) hx hb hts in_X5_takeFrom_X5 hown hK hP 0 rfl rfl 0 (by decide) (hts _ m_X5_takeFrom_f19) (fun _ h9 => h9) rfl dX5_takeFrom_10 ?_
  obtain ⟨c_firsts_13, hv_13, hf⟩ := bd1_some hf
  refine kWv (rSN (host := "WovenRows") [.ref h_a1_firsts, .ref h_this_firsts] [] S (c_X10_copy l dC dI cI cJ cZ h_a1_firsts h_this_firsts s.heap.size n_a1 n_this c_a1_firsts c_firsts c_firsts_13 hv_13) ⟨va_cnB 2 hts gX5_takeFrom_X10_copy_n26 rfl rfl rfl (hN.m 13 rfl) (hts _ m_X5_takeFrom_iX10) (by decide +kernel) ⟨Nat.le_of_ble_eq_true rfl, Nat.le_of_ble_eq_true rfl⟩, hts _ m_X5_takeFrom_st_X10_copy, trivial⟩ hP hD hK hN [4, 1] rfl (by decide +kernel) rfl hl.1 rfl (Nat.le_of_ble_eq_true rfl) dX5_takeFrom_13 ⟨Nat.le_of_ble_eq_true rfl, Nat.le_of_ble_eq_true rfl⟩) hP hD hS hA [4, 1] rfl rfl [none, some 1, none, none, some 0, none] (by decide +kernel) rfl (fun H locs hP hD hS => ?_)
  have hP : va_P (dC, dI) vwCl (w_X5_takeFrom cI cJ cZ h_this h_this_firsts h_this_seconds h_a1 h_a1_firsts h_a1_seconds n_this n_a1 c_count c_firsts_13 c_seconds c_a1_count c_a1_firsts c_a1_seconds) H := hP
  have hD : va_D A (w_X5_takeFrom cI cJ cZ h_this h_this_firsts h_this_seconds h_a1 h_a1_firsts h_a1_seconds n_this n_a1 c_count c_firsts_13 c_seconds c_a1_count c_a1_firsts c_a1_seconds) := hD
  refine lv_aload_n hx hb dX5_takeFrom_16 rfl (lv_at hl 1 rfl) ?_
  refine va_get (D := (dC, dI)) (ci := 5) (v := .ref h_a1_seconds) (C := RX5) (T := TX5) (N := 3) hx hb hts in_X5_takeFrom_X5 hown hK hP 3 rfl rfl 1 (by decide) (hts _ m_X5_takeFrom_f23) (fun _ h9 => h9) rfl dX5_takeFrom_17 ?_
  refine lv_aload_n hx hb dX5_takeFrom_20 rfl (lv_at hl 0 rfl) ?_
  refine va_get (D := (dC, dI)) (ci := 5) (v := .ref h_this_seconds) (C := RX5) (T := TX5) (N := 3) hx hb hts in_X5_takeFrom_X5 hown hK hP 0 rfl rfl 1 (by decide) (hts _ m_X5_takeFrom_f23) (fun _ h9 => h9) rfl dX5_takeFrom_21 ?_
  obtain ⟨c_seconds_24, hv_24, hf⟩ := bd1_some hf
  refine kWv (rSN (host := "WovenRows") [.ref h_a1_seconds, .ref h_this_seconds] [] S (c_X10_copy l dC dI cI cJ cZ h_a1_seconds h_this_seconds H.size n_a1 n_this c_a1_seconds c_seconds c_seconds_24 hv_24) ⟨va_cnB 2 hts gX5_takeFrom_X10_copy_n26 rfl rfl rfl (hN.m 13 rfl) (hts _ m_X5_takeFrom_iX10) (by decide +kernel) ⟨Nat.le_of_ble_eq_true rfl, Nat.le_of_ble_eq_true rfl⟩, hts _ m_X5_takeFrom_st_X10_copy, trivial⟩ hP hD hK hN [5, 2] rfl (by decide +kernel) rfl hl.1 rfl (Nat.le_of_ble_eq_true rfl) dX5_takeFrom_24 ⟨Nat.le_of_ble_eq_true rfl, Nat.le_of_ble_eq_true rfl⟩) hP hD hS hA [5, 2] rfl rfl [none, none, some 1, none, none, some 0] (by decide +kernel) rfl (fun H locs hP hD hS => ?_)
  have hP : va_P (dC, dI) vwCl (w_X5_takeFrom cI cJ cZ h_this h_this_firsts h_this_seconds h_a1 h_a1_firsts h_a1_seconds n_this n_a1 c_count c_firsts_13 c_seconds_24 c_a1_count c_a1_firsts c_a1_seconds) H := hP
  have hD : va_D A (w_X5_takeFrom cI cJ cZ h_this h_this_firsts h_this_seconds h_a1 h_a1_firsts h_a1_seconds n_this n_a1 c_count c_firsts_13 c_seconds_24 c_a1_count c_a1_firsts c_a1_seconds) := hD
  refine lv_aload_n hx hb dX5_takeFrom_27 rfl (lv_at hl 0 rfl) ?_
  refine lv_aload_n hx hb dX5_takeFrom_28 rfl (lv_at hl 1 rfl) ?_
  refine va_get (D := (dC, dI)) (ci := 5) (v := .int c_a1_count) (C := RX5) (T := TX5) (N := 3) hx hb hts in_X5_takeFrom_X5 hown hK hP 3 rfl rfl 2 (by decide) (hts _ m_X5_takeFrom_f7) (fun _ h9 => h9) rfl dX5_takeFrom_29 ?_
  refine va_put (D := (dC, dI)) (ci := 5) (v := .int c_a1_count) (ty := .int) (C := RX5) (T := TX5) (N := 3) hx hb hts in_X5_takeFrom_X5 tyX5 tyX5_ok nmX5 hown hK hP hD hS 0 rfl rfl 2 (by decide) (hts _ m_X5_takeFrom_f7) (fun _ h9 => h9) rfl (by decide +kernel) rfl rfl (Nat.le_of_ble_eq_true rfl) dX5_takeFrom_32 (fun H locs hP hD hS => ?_)
  have hP : va_P (dC, dI) vwCl (w_X5_takeFrom cI cJ cZ h_this h_this_firsts h_this_seconds h_a1 h_a1_firsts h_a1_seconds n_this n_a1 c_a1_count c_firsts_13 c_seconds_24 c_a1_count c_a1_firsts c_a1_seconds) H := hP
  have hD : va_D A (w_X5_takeFrom cI cJ cZ h_this h_this_firsts h_this_seconds h_a1 h_a1_firsts h_a1_seconds n_this n_a1 c_a1_count c_firsts_13 c_seconds_24 c_a1_count c_a1_firsts c_a1_seconds) := hD
  have e_f := Option.some.inj hf
  cases e_f
  exact hret hP hD hS dX5_takeFrom_35
abbrev w_X5_append (cI cJ cZ : ClassId) (h_this h_this_firsts h_this_seconds : Nat) (n_this : Nat) (c_count : Int32) (c_firsts : Nat → Int32) (c_seconds : Nat → Int32) : va_W := [(h_this, .inr (5, [.ref h_this_firsts, .ref h_this_seconds, .int c_count])), (h_this_firsts, .inl (cI, n_this, .inl c_firsts)), (h_this_seconds, .inl (cI, n_this, .inl c_seconds))]
abbrev rm_X5_append : Room := { frames := 1, cells := 0, slots := 0, locals := 22 }
theorem m_X5_append_f7 : (.fieldLink RX5 7 "WovenRows$Pairs" "count" "I" : Cond) ∈ wsX5_append := by decide +kernel
theorem in_X5_append_X5 : ∀ w ∈ u_ws RX5 TX5 3, w ∈ wsX5_append := by decide +kernel
theorem m_X5_append_f19 : (.fieldLink RX5 19 "WovenRows$Pairs" "firsts" "[I" : Cond) ∈ wsX5_append := by decide +kernel
theorem m_X5_append_f23 : (.fieldLink RX5 23 "WovenRows$Pairs" "seconds" "[I" : Cond) ∈ wsX5_append := by decide +kernel
theorem m_X5_append_iX10 : (.initialized RX10 : Cond) ∈ wsX5_append := by decide +kernel
theorem m_X5_append_st_X10_put : (.static yX10_put : Cond) ∈ wsX5_append := by decide +kernel
set_option maxRecDepth 100000 in
set_option maxHeartbeats 4000000 in
theorem c_X5_append (l : Launch) (dC : Nat → ClassId) (dI : Nat → Nat → Nat) (cI cJ cZ : ClassId) (h_this h_this_firsts h_this_seconds : Nat) (sz : Nat) (n_this : Nat) (c_count : Int32) (c_firsts : Nat → Int32) (c_seconds : Nat → Int32) (l1 : Int32) (l2 : Int32) (z_count : Int32) (z_firsts : Nat → Int32) (z_seconds : Nat → Int32) (hf : f_X5_append n_this c_count c_firsts c_seconds l1 l2 = some (z_count, z_firsts, z_seconds)) : Met l yX5_append wsX5_append rm_X5_append (va_Pc [.ref h_this, .int l1, .int l2] (PRE (dC, dI) (TY cI cJ cZ) sz (w_X5_append cI cJ cZ h_this h_this_firsts h_this_seconds n_this c_count c_firsts c_seconds))) (va_Qv (fun _ : Unit => True) (POW (dC, dI) (va_A (w_X5_append cI cJ cZ h_this h_this_firsts h_this_seconds n_this c_count c_firsts c_seconds) sz) (w_X5_append cI cJ cZ h_this h_this_firsts h_this_seconds n_this z_count z_firsts z_seconds)) (va_A (w_X5_append cI cJ cZ h_this h_this_firsts h_this_seconds n_this c_count c_firsts c_seconds) sz)) 0 0 (va_A (w_X5_append cI cJ cZ h_this h_this_firsts h_this_seconds n_this c_count c_firsts c_seconds) sz) := by
  refine ofWv (by decide +kernel) rfl (Nat.le_of_ble_eq_true rfl) ?_
  intro p e s m args below meth c Z A ls S hP hD hK hN hA hl hret
  obtain ⟨hx, hb, hml, hown, hts⟩ := id S
  have hown : s.vm.findClass RX5 = some m.cls := hown
  have hS : va_S A s.heap s.heap [] := va_S.rf
  have hl : lv_has ls 3 [(0, .ref h_this), (1, .int l1), (2, .int l2)] := hl
  unfold f_X5_append at hf
  refine lv_aload_n hx hb dX5_append_0 rfl (lv_at hl 0 rfl) ?_
  refine va_get (D := (dC, dI)) (ci := 5) (v := .int c_count) (C := RX5) (T := TX5) (N := 3) hx hb hts in_X5_append_X5 hown hK hP 0 rfl rfl 2 (by decide) (hts _ m_X5_append_f7) (fun _ h9 => h9) rfl dX5_append_1 ?_
  refine lv_aload_n hx hb dX5_append_4 rfl (lv_at hl 0 rfl) ?_
  refine va_get (D := (dC, dI)) (ci := 5) (v := .ref h_this_firsts) (C := RX5) (T := TX5) (N := 3) hx hb hts in_X5_append_X5 hown hK hP 0 rfl rfl 0 (by decide) (hts _ m_X5_append_f19) (fun _ h9 => h9) rfl dX5_append_5 ?_
  refine va_alen (v := (nI n_this)) hx hb hK hP 1 0 rfl rfl rfl dX5_append_8 ?_
  refine lv_icmp_ge (tgt := 46) hx hb dX5_append_9 (by decide) (fun k_9 => ?_) (fun k_9 => ?_)
  · have hf := ite_t hf k_9
    have e_f := Option.some.inj hf
    cases e_f
    exact hret hP hD hS dX5_append_46
  · have hf := ite_f hf k_9
    refine lv_aload_n hx hb dX5_append_12 rfl (lv_at hl 0 rfl) ?_
    refine va_get (D := (dC, dI)) (ci := 5) (v := .ref h_this_firsts) (C := RX5) (T := TX5) (N := 3) hx hb hts in_X5_append_X5 hown hK hP 0 rfl rfl 0 (by decide) (hts _ m_X5_append_f19) (fun _ h9 => h9) rfl dX5_append_13 ?_
    refine lv_aload_n hx hb dX5_append_16 rfl (lv_at hl 0 rfl) ?_
    refine va_get (D := (dC, dI)) (ci := 5) (v := .int c_count) (C := RX5) (T := TX5) (N := 3) hx hb hts in_X5_append_X5 hown hK hP 0 rfl rfl 2 (by decide) (hts _ m_X5_append_f7) (fun _ h9 => h9) rfl dX5_append_17 ?_
    refine lv_iload_n hx hb dX5_append_20 rfl (lv_at hl 1 rfl) ?_
    obtain ⟨c_firsts_21, hv_21, hf⟩ := bd1_some hf
    refine kWv (rSN (host := "WovenRows") [.ref h_this_firsts, .int c_count, .int l1] [] S (c_X10_put l dC dI cI cJ cZ h_this_firsts s.heap.size n_this c_firsts c_count l1 c_firsts_21 hv_21) ⟨va_cnB 3 hts gX5_append_X10_put_n32 rfl rfl rfl (hN.m 21 rfl) (hts _ m_X5_append_iX10) (by decide +kernel) ⟨Nat.le_of_ble_eq_true rfl, Nat.le_of_ble_eq_true rfl⟩, hts _ m_X5_append_st_X10_put, trivial⟩ hP hD hK hN [1] rfl (by decide +kernel) rfl hl.1 rfl (Nat.le_of_ble_eq_true rfl) dX5_append_21 ⟨Nat.le_of_ble_eq_true rfl, Nat.le_of_ble_eq_true rfl⟩) hP hD hS hA [1] rfl rfl [none, some 0, none] (by decide +kernel) rfl (fun H locs hP hD hS => ?_)
    have hP : va_P (dC, dI) vwCl (w_X5_append cI cJ cZ h_this h_this_firsts h_this_seconds n_this c_count c_firsts_21 c_seconds) H := hP
    have hD : va_D A (w_X5_append cI cJ cZ h_this h_this_firsts h_this_seconds n_this c_count c_firsts_21 c_seconds) := hD
    refine lv_aload_n hx hb dX5_append_24 rfl (lv_at hl 0 rfl) ?_
    refine va_get (D := (dC, dI)) (ci := 5) (v := .ref h_this_seconds) (C := RX5) (T := TX5) (N := 3) hx hb hts in_X5_append_X5 hown hK hP 0 rfl rfl 1 (by decide) (hts _ m_X5_append_f23) (fun _ h9 => h9) rfl dX5_append_25 ?_
    refine lv_aload_n hx hb dX5_append_28 rfl (lv_at hl 0 rfl) ?_
    refine va_get (D := (dC, dI)) (ci := 5) (v := .int c_count) (C := RX5) (T := TX5) (N := 3) hx hb hts in_X5_append_X5 hown hK hP 0 rfl rfl 2 (by decide) (hts _ m_X5_append_f7) (fun _ h9 => h9) rfl dX5_append_29 ?_
    refine lv_iload_n hx hb dX5_append_32 rfl (lv_at hl 2 rfl) ?_
    obtain ⟨c_seconds_33, hv_33, hf⟩ := bd1_some hf
    refine kWv (rSN (host := "WovenRows") [.ref h_this_seconds, .int c_count, .int l2] [] S (c_X10_put l dC dI cI cJ cZ h_this_seconds H.size n_this c_seconds c_count l2 c_seconds_33 hv_33) ⟨va_cnB 3 hts gX5_append_X10_put_n32 rfl rfl rfl (hN.m 21 rfl) (hts _ m_X5_append_iX10) (by decide +kernel) ⟨Nat.le_of_ble_eq_true rfl, Nat.le_of_ble_eq_true rfl⟩, hts _ m_X5_append_st_X10_put, trivial⟩ hP hD hK hN [2] rfl (by decide +kernel) rfl hl.1 rfl (Nat.le_of_ble_eq_true rfl) dX5_append_33 ⟨Nat.le_of_ble_eq_true rfl, Nat.le_of_ble_eq_true rfl⟩) hP hD hS hA [2] rfl rfl [none, none, some 0] (by decide +kernel) rfl (fun H locs hP hD hS => ?_)
    have hP : va_P (dC, dI) vwCl (w_X5_append cI cJ cZ h_this h_this_firsts h_this_seconds n_this c_count c_firsts_21 c_seconds_33) H := hP
    have hD : va_D A (w_X5_append cI cJ cZ h_this h_this_firsts h_this_seconds n_this c_count c_firsts_21 c_seconds_33) := hD
    refine lv_aload_n hx hb dX5_append_36 rfl (lv_at hl 0 rfl) ?_
    refine lv_dup hx hb dX5_append_37 rfl ?_
    refine va_get (D := (dC, dI)) (ci := 5) (v := .int c_count) (C := RX5) (T := TX5) (N := 3) hx hb hts in_X5_append_X5 hown hK hP 0 rfl rfl 2 (by decide) (hts _ m_X5_append_f7) (fun _ h9 => h9) rfl dX5_append_38 ?_
    refine lv_iconst (v := 1) hx hb dX5_append_41 (by decide) ?_
    refine lv_iadd hx hb dX5_append_42 ?_
    refine va_put (D := (dC, dI)) (ci := 5) (v := .int (c_count + 1)) (ty := .int) (C := RX5) (T := TX5) (N := 3) hx hb hts in_X5_append_X5 tyX5 tyX5_ok nmX5 hown hK hP hD hS 0 rfl rfl 2 (by decide) (hts _ m_X5_append_f7) (fun _ h9 => h9) rfl (by decide +kernel) rfl rfl (Nat.le_of_ble_eq_true rfl) dX5_append_43 (fun H locs hP hD hS => ?_)
    have hP : va_P (dC, dI) vwCl (w_X5_append cI cJ cZ h_this h_this_firsts h_this_seconds n_this (c_count + 1) c_firsts_21 c_seconds_33) H := hP
    have hD : va_D A (w_X5_append cI cJ cZ h_this h_this_firsts h_this_seconds n_this (c_count + 1) c_firsts_21 c_seconds_33) := hD
    have e_f := Option.some.inj hf
    cases e_f
    exact hret hP hD hS dX5_append_46
abbrev w_X5_empty (cI cJ cZ : ClassId) (h_this g_this_firsts g_this_seconds : Nat) (c_count : Int32) : va_W := [(h_this, .inr (5, [.ref g_this_firsts, .ref g_this_seconds, .int c_count]))]
abbrev rm_X5_empty : Room := { frames := 0, cells := 0, slots := 0, locals := 0 }
theorem m_X5_empty_f7 : (.fieldLink RX5 7 "WovenRows$Pairs" "count" "I" : Cond) ∈ wsX5_empty := by decide +kernel
theorem in_X5_empty_X5 : ∀ w ∈ u_ws RX5 TX5 3, w ∈ wsX5_empty := by decide +kernel
set_option maxRecDepth 100000 in
set_option maxHeartbeats 4000000 in
theorem c_X5_empty (l : Launch) (dC : Nat → ClassId) (dI : Nat → Nat → Nat) (cI cJ cZ : ClassId) (h_this g_this_firsts g_this_seconds : Nat) (sz : Nat) (c_count : Int32) (r : Int32) (z_count : Int32) (hf : f_X5_empty c_count = some (r, z_count)) : Met l yX5_empty wsX5_empty rm_X5_empty (va_Pc [.ref h_this] (PRE (dC, dI) (TY cI cJ cZ) sz (w_X5_empty cI cJ cZ h_this g_this_firsts g_this_seconds c_count))) (va_Qi (fun r' (_ : Unit) => r' = r) (POW (dC, dI) (va_A (w_X5_empty cI cJ cZ h_this g_this_firsts g_this_seconds c_count) sz) (w_X5_empty cI cJ cZ h_this g_this_firsts g_this_seconds z_count)) (va_A (w_X5_empty cI cJ cZ h_this g_this_firsts g_this_seconds c_count) sz)) 0 0 (va_A (w_X5_empty cI cJ cZ h_this g_this_firsts g_this_seconds c_count) sz) := by
  refine ofWi (ty := .int) (by decide +kernel) rfl (Nat.le_of_ble_eq_true rfl) ?_
  intro p e s m args below meth c Z A ls S hP hD hK hN hA hl hret
  obtain ⟨hx, hb, hml, hown, hts⟩ := id S
  have hown : s.vm.findClass RX5 = some m.cls := hown
  have hS : va_S A s.heap s.heap [] := va_S.rf
  have hl : lv_has ls 2 [(0, .ref h_this)] := hl
  unfold f_X5_empty at hf
  refine lv_aload_n hx hb dX5_empty_0 rfl (lv_at hl 0 rfl) ?_
  refine va_get (D := (dC, dI)) (ci := 5) (v := .int c_count) (C := RX5) (T := TX5) (N := 3) hx hb hts in_X5_empty_X5 hown hK hP 0 rfl rfl 2 (by decide) (hts _ m_X5_empty_f7) (fun _ h9 => h9) rfl dX5_empty_1 ?_
  refine lv_istore_n (lv' := [(1, .int c_count), (0, .ref h_this)]) hx hb dX5_empty_4 rfl hl (by decide) rfl (fun ls hl => ?_)
  refine lv_aload_n hx hb dX5_empty_5 rfl (lv_at hl 1 rfl) ?_
  refine lv_iconst (v := 0) hx hb dX5_empty_6 (by decide) ?_
  refine va_put (D := (dC, dI)) (ci := 5) (v := .int 0) (ty := .int) (C := RX5) (T := TX5) (N := 3) hx hb hts in_X5_empty_X5 tyX5 tyX5_ok nmX5 hown hK hP hD hS 0 rfl rfl 2 (by decide) (hts _ m_X5_empty_f7) (fun _ h9 => h9) rfl (by decide +kernel) rfl rfl (Nat.le_of_ble_eq_true rfl) dX5_empty_7 (fun H locs hP hD hS => ?_)
  have hP : va_P (dC, dI) vwCl (w_X5_empty cI cJ cZ h_this g_this_firsts g_this_seconds 0) H := hP
  have hD : va_D A (w_X5_empty cI cJ cZ h_this g_this_firsts g_this_seconds 0) := hD
  refine lv_iload_n hx hb dX5_empty_10 rfl (lv_at hl 0 rfl) ?_
  have e_f := Option.some.inj hf
  cases e_f
  exact hret rfl hP hD hS dX5_empty_11
abbrev w_X4_write (cI cJ cZ : ClassId) (h_this h_this_signs : Nat) (c_count : Int32) (c_signs : Nat → Int32) : va_W := [(h_this, .inr (4, [.ref h_this_signs, .int c_count])), (h_this_signs, .inl (cI, 60, .inl c_signs))]
abbrev rm_X4_write : Room := { frames := 1, cells := 0, slots := 0, locals := 22 }
theorem m_X4_write_f15 : (.fieldLink RX4 15 "WovenRows$Pad" "count" "I" : Cond) ∈ wsX4_write := by decide +kernel
theorem in_X4_write_X4 : ∀ w ∈ u_ws RX4 TX4 2, w ∈ wsX4_write := by decide +kernel
theorem m_X4_write_f9 : (.fieldLink RX4 9 "WovenRows$Pad" "signs" "[I" : Cond) ∈ wsX4_write := by decide +kernel
theorem m_X4_write_iX10 : (.initialized RX10 : Cond) ∈ wsX4_write := by decide +kernel
theorem m_X4_write_st_X10_put : (.static yX10_put : Cond) ∈ wsX4_write := by decide +kernel
set_option maxRecDepth 100000 in
set_option maxHeartbeats 4000000 in
theorem c_X4_write (l : Launch) (dC : Nat → ClassId) (dI : Nat → Nat → Nat) (cI cJ cZ : ClassId) (h_this h_this_signs : Nat) (sz : Nat) (c_count : Int32) (c_signs : Nat → Int32) (l1 : Int32) (z_count : Int32) (z_signs : Nat → Int32) (hf : f_X4_write c_count c_signs l1 = some (z_count, z_signs)) : Met l yX4_write wsX4_write rm_X4_write (va_Pc [.ref h_this, .int l1] (PRE (dC, dI) (TY cI cJ cZ) sz (w_X4_write cI cJ cZ h_this h_this_signs c_count c_signs))) (va_Qv (fun _ : Unit => True) (POW (dC, dI) (va_A (w_X4_write cI cJ cZ h_this h_this_signs c_count c_signs) sz) (w_X4_write cI cJ cZ h_this h_this_signs z_count z_signs)) (va_A (w_X4_write cI cJ cZ h_this h_this_signs c_count c_signs) sz)) 0 0 (va_A (w_X4_write cI cJ cZ h_this h_this_signs c_count c_signs) sz) := by
  refine ofWv (by decide +kernel) rfl (Nat.le_of_ble_eq_true rfl) ?_
  intro p e s m args below meth c Z A ls S hP hD hK hN hA hl hret
  obtain ⟨hx, hb, hml, hown, hts⟩ := id S
  have hown : s.vm.findClass RX4 = some m.cls := hown
  have hS : va_S A s.heap s.heap [] := va_S.rf
  have hl : lv_has ls 2 [(0, .ref h_this), (1, .int l1)] := hl
  unfold f_X4_write at hf
  refine lv_aload_n hx hb dX4_write_0 rfl (lv_at hl 0 rfl) ?_
  refine va_get (D := (dC, dI)) (ci := 4) (v := .int c_count) (C := RX4) (T := TX4) (N := 2) hx hb hts in_X4_write_X4 hown hK hP 0 rfl rfl 1 (by decide) (hts _ m_X4_write_f15) (fun _ h9 => h9) rfl dX4_write_1 ?_
  refine lv_aload_n hx hb dX4_write_4 rfl (lv_at hl 0 rfl) ?_
  refine va_get (D := (dC, dI)) (ci := 4) (v := .ref h_this_signs) (C := RX4) (T := TX4) (N := 2) hx hb hts in_X4_write_X4 hown hK hP 0 rfl rfl 0 (by decide) (hts _ m_X4_write_f9) (fun _ h9 => h9) rfl dX4_write_5 ?_
  refine va_alen (v := 60) hx hb hK hP 1 0 rfl rfl rfl dX4_write_8 ?_
  refine lv_icmp_ge (tgt := 34) hx hb dX4_write_9 (by decide) (fun k_9 => ?_) (fun k_9 => ?_)
  · have hf := ite_t hf k_9
    have e_f := Option.some.inj hf
    cases e_f
    exact hret hP hD hS dX4_write_34
  · have hf := ite_f hf k_9
    refine lv_aload_n hx hb dX4_write_12 rfl (lv_at hl 0 rfl) ?_
    refine va_get (D := (dC, dI)) (ci := 4) (v := .ref h_this_signs) (C := RX4) (T := TX4) (N := 2) hx hb hts in_X4_write_X4 hown hK hP 0 rfl rfl 0 (by decide) (hts _ m_X4_write_f9) (fun _ h9 => h9) rfl dX4_write_13 ?_
    refine lv_aload_n hx hb dX4_write_16 rfl (lv_at hl 0 rfl) ?_
    refine va_get (D := (dC, dI)) (ci := 4) (v := .int c_count) (C := RX4) (T := TX4) (N := 2) hx hb hts in_X4_write_X4 hown hK hP 0 rfl rfl 1 (by decide) (hts _ m_X4_write_f15) (fun _ h9 => h9) rfl dX4_write_17 ?_
    refine lv_iload_n hx hb dX4_write_20 rfl (lv_at hl 1 rfl) ?_
    obtain ⟨c_signs_21, hv_21, hf⟩ := bd1_some hf
    refine kWv (rSN (host := "WovenRows") [.ref h_this_signs, .int c_count, .int l1] [] S (c_X10_put l dC dI cI cJ cZ h_this_signs s.heap.size 60 c_signs c_count l1 c_signs_21 hv_21) ⟨va_cnB 3 hts gX4_write_X10_put_n19 rfl rfl rfl (hN.m 9 rfl) (hts _ m_X4_write_iX10) (by decide +kernel) ⟨Nat.le_of_ble_eq_true rfl, Nat.le_of_ble_eq_true rfl⟩, hts _ m_X4_write_st_X10_put, trivial⟩ hP hD hK hN [1] rfl (by decide +kernel) rfl hl.1 rfl (Nat.le_of_ble_eq_true rfl) dX4_write_21 ⟨Nat.le_of_ble_eq_true rfl, Nat.le_of_ble_eq_true rfl⟩) hP hD hS hA [1] rfl rfl [none, some 0] (by decide +kernel) rfl (fun H locs hP hD hS => ?_)
    have hP : va_P (dC, dI) vwCl (w_X4_write cI cJ cZ h_this h_this_signs c_count c_signs_21) H := hP
    have hD : va_D A (w_X4_write cI cJ cZ h_this h_this_signs c_count c_signs_21) := hD
    refine lv_aload_n hx hb dX4_write_24 rfl (lv_at hl 0 rfl) ?_
    refine lv_dup hx hb dX4_write_25 rfl ?_
    refine va_get (D := (dC, dI)) (ci := 4) (v := .int c_count) (C := RX4) (T := TX4) (N := 2) hx hb hts in_X4_write_X4 hown hK hP 0 rfl rfl 1 (by decide) (hts _ m_X4_write_f15) (fun _ h9 => h9) rfl dX4_write_26 ?_
    refine lv_iconst (v := 1) hx hb dX4_write_29 (by decide) ?_
    refine lv_iadd hx hb dX4_write_30 ?_
    refine va_put (D := (dC, dI)) (ci := 4) (v := .int (c_count + 1)) (ty := .int) (C := RX4) (T := TX4) (N := 2) hx hb hts in_X4_write_X4 tyX4 tyX4_ok nmX4 hown hK hP hD hS 0 rfl rfl 1 (by decide) (hts _ m_X4_write_f15) (fun _ h9 => h9) rfl (by decide +kernel) rfl rfl (Nat.le_of_ble_eq_true rfl) dX4_write_31 (fun H locs hP hD hS => ?_)
    have hP : va_P (dC, dI) vwCl (w_X4_write cI cJ cZ h_this h_this_signs (c_count + 1) c_signs_21) H := hP
    have hD : va_D A (w_X4_write cI cJ cZ h_this h_this_signs (c_count + 1) c_signs_21) := hD
    have e_f := Option.some.inj hf
    cases e_f
    exact hret hP hD hS dX4_write_34
abbrev w_X4_empty (cI cJ cZ : ClassId) (h_this g_this_signs : Nat) (c_count : Int32) : va_W := [(h_this, .inr (4, [.ref g_this_signs, .int c_count]))]
abbrev rm_X4_empty : Room := { frames := 0, cells := 0, slots := 0, locals := 0 }
theorem m_X4_empty_f15 : (.fieldLink RX4 15 "WovenRows$Pad" "count" "I" : Cond) ∈ wsX4_empty := by decide +kernel
theorem in_X4_empty_X4 : ∀ w ∈ u_ws RX4 TX4 2, w ∈ wsX4_empty := by decide +kernel
set_option maxRecDepth 100000 in
set_option maxHeartbeats 4000000 in
theorem c_X4_empty (l : Launch) (dC : Nat → ClassId) (dI : Nat → Nat → Nat) (cI cJ cZ : ClassId) (h_this g_this_signs : Nat) (sz : Nat) (c_count : Int32) (r : Int32) (z_count : Int32) (hf : f_X4_empty c_count = some (r, z_count)) : Met l yX4_empty wsX4_empty rm_X4_empty (va_Pc [.ref h_this] (PRE (dC, dI) (TY cI cJ cZ) sz (w_X4_empty cI cJ cZ h_this g_this_signs c_count))) (va_Qi (fun r' (_ : Unit) => r' = r) (POW (dC, dI) (va_A (w_X4_empty cI cJ cZ h_this g_this_signs c_count) sz) (w_X4_empty cI cJ cZ h_this g_this_signs z_count)) (va_A (w_X4_empty cI cJ cZ h_this g_this_signs c_count) sz)) 0 0 (va_A (w_X4_empty cI cJ cZ h_this g_this_signs c_count) sz) := by
  refine ofWi (ty := .int) (by decide +kernel) rfl (Nat.le_of_ble_eq_true rfl) ?_
  intro p e s m args below meth c Z A ls S hP hD hK hN hA hl hret
  obtain ⟨hx, hb, hml, hown, hts⟩ := id S
  have hown : s.vm.findClass RX4 = some m.cls := hown
  have hS : va_S A s.heap s.heap [] := va_S.rf
  have hl : lv_has ls 2 [(0, .ref h_this)] := hl
  unfold f_X4_empty at hf
  refine lv_aload_n hx hb dX4_empty_0 rfl (lv_at hl 0 rfl) ?_
  refine va_get (D := (dC, dI)) (ci := 4) (v := .int c_count) (C := RX4) (T := TX4) (N := 2) hx hb hts in_X4_empty_X4 hown hK hP 0 rfl rfl 1 (by decide) (hts _ m_X4_empty_f15) (fun _ h9 => h9) rfl dX4_empty_1 ?_
  refine lv_istore_n (lv' := [(1, .int c_count), (0, .ref h_this)]) hx hb dX4_empty_4 rfl hl (by decide) rfl (fun ls hl => ?_)
  refine lv_aload_n hx hb dX4_empty_5 rfl (lv_at hl 1 rfl) ?_
  refine lv_iconst (v := 0) hx hb dX4_empty_6 (by decide) ?_
  refine va_put (D := (dC, dI)) (ci := 4) (v := .int 0) (ty := .int) (C := RX4) (T := TX4) (N := 2) hx hb hts in_X4_empty_X4 tyX4 tyX4_ok nmX4 hown hK hP hD hS 0 rfl rfl 1 (by decide) (hts _ m_X4_empty_f15) (fun _ h9 => h9) rfl (by decide +kernel) rfl rfl (Nat.le_of_ble_eq_true rfl) dX4_empty_7 (fun H locs hP hD hS => ?_)
  have hP : va_P (dC, dI) vwCl (w_X4_empty cI cJ cZ h_this g_this_signs 0) H := hP
  have hD : va_D A (w_X4_empty cI cJ cZ h_this g_this_signs 0) := hD
  refine lv_iload_n hx hb dX4_empty_10 rfl (lv_at hl 0 rfl) ?_
  have e_f := Option.some.inj hf
  cases e_f
  exact hret rfl hP hD hS dX4_empty_11
abbrev w_X4_isLetter : va_W := []
abbrev rm_X4_isLetter : Room := { frames := 0, cells := 0, slots := 0, locals := 0 }
set_option maxRecDepth 100000 in
set_option maxHeartbeats 4000000 in
theorem c_X4_isLetter (l : Launch) (dC : Nat → ClassId) (dI : Nat → Nat → Nat) (cI cJ cZ : ClassId) (sz : Nat) (l0 : Int32) (r : Int32) (hf : f_X4_isLetter l0 = some r) : Met l yX4_isLetter wsX4_isLetter rm_X4_isLetter (va_Pc [.int l0] (PRE (dC, dI) (TY cI cJ cZ) sz w_X4_isLetter)) (vp_Si (fun r' => r' = r)) 0 0 (fun _ => False) := by
  refine ofSi (ty := .boolean) (by decide +kernel) rfl (Nat.le_of_ble_eq_true rfl) ?_
  intro p e s m args below meth c Z ls S hP hD hK hN hl hret
  obtain ⟨hx, hb, hml, hown, hts⟩ := id S
  have hown : s.vm.findClass RX4 = some m.cls := hown
  have hl : lv_has ls 1 [(0, .int l0)] := hl
  unfold f_X4_isLetter at hf
  refine lv_iload_n hx hb dX4_isLetter_0 rfl (lv_at hl 0 rfl) ?_
  refine lv_bipush (v := 65) hx hb dX4_isLetter_1 (by decide) ?_
  refine lv_icmp_lt (tgt := 16) hx hb dX4_isLetter_3 (by decide) (fun k_3 => ?_) (fun k_3 => ?_)
  · have hf := ite_t hf k_3
    refine lv_iconst (v := 0) hx hb dX4_isLetter_16 (by decide) ?_
    have e_f := Option.some.inj hf
    cases e_f
    exact hret rfl dX4_isLetter_17
  · have hf := ite_f hf k_3
    refine lv_iload_n hx hb dX4_isLetter_6 rfl (lv_at hl 0 rfl) ?_
    refine lv_bipush (v := 75) hx hb dX4_isLetter_7 (by decide) ?_
    refine lv_icmp_ge (tgt := 16) hx hb dX4_isLetter_9 (by decide) (fun k_9 => ?_) (fun k_9 => ?_)
    · have hf := ite_t hf k_9
      refine lv_iconst (v := 0) hx hb dX4_isLetter_16 (by decide) ?_
      have e_f := Option.some.inj hf
      cases e_f
      exact hret rfl dX4_isLetter_17
    · have hf := ite_f hf k_9
      refine lv_iconst (v := 1) hx hb dX4_isLetter_12 (by decide) ?_
      refine lv_goto (tgt := 17) hx hb dX4_isLetter_13 (by decide) ?_
      have e_f := Option.some.inj hf
      cases e_f
      exact hret rfl dX4_isLetter_17
abbrev w_X4_endsAsVerb : va_W := []
abbrev rm_X4_endsAsVerb : Room := { frames := 0, cells := 0, slots := 0, locals := 0 }
set_option maxRecDepth 100000 in
set_option maxHeartbeats 4000000 in
theorem c_X4_endsAsVerb (l : Launch) (dC : Nat → ClassId) (dI : Nat → Nat → Nat) (cI cJ cZ : ClassId) (sz : Nat) (l0 : Int32) (r : Int32) (hf : f_X4_endsAsVerb l0 = some r) : Met l yX4_endsAsVerb wsX4_endsAsVerb rm_X4_endsAsVerb (va_Pc [.int l0] (PRE (dC, dI) (TY cI cJ cZ) sz w_X4_endsAsVerb)) (vp_Si (fun r' => r' = r)) 0 0 (fun _ => False) := by
  refine ofSi (ty := .boolean) (by decide +kernel) rfl (Nat.le_of_ble_eq_true rfl) ?_
  intro p e s m args below meth c Z ls S hP hD hK hN hl hret
  obtain ⟨hx, hb, hml, hown, hts⟩ := id S
  have hown : s.vm.findClass RX4 = some m.cls := hown
  have hl : lv_has ls 1 [(0, .int l0)] := hl
  unfold f_X4_endsAsVerb at hf
  have J_18 : ∀ (ls : Array Slot), lv_has ls 1 [] → f_X4_endsAsVerb_j18 = some r → W p l e rm_X4_endsAsVerb s m args below meth c s.heap [] 0 0 Z (F0 m 18 ls []) := by
    intro ls hl hf
    unfold f_X4_endsAsVerb_j18 at hf
    refine lv_iconst (v := 1) hx hb dX4_endsAsVerb_18 (by decide) ?_
    refine lv_goto (tgt := 23) hx hb dX4_endsAsVerb_19 (by decide) ?_
    have e_f := Option.some.inj hf
    cases e_f
    exact hret rfl dX4_endsAsVerb_23
  refine lv_iload_n hx hb dX4_endsAsVerb_0 rfl (lv_at hl 0 rfl) ?_
  refine lv_bipush (v := 100) hx hb dX4_endsAsVerb_1 (by decide) ?_
  refine lv_icmp_eq (tgt := 18) hx hb dX4_endsAsVerb_3 (by decide) (fun k_3 => ?_) (fun k_3 => ?_)
  · have hf := ite_t hf k_3
    exact J_18  ls (lv_sub hl [] rfl) hf
  · have hf := ite_f hf k_3
    refine lv_iload_n hx hb dX4_endsAsVerb_6 rfl (lv_at hl 0 rfl) ?_
    refine lv_bipush (v := 117) hx hb dX4_endsAsVerb_7 (by decide) ?_
    refine lv_icmp_eq (tgt := 18) hx hb dX4_endsAsVerb_9 (by decide) (fun k_9 => ?_) (fun k_9 => ?_)
    · have hf := ite_t hf k_9
      exact J_18  ls (lv_sub hl [] rfl) hf
    · have hf := ite_f hf k_9
      refine lv_iload_n hx hb dX4_endsAsVerb_12 rfl (lv_at hl 0 rfl) ?_
      refine lv_bipush (v := 45) hx hb dX4_endsAsVerb_13 (by decide) ?_
      refine lv_icmp_ne (tgt := 22) hx hb dX4_endsAsVerb_15 (by decide) (fun k_15 => ?_) (fun k_15 => ?_)
      · have hf := ite_f hf k_15
        refine lv_iconst (v := 0) hx hb dX4_endsAsVerb_22 (by decide) ?_
        have e_f := Option.some.inj hf
        cases e_f
        exact hret rfl dX4_endsAsVerb_23
      · have hf := ite_t hf k_15
        exact J_18  ls (lv_sub hl [] rfl) hf
abbrev w_X4_wantsAfter : va_W := []
abbrev rm_X4_wantsAfter : Room := { frames := 1, cells := 0, slots := 0, locals := 20 }
set_option maxRecDepth 100000 in
set_option maxHeartbeats 4000000 in
theorem c_X4_wantsAfter (l : Launch) (dC : Nat → ClassId) (dI : Nat → Nat → Nat) (cI cJ cZ : ClassId) (sz : Nat) (l0 : Int32) (l1 : Int32) (r : Int32) (hf : f_X4_wantsAfter l0 l1 = some r) : Met l yX4_wantsAfter wsX4_wantsAfter rm_X4_wantsAfter (va_Pc [.int l0, .int l1] (PRE (dC, dI) (TY cI cJ cZ) sz w_X4_wantsAfter)) (vp_Si (fun r' => r' = r)) 0 0 (fun _ => False) := by
  refine ofSi (ty := .int) (by decide +kernel) rfl (Nat.le_of_ble_eq_true rfl) ?_
  intro p e s m args below meth c Z ls S hP hD hK hN hl hret
  obtain ⟨hx, hb, hml, hown, hts⟩ := id S
  have hown : s.vm.findClass RX4 = some m.cls := hown
  have hl : lv_has ls 2 [(0, .int l0), (1, .int l1)] := hl
  unfold f_X4_wantsAfter at hf
  refine lv_iload_n hx hb dX4_wantsAfter_0 rfl (lv_at hl 0 rfl) ?_
  by_cases k_1_0 : l0 = 0
  · have hf := ite_t hf k_1_0
    refine lv_lookup (off := 27) (tgt := 28) hx hb dX4_wantsAfter_1 (by decide) (by rw [k_1_0]; decide) (by decide) ?_
    refine lv_iload_n hx hb dX4_wantsAfter_28 rfl (lv_at hl 1 rfl) ?_
    refine lv_bipush (v := 33) hx hb dX4_wantsAfter_29 (by decide) ?_
    refine lv_icmp_ne (tgt := 36) hx hb dX4_wantsAfter_31 (by decide) (fun k_31 => ?_) (fun k_31 => ?_)
    · have hf := ite_f hf k_31
      refine lv_iload_n hx hb dX4_wantsAfter_36 rfl (lv_at hl 1 rfl) ?_
      obtain ⟨r_37, hv_37, hf⟩ := bd1_some hf
      refine kSi (rS [.int l1] [] S (c_X4_isLetter l dC dI cI cJ cZ s.heap.size l1 r_37 hv_37) (va_cwS 1 hts gX4_wantsAfter_X4_isLetter rfl rfl rfl (by decide +kernel) ⟨Nat.le_of_ble_eq_true rfl, Nat.le_of_ble_eq_true rfl⟩) hP hD hK hN [] rfl (by decide +kernel) rfl hl.1 rfl (Nat.le_of_ble_eq_true rfl) dX4_wantsAfter_37 ⟨Nat.le_of_ble_eq_true rfl, Nat.le_of_ble_eq_true rfl⟩) ?_
      refine lv_if_eq (tgt := 47) hx hb dX4_wantsAfter_40 (by decide) (fun k_40 => ?_) (fun k_40 => ?_)
      · have hf := ite_t hf k_40
        refine lv_iconst (v := 3) hx hb dX4_wantsAfter_47 (by decide) ?_
        have e_f := Option.some.inj hf
        cases e_f
        exact hret rfl dX4_wantsAfter_48
      · have hf := ite_f hf k_40
        refine lv_iconst (v := 1) hx hb dX4_wantsAfter_43 (by decide) ?_
        refine lv_goto (tgt := 48) hx hb dX4_wantsAfter_44 (by decide) ?_
        have e_f := Option.some.inj hf
        cases e_f
        exact hret rfl dX4_wantsAfter_48
    · have hf := ite_t hf k_31
      refine lv_iconst (v := 0) hx hb dX4_wantsAfter_34 (by decide) ?_
      have e_f := Option.some.inj hf
      cases e_f
      exact hret rfl dX4_wantsAfter_35
  have hf := ite_f hf k_1_0
  have k_1_0 := sw_ne (z := 0) (by decide) k_1_0
  by_cases k_1_1 : l0 = 1
  · have hf := ite_t hf k_1_1
    refine lv_lookup (off := 48) (tgt := 49) hx hb dX4_wantsAfter_1 (by decide) (by rw [k_1_1]; decide) (by decide) ?_
    refine lv_iload_n hx hb dX4_wantsAfter_49 rfl (lv_at hl 1 rfl) ?_
    refine lv_bipush (v := 120) hx hb dX4_wantsAfter_50 (by decide) ?_
    refine lv_icmp_ne (tgt := 57) hx hb dX4_wantsAfter_52 (by decide) (fun k_52 => ?_) (fun k_52 => ?_)
    · have hf := ite_f hf k_52
      refine lv_iload_n hx hb dX4_wantsAfter_57 rfl (lv_at hl 1 rfl) ?_
      obtain ⟨r_58, hv_58, hf⟩ := bd1_some hf
      refine kSi (rS [.int l1] [] S (c_X4_endsAsVerb l dC dI cI cJ cZ s.heap.size l1 r_58 hv_58) (va_cwS 1 hts gX4_wantsAfter_X4_endsAsVerb rfl rfl rfl (by decide +kernel) ⟨Nat.le_of_ble_eq_true rfl, Nat.le_of_ble_eq_true rfl⟩) hP hD hK hN [] rfl (by decide +kernel) rfl hl.1 rfl (Nat.le_of_ble_eq_true rfl) dX4_wantsAfter_58 ⟨Nat.le_of_ble_eq_true rfl, Nat.le_of_ble_eq_true rfl⟩) ?_
      refine lv_if_eq (tgt := 68) hx hb dX4_wantsAfter_61 (by decide) (fun k_61 => ?_) (fun k_61 => ?_)
      · have hf := ite_t hf k_61
        refine lv_iconst (v := 3) hx hb dX4_wantsAfter_68 (by decide) ?_
        have e_f := Option.some.inj hf
        cases e_f
        exact hret rfl dX4_wantsAfter_69
      · have hf := ite_f hf k_61
        refine lv_iconst (v := 0) hx hb dX4_wantsAfter_64 (by decide) ?_
        refine lv_goto (tgt := 69) hx hb dX4_wantsAfter_65 (by decide) ?_
        have e_f := Option.some.inj hf
        cases e_f
        exact hret rfl dX4_wantsAfter_69
    · have hf := ite_t hf k_52
      refine lv_iconst (v := 2) hx hb dX4_wantsAfter_55 (by decide) ?_
      have e_f := Option.some.inj hf
      cases e_f
      exact hret rfl dX4_wantsAfter_56
  have hf := ite_f hf k_1_1
  have k_1_1 := sw_ne (z := 1) (by decide) k_1_1
  refine lv_lookup (off := 69) (tgt := 70) hx hb dX4_wantsAfter_1 (by decide) (by simp [Op.lookupswitch.offset]; rw [if_neg (by omega), if_neg (by omega)]) (by decide) ?_
  refine lv_iload_n hx hb dX4_wantsAfter_70 rfl (lv_at hl 1 rfl) ?_
  obtain ⟨r_71, hv_71, hf⟩ := bd1_some hf
  refine kSi (rS [.int l1] [] S (c_X4_isLetter l dC dI cI cJ cZ s.heap.size l1 r_71 hv_71) (va_cwS 1 hts gX4_wantsAfter_X4_isLetter rfl rfl rfl (by decide +kernel) ⟨Nat.le_of_ble_eq_true rfl, Nat.le_of_ble_eq_true rfl⟩) hP hD hK hN [] rfl (by decide +kernel) rfl hl.1 rfl (Nat.le_of_ble_eq_true rfl) dX4_wantsAfter_71 ⟨Nat.le_of_ble_eq_true rfl, Nat.le_of_ble_eq_true rfl⟩) ?_
  refine lv_if_eq (tgt := 81) hx hb dX4_wantsAfter_74 (by decide) (fun k_74 => ?_) (fun k_74 => ?_)
  · have hf := ite_t hf k_74
    refine lv_iconst (v := 3) hx hb dX4_wantsAfter_81 (by decide) ?_
    have e_f := Option.some.inj hf
    cases e_f
    exact hret rfl dX4_wantsAfter_82
  · have hf := ite_f hf k_74
    refine lv_iconst (v := 0) hx hb dX4_wantsAfter_77 (by decide) ?_
    refine lv_goto (tgt := 82) hx hb dX4_wantsAfter_78 (by decide) ?_
    have e_f := Option.some.inj hf
    cases e_f
    exact hret rfl dX4_wantsAfter_82
abbrev w_X4_firstFault (cI cJ cZ : ClassId) (h_this h_this_signs : Nat) (c_count : Int32) (c_signs : Nat → Int32) : va_W := [(h_this, .inr (4, [.ref h_this_signs, .int c_count])), (h_this_signs, .inl (cI, 60, .inl c_signs))]
abbrev rm_X4_firstFault : Room := { frames := 2, cells := 0, slots := 0, locals := 41 }
theorem m_X4_firstFault_f15 : (.fieldLink RX4 15 "WovenRows$Pad" "count" "I" : Cond) ∈ wsX4_firstFault := by decide +kernel
theorem in_X4_firstFault_X4 : ∀ w ∈ u_ws RX4 TX4 2, w ∈ wsX4_firstFault := by decide +kernel
theorem m_X4_firstFault_f9 : (.fieldLink RX4 9 "WovenRows$Pad" "signs" "[I" : Cond) ∈ wsX4_firstFault := by decide +kernel
theorem m_X4_firstFault_iX10 : (.initialized RX10 : Cond) ∈ wsX4_firstFault := by decide +kernel
theorem m_X4_firstFault_st_X10_at : (.static yX10_at : Cond) ∈ wsX4_firstFault := by decide +kernel
set_option maxRecDepth 100000 in
set_option maxHeartbeats 4000000 in
theorem c_X4_firstFault (l : Launch) (dC : Nat → ClassId) (dI : Nat → Nat → Nat) (cI cJ cZ : ClassId) (h_this h_this_signs : Nat) (sz : Nat) (c_count : Int32) (c_signs : Nat → Int32) (r : Int32) (hf : f_X4_firstFault c_count c_signs = some r) : Met l yX4_firstFault wsX4_firstFault rm_X4_firstFault (va_Pc [.ref h_this] (PRE (dC, dI) (TY cI cJ cZ) sz (w_X4_firstFault cI cJ cZ h_this h_this_signs c_count c_signs))) (vp_Si (fun r' => r' = r)) 0 0 (fun _ => False) := by
  refine ofSi (ty := .int) (by decide +kernel) rfl (Nat.le_of_ble_eq_true rfl) ?_
  intro p e s m args below meth c Z ls S hP hD hK hN hl hret
  obtain ⟨hx, hb, hml, hown, hts⟩ := id S
  have hown : s.vm.findClass RX4 = some m.cls := hown
  have hl : lv_has ls 3 [(0, .ref h_this)] := hl
  unfold f_X4_firstFault at hf
  refine lv_iconst (v := 0) hx hb dX4_firstFault_0 (by decide) ?_
  refine lv_istore_n (lv' := [(1, .int 0), (0, .ref h_this)]) hx hb dX4_firstFault_1 rfl hl (by decide) rfl (fun ls hl => ?_)
  refine lv_iconst (v := 0) hx hb dX4_firstFault_2 (by decide) ?_
  refine lv_istore_n (lv' := [(2, .int 0), (1, .int 0), (0, .ref h_this)]) hx hb dX4_firstFault_3 rfl hl (by decide) rfl (fun ls hl => ?_)
  obtain ⟨q_4, hq_4, hqa_4, hqb_4⟩ := bdr_some hf
  have K_4 : ∀ (l1_4x : Int32) (l2_4x : Int32), q_4 = .inl (l1_4x, l2_4x) → ∀ (ls : Array Slot), lv_has ls 3 [(0, .ref h_this), (1, .int l1_4x)] → W p l e rm_X4_firstFault s m args below meth c s.heap [] 0 0 Z (F0 m 38 ls []) := by
    intro l1_4x l2_4x e_4 ls hl
    have hf := hqa_4 _ e_4
    try dsimp only at hf
    refine lv_iload_n hx hb dX4_firstFault_38 rfl (lv_at hl 1 rfl) ?_
    refine lv_if_ne (tgt := 47) hx hb dX4_firstFault_39 (by decide) (fun k_39 => ?_) (fun k_39 => ?_)
    · have hf := ite_f hf k_39
      refine lv_aload_n hx hb dX4_firstFault_47 rfl (lv_at hl 0 rfl) ?_
      refine va_get (D := (dC, dI)) (ci := 4) (v := .int c_count) (C := RX4) (T := TX4) (N := 2) hx hb hts in_X4_firstFault_X4 hown hK hP 0 rfl rfl 1 (by decide) (hts _ m_X4_firstFault_f15) (fun _ h9 => h9) rfl dX4_firstFault_48 ?_
      have e_f := Option.some.inj hf
      cases e_f
      exact hret rfl dX4_firstFault_51
    · have hf := ite_t hf k_39
      refine lv_bipush (v := (-6)) hx hb dX4_firstFault_42 (by decide) ?_
      refine lv_goto (tgt := 51) hx hb dX4_firstFault_44 (by decide) ?_
      have e_f := Option.some.inj hf
      cases e_f
      exact hret rfl dX4_firstFault_51
  have L_4 : ∀ (n : Nat) (l1_4 : Int32) (l2_4 : Int32) (ls : Array Slot), lv_has ls 3 [(0, .ref h_this), (1, .int l1_4), (2, .int l2_4)] → loopN (fun (q : Int32 × Int32) => f_X4_firstFault_b4 c_count c_signs q.1 q.2) n (l1_4, l2_4) = some q_4 → W p l e rm_X4_firstFault s m args below meth c s.heap [] 0 0 Z (F0 m 4 ls []) := by
    intro n
    induction n with
    | zero => intro l1_4 l2_4 ls hl hq; exact (loopN_zero hq).elim
    | succ n ih_4 =>
      intro l1_4 l2_4 ls hl hq
      obtain ⟨o_4, hf, ho1_4, ho2_4⟩ := loopN_step hq
      have hf : f_X4_firstFault_b4 c_count c_signs l1_4 l2_4 = some o_4 := hf
      unfold f_X4_firstFault_b4 at hf
      refine lv_iload_n hx hb dX4_firstFault_4 rfl (lv_at hl 2 rfl) ?_
      refine lv_aload_n hx hb dX4_firstFault_5 rfl (lv_at hl 0 rfl) ?_
      refine va_get (D := (dC, dI)) (ci := 4) (v := .int c_count) (C := RX4) (T := TX4) (N := 2) hx hb hts in_X4_firstFault_X4 hown hK hP 0 rfl rfl 1 (by decide) (hts _ m_X4_firstFault_f15) (fun _ h9 => h9) rfl dX4_firstFault_6 ?_
      refine lv_icmp_ge (tgt := 38) hx hb dX4_firstFault_9 (by decide) (fun k_9 => ?_) (fun k_9 => ?_)
      · have hf := ite_t hf k_9
        exact K_4 l1_4 l2_4 (ho2_4 _ (Option.some.inj hf).symm).symm ls (lv_sub hl [0, 1] rfl)
      · have hf := ite_f hf k_9
        refine lv_iload_n hx hb dX4_firstFault_12 rfl (lv_at hl 1 rfl) ?_
        refine lv_aload_n hx hb dX4_firstFault_13 rfl (lv_at hl 0 rfl) ?_
        refine va_get (D := (dC, dI)) (ci := 4) (v := .ref h_this_signs) (C := RX4) (T := TX4) (N := 2) hx hb hts in_X4_firstFault_X4 hown hK hP 0 rfl rfl 0 (by decide) (hts _ m_X4_firstFault_f9) (fun _ h9 => h9) rfl dX4_firstFault_14 ?_
        refine lv_iload_n hx hb dX4_firstFault_17 rfl (lv_at hl 2 rfl) ?_
        obtain ⟨r_18, hv_18, hf⟩ := bd1_some hf
        refine kSi (rSN (host := "WovenRows") [.ref h_this_signs, .int l2_4] [.int l1_4] S (c_X10_at l dC dI cI cJ cZ h_this_signs s.heap.size 60 c_signs l2_4 r_18 hv_18) ⟨va_cnB 2 hts gX4_firstFault_X10_at_n23 rfl rfl rfl (hN.m 10 rfl) (hts _ m_X4_firstFault_iX10) (by decide +kernel) ⟨Nat.le_of_ble_eq_true rfl, Nat.le_of_ble_eq_true rfl⟩, hts _ m_X4_firstFault_st_X10_at, trivial⟩ hP hD hK hN [1] rfl (by decide +kernel) rfl hl.1 rfl (Nat.le_of_ble_eq_true rfl) dX4_firstFault_18 ⟨Nat.le_of_ble_eq_true rfl, Nat.le_of_ble_eq_true rfl⟩) ?_
        obtain ⟨r_21, hv_21, hf⟩ := bd1_some hf
        refine kSi (rS [.int l1_4, .int r_18] [] S (c_X4_wantsAfter l dC dI cI cJ cZ s.heap.size l1_4 r_18 r_21 hv_21) (va_cwS 2 hts gX4_firstFault_X4_wantsAfter rfl rfl rfl (by decide +kernel) ⟨Nat.le_of_ble_eq_true rfl, Nat.le_of_ble_eq_true rfl⟩) hP hD hK hN [] rfl (by decide +kernel) rfl hl.1 rfl (Nat.le_of_ble_eq_true rfl) dX4_firstFault_21 ⟨Nat.le_of_ble_eq_true rfl, Nat.le_of_ble_eq_true rfl⟩) ?_
        refine lv_istore_n (lv' := [(1, .int r_21), (0, .ref h_this), (2, .int l2_4)]) hx hb dX4_firstFault_24 rfl hl (by decide) rfl (fun ls hl => ?_)
        refine lv_iload_n hx hb dX4_firstFault_25 rfl (lv_at hl 0 rfl) ?_
        refine lv_iconst (v := 3) hx hb dX4_firstFault_26 (by decide) ?_
        refine lv_icmp_ne (tgt := 32) hx hb dX4_firstFault_27 (by decide) (fun k_27 => ?_) (fun k_27 => ?_)
        · have hf := ite_f hf k_27
          refine lv_iinc (v := (l2_4 + 1)) (lv' := [(2, .int (l2_4 + 1)), (1, .int r_21), (0, .ref h_this)]) hx hb dX4_firstFault_32 hl (k := 2) rfl rfl (by decide) rfl (fun ls hl => ?_)
          refine lv_goto (tgt := 4) hx hb dX4_firstFault_35 (by decide) ?_
          exact ih_4 r_21 (l2_4 + 1) ls (lv_sub hl [2, 1, 0] rfl) (ho1_4 _ (Option.some.inj hf).symm)
        · have hf := ite_t hf k_27
          refine lv_iload_n hx hb dX4_firstFault_30 rfl (lv_at hl 2 rfl) ?_
          have e_f := (hqb_4 _ (ho2_4 _ (Option.some.inj hf).symm).symm)
          cases e_f
          exact hret rfl dX4_firstFault_31
  exact L_4 FU 0 0 ls (lv_sub hl [2, 1, 0] rfl) hq_4
abbrev w_X4_kindEndingAt (cI cJ cZ : ClassId) (h_this h_this_signs : Nat) (c_count : Int32) (c_signs : Nat → Int32) : va_W := [(h_this, .inr (4, [.ref h_this_signs, .int c_count])), (h_this_signs, .inl (cI, 60, .inl c_signs))]
abbrev rm_X4_kindEndingAt : Room := { frames := 1, cells := 0, slots := 0, locals := 21 }
theorem m_X4_kindEndingAt_f9 : (.fieldLink RX4 9 "WovenRows$Pad" "signs" "[I" : Cond) ∈ wsX4_kindEndingAt := by decide +kernel
theorem in_X4_kindEndingAt_X4 : ∀ w ∈ u_ws RX4 TX4 2, w ∈ wsX4_kindEndingAt := by decide +kernel
theorem m_X4_kindEndingAt_iX10 : (.initialized RX10 : Cond) ∈ wsX4_kindEndingAt := by decide +kernel
theorem m_X4_kindEndingAt_st_X10_at : (.static yX10_at : Cond) ∈ wsX4_kindEndingAt := by decide +kernel
set_option maxRecDepth 100000 in
set_option maxHeartbeats 4000000 in
theorem c_X4_kindEndingAt (l : Launch) (dC : Nat → ClassId) (dI : Nat → Nat → Nat) (cI cJ cZ : ClassId) (h_this h_this_signs : Nat) (sz : Nat) (c_count : Int32) (c_signs : Nat → Int32) (l1 : Int32) (r : Int32) (hf : f_X4_kindEndingAt c_signs l1 = some r) : Met l yX4_kindEndingAt wsX4_kindEndingAt rm_X4_kindEndingAt (va_Pc [.ref h_this, .int l1] (PRE (dC, dI) (TY cI cJ cZ) sz (w_X4_kindEndingAt cI cJ cZ h_this h_this_signs c_count c_signs))) (vp_Si (fun r' => r' = r)) 0 0 (fun _ => False) := by
  refine ofSi (ty := .int) (by decide +kernel) rfl (Nat.le_of_ble_eq_true rfl) ?_
  intro p e s m args below meth c Z ls S hP hD hK hN hl hret
  obtain ⟨hx, hb, hml, hown, hts⟩ := id S
  have hown : s.vm.findClass RX4 = some m.cls := hown
  have hl : lv_has ls 3 [(0, .ref h_this), (1, .int l1)] := hl
  unfold f_X4_kindEndingAt at hf
  refine lv_aload_n hx hb dX4_kindEndingAt_0 rfl (lv_at hl 0 rfl) ?_
  refine va_get (D := (dC, dI)) (ci := 4) (v := .ref h_this_signs) (C := RX4) (T := TX4) (N := 2) hx hb hts in_X4_kindEndingAt_X4 hown hK hP 0 rfl rfl 0 (by decide) (hts _ m_X4_kindEndingAt_f9) (fun _ h9 => h9) rfl dX4_kindEndingAt_1 ?_
  refine lv_iload_n hx hb dX4_kindEndingAt_4 rfl (lv_at hl 1 rfl) ?_
  obtain ⟨r_5, hv_5, hf⟩ := bd1_some hf
  refine kSi (rSN (host := "WovenRows") [.ref h_this_signs, .int l1] [] S (c_X10_at l dC dI cI cJ cZ h_this_signs s.heap.size 60 c_signs l1 r_5 hv_5) ⟨va_cnB 2 hts gX4_kindEndingAt_X10_at_n23 rfl rfl rfl (hN.m 10 rfl) (hts _ m_X4_kindEndingAt_iX10) (by decide +kernel) ⟨Nat.le_of_ble_eq_true rfl, Nat.le_of_ble_eq_true rfl⟩, hts _ m_X4_kindEndingAt_st_X10_at, trivial⟩ hP hD hK hN [1] rfl (by decide +kernel) rfl hl.1 rfl (Nat.le_of_ble_eq_true rfl) dX4_kindEndingAt_5 ⟨Nat.le_of_ble_eq_true rfl, Nat.le_of_ble_eq_true rfl⟩) ?_
  refine lv_istore_n (lv' := [(2, .int r_5), (0, .ref h_this), (1, .int l1)]) hx hb dX4_kindEndingAt_8 rfl hl (by decide) rfl (fun ls hl => ?_)
  refine lv_iload_n hx hb dX4_kindEndingAt_9 rfl (lv_at hl 0 rfl) ?_
  obtain ⟨r_10, hv_10, hf⟩ := bd1_some hf
  refine kSi (rS [.int r_5] [] S (c_X4_isLetter l dC dI cI cJ cZ s.heap.size r_5 r_10 hv_10) (va_cwS 1 hts gX4_kindEndingAt_X4_isLetter rfl rfl rfl (by decide +kernel) ⟨Nat.le_of_ble_eq_true rfl, Nat.le_of_ble_eq_true rfl⟩) hP hD hK hN [] rfl (by decide +kernel) rfl hl.1 rfl (Nat.le_of_ble_eq_true rfl) dX4_kindEndingAt_10 ⟨Nat.le_of_ble_eq_true rfl, Nat.le_of_ble_eq_true rfl⟩) ?_
  refine lv_if_eq (tgt := 38) hx hb dX4_kindEndingAt_13 (by decide) (fun k_13 => ?_) (fun k_13 => ?_)
  · have hf := ite_t hf k_13
    refine lv_iload_n hx hb dX4_kindEndingAt_38 rfl (lv_at hl 0 rfl) ?_
    refine lv_bipush (v := 120) hx hb dX4_kindEndingAt_39 (by decide) ?_
    refine lv_icmp_ne (tgt := 48) hx hb dX4_kindEndingAt_41 (by decide) (fun k_41 => ?_) (fun k_41 => ?_)
    · have hf := ite_f hf k_41
      refine lv_iload_n hx hb dX4_kindEndingAt_48 rfl (lv_at hl 0 rfl) ?_
      have e_f := Option.some.inj hf
      cases e_f
      exact hret rfl dX4_kindEndingAt_49
    · have hf := ite_t hf k_41
      refine lv_iconst (v := 0) hx hb dX4_kindEndingAt_44 (by decide) ?_
      refine lv_goto (tgt := 49) hx hb dX4_kindEndingAt_45 (by decide) ?_
      have e_f := Option.some.inj hf
      cases e_f
      exact hret rfl dX4_kindEndingAt_49
  · have hf := ite_f hf k_13
    refine lv_aload_n hx hb dX4_kindEndingAt_16 rfl (lv_at hl 1 rfl) ?_
    refine va_get (D := (dC, dI)) (ci := 4) (v := .ref h_this_signs) (C := RX4) (T := TX4) (N := 2) hx hb hts in_X4_kindEndingAt_X4 hown hK hP 0 rfl rfl 0 (by decide) (hts _ m_X4_kindEndingAt_f9) (fun _ h9 => h9) rfl dX4_kindEndingAt_17 ?_
    refine lv_iload_n hx hb dX4_kindEndingAt_20 rfl (lv_at hl 2 rfl) ?_
    refine lv_iconst (v := 1) hx hb dX4_kindEndingAt_21 (by decide) ?_
    refine lv_isub hx hb dX4_kindEndingAt_22 ?_
    obtain ⟨r_23, hv_23, hf⟩ := bd1_some hf
    refine kSi (rSN (host := "WovenRows") [.ref h_this_signs, .int (l1 - 1)] [] S (c_X10_at l dC dI cI cJ cZ h_this_signs s.heap.size 60 c_signs (l1 - 1) r_23 hv_23) ⟨va_cnB 2 hts gX4_kindEndingAt_X10_at_n23 rfl rfl rfl (hN.m 10 rfl) (hts _ m_X4_kindEndingAt_iX10) (by decide +kernel) ⟨Nat.le_of_ble_eq_true rfl, Nat.le_of_ble_eq_true rfl⟩, hts _ m_X4_kindEndingAt_st_X10_at, trivial⟩ hP hD hK hN [1] rfl (by decide +kernel) rfl hl.1 rfl (Nat.le_of_ble_eq_true rfl) dX4_kindEndingAt_23 ⟨Nat.le_of_ble_eq_true rfl, Nat.le_of_ble_eq_true rfl⟩) ?_
    refine lv_bipush (v := 120) hx hb dX4_kindEndingAt_26 (by decide) ?_
    refine lv_icmp_ne (tgt := 36) hx hb dX4_kindEndingAt_28 (by decide) (fun k_28 => ?_) (fun k_28 => ?_)
    · have hf := ite_f hf k_28
      refine lv_iconst (v := 0) hx hb dX4_kindEndingAt_36 (by decide) ?_
      have e_f := Option.some.inj hf
      cases e_f
      exact hret rfl dX4_kindEndingAt_37
    · have hf := ite_t hf k_28
      refine lv_bipush (v := 120) hx hb dX4_kindEndingAt_31 (by decide) ?_
      refine lv_goto (tgt := 37) hx hb dX4_kindEndingAt_33 (by decide) ?_
      have e_f := Option.some.inj hf
      cases e_f
      exact hret rfl dX4_kindEndingAt_37
abbrev w_X4_memberAt (cI cJ cZ : ClassId) (h_this h_this_signs : Nat) (c_count : Int32) (c_signs : Nat → Int32) : va_W := [(h_this, .inr (4, [.ref h_this_signs, .int c_count])), (h_this_signs, .inl (cI, 60, .inl c_signs))]
abbrev rm_X4_memberAt : Room := { frames := 1, cells := 0, slots := 0, locals := 21 }
theorem m_X4_memberAt_f9 : (.fieldLink RX4 9 "WovenRows$Pad" "signs" "[I" : Cond) ∈ wsX4_memberAt := by decide +kernel
theorem in_X4_memberAt_X4 : ∀ w ∈ u_ws RX4 TX4 2, w ∈ wsX4_memberAt := by decide +kernel
theorem m_X4_memberAt_iX10 : (.initialized RX10 : Cond) ∈ wsX4_memberAt := by decide +kernel
theorem m_X4_memberAt_st_X10_at : (.static yX10_at : Cond) ∈ wsX4_memberAt := by decide +kernel
set_option maxRecDepth 100000 in
set_option maxHeartbeats 4000000 in
theorem c_X4_memberAt (l : Launch) (dC : Nat → ClassId) (dI : Nat → Nat → Nat) (cI cJ cZ : ClassId) (h_this h_this_signs : Nat) (sz : Nat) (c_count : Int32) (c_signs : Nat → Int32) (l1 : Int32) (r : Int32) (hf : f_X4_memberAt c_signs l1 = some r) : Met l yX4_memberAt wsX4_memberAt rm_X4_memberAt (va_Pc [.ref h_this, .int l1] (PRE (dC, dI) (TY cI cJ cZ) sz (w_X4_memberAt cI cJ cZ h_this h_this_signs c_count c_signs))) (vp_Si (fun r' => r' = r)) 0 0 (fun _ => False) := by
  refine ofSi (ty := .int) (by decide +kernel) rfl (Nat.le_of_ble_eq_true rfl) ?_
  intro p e s m args below meth c Z ls S hP hD hK hN hl hret
  obtain ⟨hx, hb, hml, hown, hts⟩ := id S
  have hown : s.vm.findClass RX4 = some m.cls := hown
  have hl : lv_has ls 2 [(0, .ref h_this), (1, .int l1)] := hl
  unfold f_X4_memberAt at hf
  refine lv_aload_n hx hb dX4_memberAt_0 rfl (lv_at hl 0 rfl) ?_
  refine va_get (D := (dC, dI)) (ci := 4) (v := .ref h_this_signs) (C := RX4) (T := TX4) (N := 2) hx hb hts in_X4_memberAt_X4 hown hK hP 0 rfl rfl 0 (by decide) (hts _ m_X4_memberAt_f9) (fun _ h9 => h9) rfl dX4_memberAt_1 ?_
  refine lv_iload_n hx hb dX4_memberAt_4 rfl (lv_at hl 1 rfl) ?_
  obtain ⟨r_5, hv_5, hf⟩ := bd1_some hf
  refine kSi (rSN (host := "WovenRows") [.ref h_this_signs, .int l1] [] S (c_X10_at l dC dI cI cJ cZ h_this_signs s.heap.size 60 c_signs l1 r_5 hv_5) ⟨va_cnB 2 hts gX4_memberAt_X10_at_n23 rfl rfl rfl (hN.m 10 rfl) (hts _ m_X4_memberAt_iX10) (by decide +kernel) ⟨Nat.le_of_ble_eq_true rfl, Nat.le_of_ble_eq_true rfl⟩, hts _ m_X4_memberAt_st_X10_at, trivial⟩ hP hD hK hN [1] rfl (by decide +kernel) rfl hl.1 rfl (Nat.le_of_ble_eq_true rfl) dX4_memberAt_5 ⟨Nat.le_of_ble_eq_true rfl, Nat.le_of_ble_eq_true rfl⟩) ?_
  refine lv_bipush (v := 65) hx hb dX4_memberAt_8 (by decide) ?_
  refine lv_isub hx hb dX4_memberAt_10 ?_
  have e_f := Option.some.inj hf
  cases e_f
  exact hret rfl dX4_memberAt_11
abbrev w_X7_takeFrom (cI cJ cZ : ClassId) (h_this h_this_rowOf h_this_placeOf h_a1 h_a1_rowOf h_a1_placeOf : Nat) (c_rung : Int32) (c_rowOf : Nat → Int32) (c_placeOf : Nat → Int32) (c_a1_rung : Int32) (c_a1_rowOf : Nat → Int32) (c_a1_placeOf : Nat → Int32) : va_W := [(h_this, .inr (7, [.ref h_this_rowOf, .ref h_this_placeOf, .int c_rung])), (h_this_rowOf, .inl (cI, 10, .inl c_rowOf)), (h_this_placeOf, .inl (cI, 10, .inl c_placeOf)), (h_a1, .inr (7, [.ref h_a1_rowOf, .ref h_a1_placeOf, .int c_a1_rung])), (h_a1_rowOf, .inl (cI, 10, .inl c_a1_rowOf)), (h_a1_placeOf, .inl (cI, 10, .inl c_a1_placeOf))]
abbrev rm_X7_takeFrom : Room := { frames := 1, cells := 0, slots := 0, locals := 22 }
theorem m_X7_takeFrom_f9 : (.fieldLink RX7 9 "WovenRows$Rows" "rowOf" "[I" : Cond) ∈ wsX7_takeFrom := by decide +kernel
theorem in_X7_takeFrom_X7 : ∀ w ∈ u_ws RX7 TX7 3, w ∈ wsX7_takeFrom := by decide +kernel
theorem m_X7_takeFrom_f15 : (.fieldLink RX7 15 "WovenRows$Rows" "placeOf" "[I" : Cond) ∈ wsX7_takeFrom := by decide +kernel
theorem m_X7_takeFrom_f18 : (.fieldLink RX7 18 "WovenRows$Rows" "rung" "I" : Cond) ∈ wsX7_takeFrom := by decide +kernel
theorem m_X7_takeFrom_iX10 : (.initialized RX10 : Cond) ∈ wsX7_takeFrom := by decide +kernel
theorem m_X7_takeFrom_st_X10_copy : (.static yX10_copy : Cond) ∈ wsX7_takeFrom := by decide +kernel
set_option maxRecDepth 100000 in
set_option maxHeartbeats 4000000 in
theorem c_X7_takeFrom (l : Launch) (dC : Nat → ClassId) (dI : Nat → Nat → Nat) (cI cJ cZ : ClassId) (h_this h_this_rowOf h_this_placeOf h_a1 h_a1_rowOf h_a1_placeOf : Nat) (sz : Nat) (c_rung : Int32) (c_rowOf : Nat → Int32) (c_placeOf : Nat → Int32) (c_a1_rung : Int32) (c_a1_rowOf : Nat → Int32) (c_a1_placeOf : Nat → Int32) (z_rung : Int32) (z_rowOf : Nat → Int32) (z_placeOf : Nat → Int32) (hf : f_X7_takeFrom c_rowOf c_placeOf c_a1_rung c_a1_rowOf c_a1_placeOf = some (z_rung, z_rowOf, z_placeOf)) : Met l yX7_takeFrom wsX7_takeFrom rm_X7_takeFrom (va_Pc [.ref h_this, .ref h_a1] (PRE (dC, dI) (TY cI cJ cZ) sz (w_X7_takeFrom cI cJ cZ h_this h_this_rowOf h_this_placeOf h_a1 h_a1_rowOf h_a1_placeOf c_rung c_rowOf c_placeOf c_a1_rung c_a1_rowOf c_a1_placeOf))) (va_Qv (fun _ : Unit => True) (POW (dC, dI) (va_A (w_X7_takeFrom cI cJ cZ h_this h_this_rowOf h_this_placeOf h_a1 h_a1_rowOf h_a1_placeOf c_rung c_rowOf c_placeOf c_a1_rung c_a1_rowOf c_a1_placeOf) sz) (w_X7_takeFrom cI cJ cZ h_this h_this_rowOf h_this_placeOf h_a1 h_a1_rowOf h_a1_placeOf z_rung z_rowOf z_placeOf c_a1_rung c_a1_rowOf c_a1_placeOf)) (va_A (w_X7_takeFrom cI cJ cZ h_this h_this_rowOf h_this_placeOf h_a1 h_a1_rowOf h_a1_placeOf c_rung c_rowOf c_placeOf c_a1_rung c_a1_rowOf c_a1_placeOf) sz)) 0 0 (va_A (w_X7_takeFrom cI cJ cZ h_this h_this_rowOf h_this_placeOf h_a1 h_a1_rowOf h_a1_placeOf c_rung c_rowOf c_placeOf c_a1_rung c_a1_rowOf c_a1_placeOf) sz) := by
  refine ofWv (by decide +kernel) rfl (Nat.le_of_ble_eq_true rfl) ?_
  intro p e s m args below meth c Z A ls S hP hD hK hN hA hl hret
  obtain ⟨hx, hb, hml, hown, hts⟩ := id S
  have hown : s.vm.findClass RX7 = some m.cls := hown
  have hS : va_S A s.heap s.heap [] := va_S.rf
  have hl : lv_has ls 2 [(0, .ref h_this), (1, .ref h_a1)] := hl
  unfold f_X7_takeFrom at hf
  refine lv_aload_n hx hb dX7_takeFrom_0 rfl (lv_at hl 1 rfl) ?_
  refine lv_ifnonnull (tgt := 5) hx hb dX7_takeFrom_1 (by decide) ?_
  refine lv_aload_n hx hb dX7_takeFrom_5 rfl (lv_at hl 1 rfl) ?_
  refine va_get (D := (dC, dI)) (ci := 7) (v := .ref h_a1_rowOf) (C := RX7) (T := TX7) (N := 3) hx hb hts in_X7_takeFrom_X7 hown hK hP 3 rfl rfl 0 (by decide) (hts _ m_X7_takeFrom_f9) (fun _ h9 => h9) rfl dX7_takeFrom_6 ?_
  refine lv_aload_n hx hb dX7_takeFrom_9 rfl (lv_at hl 0 rfl) ?_
  refine va_get (D := (dC, dI)) (ci := 7) (v := .ref h_this_rowOf) (C := RX7) (T := TX7) (N := 3) hx hb hts in_X7_takeFrom_X7 hown hK hP 0 rfl rfl 0 (by decide) (hts _ m_X7_takeFrom_f9) (fun _ h9 => h9) rfl dX7_takeFrom_10 ?_
  obtain ⟨c_rowOf_13, hv_13, hf⟩ := bd1_some hf
  refine kWv (rSN (host := "WovenRows") [.ref h_a1_rowOf, .ref h_this_rowOf] [] S (c_X10_copy l dC dI cI cJ cZ h_a1_rowOf h_this_rowOf s.heap.size 10 10 c_a1_rowOf c_rowOf c_rowOf_13 hv_13) ⟨va_cnB 2 hts gX7_takeFrom_X10_copy_n26 rfl rfl rfl (hN.m 12 rfl) (hts _ m_X7_takeFrom_iX10) (by decide +kernel) ⟨Nat.le_of_ble_eq_true rfl, Nat.le_of_ble_eq_true rfl⟩, hts _ m_X7_takeFrom_st_X10_copy, trivial⟩ hP hD hK hN [4, 1] rfl (by decide +kernel) rfl hl.1 rfl (Nat.le_of_ble_eq_true rfl) dX7_takeFrom_13 ⟨Nat.le_of_ble_eq_true rfl, Nat.le_of_ble_eq_true rfl⟩) hP hD hS hA [4, 1] rfl rfl [none, some 1, none, none, some 0, none] (by decide +kernel) rfl (fun H locs hP hD hS => ?_)
  have hP : va_P (dC, dI) vwCl (w_X7_takeFrom cI cJ cZ h_this h_this_rowOf h_this_placeOf h_a1 h_a1_rowOf h_a1_placeOf c_rung c_rowOf_13 c_placeOf c_a1_rung c_a1_rowOf c_a1_placeOf) H := hP
  have hD : va_D A (w_X7_takeFrom cI cJ cZ h_this h_this_rowOf h_this_placeOf h_a1 h_a1_rowOf h_a1_placeOf c_rung c_rowOf_13 c_placeOf c_a1_rung c_a1_rowOf c_a1_placeOf) := hD
  refine lv_aload_n hx hb dX7_takeFrom_16 rfl (lv_at hl 1 rfl) ?_
  refine va_get (D := (dC, dI)) (ci := 7) (v := .ref h_a1_placeOf) (C := RX7) (T := TX7) (N := 3) hx hb hts in_X7_takeFrom_X7 hown hK hP 3 rfl rfl 1 (by decide) (hts _ m_X7_takeFrom_f15) (fun _ h9 => h9) rfl dX7_takeFrom_17 ?_
  refine lv_aload_n hx hb dX7_takeFrom_20 rfl (lv_at hl 0 rfl) ?_
  refine va_get (D := (dC, dI)) (ci := 7) (v := .ref h_this_placeOf) (C := RX7) (T := TX7) (N := 3) hx hb hts in_X7_takeFrom_X7 hown hK hP 0 rfl rfl 1 (by decide) (hts _ m_X7_takeFrom_f15) (fun _ h9 => h9) rfl dX7_takeFrom_21 ?_
  obtain ⟨c_placeOf_24, hv_24, hf⟩ := bd1_some hf
  refine kWv (rSN (host := "WovenRows") [.ref h_a1_placeOf, .ref h_this_placeOf] [] S (c_X10_copy l dC dI cI cJ cZ h_a1_placeOf h_this_placeOf H.size 10 10 c_a1_placeOf c_placeOf c_placeOf_24 hv_24) ⟨va_cnB 2 hts gX7_takeFrom_X10_copy_n26 rfl rfl rfl (hN.m 12 rfl) (hts _ m_X7_takeFrom_iX10) (by decide +kernel) ⟨Nat.le_of_ble_eq_true rfl, Nat.le_of_ble_eq_true rfl⟩, hts _ m_X7_takeFrom_st_X10_copy, trivial⟩ hP hD hK hN [5, 2] rfl (by decide +kernel) rfl hl.1 rfl (Nat.le_of_ble_eq_true rfl) dX7_takeFrom_24 ⟨Nat.le_of_ble_eq_true rfl, Nat.le_of_ble_eq_true rfl⟩) hP hD hS hA [5, 2] rfl rfl [none, none, some 1, none, none, some 0] (by decide +kernel) rfl (fun H locs hP hD hS => ?_)
  have hP : va_P (dC, dI) vwCl (w_X7_takeFrom cI cJ cZ h_this h_this_rowOf h_this_placeOf h_a1 h_a1_rowOf h_a1_placeOf c_rung c_rowOf_13 c_placeOf_24 c_a1_rung c_a1_rowOf c_a1_placeOf) H := hP
  have hD : va_D A (w_X7_takeFrom cI cJ cZ h_this h_this_rowOf h_this_placeOf h_a1 h_a1_rowOf h_a1_placeOf c_rung c_rowOf_13 c_placeOf_24 c_a1_rung c_a1_rowOf c_a1_placeOf) := hD
  refine lv_aload_n hx hb dX7_takeFrom_27 rfl (lv_at hl 0 rfl) ?_
  refine lv_aload_n hx hb dX7_takeFrom_28 rfl (lv_at hl 1 rfl) ?_
  refine va_get (D := (dC, dI)) (ci := 7) (v := .int c_a1_rung) (C := RX7) (T := TX7) (N := 3) hx hb hts in_X7_takeFrom_X7 hown hK hP 3 rfl rfl 2 (by decide) (hts _ m_X7_takeFrom_f18) (fun _ h9 => h9) rfl dX7_takeFrom_29 ?_
  refine va_put (D := (dC, dI)) (ci := 7) (v := .int c_a1_rung) (ty := .int) (C := RX7) (T := TX7) (N := 3) hx hb hts in_X7_takeFrom_X7 tyX7 tyX7_ok nmX7 hown hK hP hD hS 0 rfl rfl 2 (by decide) (hts _ m_X7_takeFrom_f18) (fun _ h9 => h9) rfl (by decide +kernel) rfl rfl (Nat.le_of_ble_eq_true rfl) dX7_takeFrom_32 (fun H locs hP hD hS => ?_)
  have hP : va_P (dC, dI) vwCl (w_X7_takeFrom cI cJ cZ h_this h_this_rowOf h_this_placeOf h_a1 h_a1_rowOf h_a1_placeOf c_a1_rung c_rowOf_13 c_placeOf_24 c_a1_rung c_a1_rowOf c_a1_placeOf) H := hP
  have hD : va_D A (w_X7_takeFrom cI cJ cZ h_this h_this_rowOf h_this_placeOf h_a1 h_a1_rowOf h_a1_placeOf c_a1_rung c_rowOf_13 c_placeOf_24 c_a1_rung c_a1_rowOf c_a1_placeOf) := hD
  have e_f := Option.some.inj hf
  cases e_f
  exact hret hP hD hS dX7_takeFrom_35
abbrev w_X7_lengthOf (cI cJ cZ : ClassId) (h_this h_this_rowOf g_this_placeOf : Nat) (c_rung : Int32) (c_rowOf : Nat → Int32) : va_W := [(h_this, .inr (7, [.ref h_this_rowOf, .ref g_this_placeOf, .int c_rung])), (h_this_rowOf, .inl (cI, 10, .inl c_rowOf))]
abbrev rm_X7_lengthOf : Room := { frames := 0, cells := 0, slots := 0, locals := 0 }
theorem m_X7_lengthOf_f9 : (.fieldLink RX7 9 "WovenRows$Rows" "rowOf" "[I" : Cond) ∈ wsX7_lengthOf := by decide +kernel
theorem in_X7_lengthOf_X7 : ∀ w ∈ u_ws RX7 TX7 3, w ∈ wsX7_lengthOf := by decide +kernel
set_option maxRecDepth 100000 in
set_option maxHeartbeats 4000000 in
theorem c_X7_lengthOf (l : Launch) (dC : Nat → ClassId) (dI : Nat → Nat → Nat) (cI cJ cZ : ClassId) (h_this h_this_rowOf g_this_placeOf : Nat) (sz : Nat) (c_rung : Int32) (c_rowOf : Nat → Int32) (l1 : Int32) (r : Int32) (hf : f_X7_lengthOf c_rowOf l1 = some r) : Met l yX7_lengthOf wsX7_lengthOf rm_X7_lengthOf (va_Pc [.ref h_this, .int l1] (PRE (dC, dI) (TY cI cJ cZ) sz (w_X7_lengthOf cI cJ cZ h_this h_this_rowOf g_this_placeOf c_rung c_rowOf))) (vp_Si (fun r' => r' = r)) 0 0 (fun _ => False) := by
  refine ofSi (ty := .int) (by decide +kernel) rfl (Nat.le_of_ble_eq_true rfl) ?_
  intro p e s m args below meth c Z ls S hP hD hK hN hl hret
  obtain ⟨hx, hb, hml, hown, hts⟩ := id S
  have hown : s.vm.findClass RX7 = some m.cls := hown
  have hl : lv_has ls 4 [(0, .ref h_this), (1, .int l1)] := hl
  unfold f_X7_lengthOf at hf
  refine lv_iconst (v := 0) hx hb dX7_lengthOf_0 (by decide) ?_
  refine lv_istore_n (lv' := [(2, .int 0), (0, .ref h_this), (1, .int l1)]) hx hb dX7_lengthOf_1 rfl hl (by decide) rfl (fun ls hl => ?_)
  refine lv_iconst (v := 0) hx hb dX7_lengthOf_2 (by decide) ?_
  refine lv_istore_n (lv' := [(3, .int 0), (2, .int 0), (0, .ref h_this), (1, .int l1)]) hx hb dX7_lengthOf_3 rfl hl (by decide) rfl (fun ls hl => ?_)
  obtain ⟨l2_4x, l3_4x, hq_4, hf⟩ := bd2_some hf
  have K_4 : ∀ (ls : Array Slot), lv_has ls 4 [(2, .int l2_4x)] → W p l e rm_X7_lengthOf s m args below meth c s.heap [] 0 0 Z (F0 m 32 ls []) := by
    intro ls hl
    refine lv_iload_n hx hb dX7_lengthOf_32 rfl (lv_at hl 0 rfl) ?_
    have e_f := Option.some.inj hf
    cases e_f
    exact hret rfl dX7_lengthOf_33
  have L_4 : ∀ (n : Nat) (l2_4 : Int32) (l3_4 : Int32) (ls : Array Slot), lv_has ls 4 [(0, .ref h_this), (1, .int l1), (2, .int l2_4), (3, .int l3_4)] → loopN (fun (q : Int32 × Int32) => f_X7_lengthOf_b4 c_rowOf l1 q.1 q.2) n (l2_4, l3_4) = some (l2_4x, l3_4x) → W p l e rm_X7_lengthOf s m args below meth c s.heap [] 0 0 Z (F0 m 4 ls []) := by
    intro n
    induction n with
    | zero => intro l2_4 l3_4 ls hl hq; exact (loopN_zero hq).elim
    | succ n ih_4 =>
      intro l2_4 l3_4 ls hl hq
      obtain ⟨o_4, hf, ho1_4, ho2_4⟩ := loopN_step hq
      have hf : f_X7_lengthOf_b4 c_rowOf l1 l2_4 l3_4 = some o_4 := hf
      unfold f_X7_lengthOf_b4 at hf
      refine lv_iload_n hx hb dX7_lengthOf_4 rfl (lv_at hl 3 rfl) ?_
      refine lv_aload_n hx hb dX7_lengthOf_5 rfl (lv_at hl 0 rfl) ?_
      refine va_get (D := (dC, dI)) (ci := 7) (v := .ref h_this_rowOf) (C := RX7) (T := TX7) (N := 3) hx hb hts in_X7_lengthOf_X7 hown hK hP 0 rfl rfl 0 (by decide) (hts _ m_X7_lengthOf_f9) (fun _ h9 => h9) rfl dX7_lengthOf_6 ?_
      refine va_alen (v := 10) hx hb hK hP 1 0 rfl rfl rfl dX7_lengthOf_9 ?_
      refine lv_icmp_ge (tgt := 32) hx hb dX7_lengthOf_10 (by decide) (fun k_10 => ?_) (fun k_10 => ?_)
      · have hf := ite_t hf k_10
        have e_4 := ho2_4 _ (Option.some.inj hf).symm
        cases e_4
        exact K_4 ls (lv_sub hl [2] rfl)
      · have hf := ite_f hf k_10
        refine lv_aload_n hx hb dX7_lengthOf_13 rfl (lv_at hl 0 rfl) ?_
        refine va_get (D := (dC, dI)) (ci := 7) (v := .ref h_this_rowOf) (C := RX7) (T := TX7) (N := 3) hx hb hts in_X7_lengthOf_X7 hown hK hP 0 rfl rfl 0 (by decide) (hts _ m_X7_lengthOf_f9) (fun _ h9 => h9) rfl dX7_lengthOf_14 ?_
        refine lv_iload_n hx hb dX7_lengthOf_17 rfl (lv_at hl 3 rfl) ?_
        obtain ⟨g_18, hf⟩ := gd_some hf
        refine va_iald hx hb hK hP 1 0 rfl rfl g_18 dX7_lengthOf_18 ?_
        refine lv_iload_n hx hb dX7_lengthOf_19 rfl (lv_at hl 1 rfl) ?_
        refine lv_icmp_ne (tgt := 26) hx hb dX7_lengthOf_20 (by decide) (fun k_20 => ?_) (fun k_20 => ?_)
        · have hf := ite_f hf k_20
          refine lv_iinc (v := (l3_4 + 1)) (lv' := [(3, .int (l3_4 + 1)), (0, .ref h_this), (1, .int l1), (2, .int l2_4)]) hx hb dX7_lengthOf_26 hl (k := 3) rfl rfl (by decide) rfl (fun ls hl => ?_)
          refine lv_goto (tgt := 4) hx hb dX7_lengthOf_29 (by decide) ?_
          exact ih_4 l2_4 (l3_4 + 1) ls (lv_sub hl [1, 2, 3, 0] rfl) (ho1_4 _ (Option.some.inj hf).symm)
        · have hf := ite_t hf k_20
          refine lv_iinc (v := (l2_4 + 1)) (lv' := [(2, .int (l2_4 + 1)), (0, .ref h_this), (1, .int l1), (3, .int l3_4)]) hx hb dX7_lengthOf_23 hl (k := 2) rfl rfl (by decide) rfl (fun ls hl => ?_)
          refine lv_iinc (v := (l3_4 + 1)) (lv' := [(3, .int (l3_4 + 1)), (2, .int (l2_4 + 1)), (0, .ref h_this), (1, .int l1)]) hx hb dX7_lengthOf_26 hl (k := 3) rfl rfl (by decide) rfl (fun ls hl => ?_)
          refine lv_goto (tgt := 4) hx hb dX7_lengthOf_29 (by decide) ?_
          exact ih_4 (l2_4 + 1) (l3_4 + 1) ls (lv_sub hl [2, 3, 1, 0] rfl) (ho1_4 _ (Option.some.inj hf).symm)
  exact L_4 FU 0 0 ls (lv_sub hl [2, 3, 1, 0] rfl) hq_4
abbrev w_X7_whoIsAt (cI cJ cZ : ClassId) (h_this h_this_rowOf h_this_placeOf : Nat) (c_rung : Int32) (c_rowOf : Nat → Int32) (c_placeOf : Nat → Int32) : va_W := [(h_this, .inr (7, [.ref h_this_rowOf, .ref h_this_placeOf, .int c_rung])), (h_this_rowOf, .inl (cI, 10, .inl c_rowOf)), (h_this_placeOf, .inl (cI, 10, .inl c_placeOf))]
abbrev rm_X7_whoIsAt : Room := { frames := 1, cells := 0, slots := 0, locals := 21 }
theorem m_X7_whoIsAt_f9 : (.fieldLink RX7 9 "WovenRows$Rows" "rowOf" "[I" : Cond) ∈ wsX7_whoIsAt := by decide +kernel
theorem in_X7_whoIsAt_X7 : ∀ w ∈ u_ws RX7 TX7 3, w ∈ wsX7_whoIsAt := by decide +kernel
theorem m_X7_whoIsAt_f15 : (.fieldLink RX7 15 "WovenRows$Rows" "placeOf" "[I" : Cond) ∈ wsX7_whoIsAt := by decide +kernel
theorem m_X7_whoIsAt_iX10 : (.initialized RX10 : Cond) ∈ wsX7_whoIsAt := by decide +kernel
theorem m_X7_whoIsAt_st_X10_at : (.static yX10_at : Cond) ∈ wsX7_whoIsAt := by decide +kernel
set_option maxRecDepth 100000 in
set_option maxHeartbeats 4000000 in
theorem c_X7_whoIsAt (l : Launch) (dC : Nat → ClassId) (dI : Nat → Nat → Nat) (cI cJ cZ : ClassId) (h_this h_this_rowOf h_this_placeOf : Nat) (sz : Nat) (c_rung : Int32) (c_rowOf : Nat → Int32) (c_placeOf : Nat → Int32) (l1 : Int32) (l2 : Int32) (r : Int32) (hf : f_X7_whoIsAt c_rowOf c_placeOf l1 l2 = some r) : Met l yX7_whoIsAt wsX7_whoIsAt rm_X7_whoIsAt (va_Pc [.ref h_this, .int l1, .int l2] (PRE (dC, dI) (TY cI cJ cZ) sz (w_X7_whoIsAt cI cJ cZ h_this h_this_rowOf h_this_placeOf c_rung c_rowOf c_placeOf))) (vp_Si (fun r' => r' = r)) 0 0 (fun _ => False) := by
  refine ofSi (ty := .int) (by decide +kernel) rfl (Nat.le_of_ble_eq_true rfl) ?_
  intro p e s m args below meth c Z ls S hP hD hK hN hl hret
  obtain ⟨hx, hb, hml, hown, hts⟩ := id S
  have hown : s.vm.findClass RX7 = some m.cls := hown
  have hl : lv_has ls 4 [(0, .ref h_this), (1, .int l1), (2, .int l2)] := hl
  unfold f_X7_whoIsAt at hf
  refine lv_iconst (v := 0) hx hb dX7_whoIsAt_0 (by decide) ?_
  refine lv_istore_n (lv' := [(3, .int 0), (0, .ref h_this), (1, .int l1), (2, .int l2)]) hx hb dX7_whoIsAt_1 rfl hl (by decide) rfl (fun ls hl => ?_)
  obtain ⟨q_2, hq_2, hqa_2, hqb_2⟩ := bdr_some hf
  have K_2 : ∀ (l3_2x : Int32), q_2 = .inl l3_2x → ∀ (ls : Array Slot), lv_has ls 4 [] → W p l e rm_X7_whoIsAt s m args below meth c s.heap [] 0 0 Z (F0 m 40 ls []) := by
    intro l3_2x e_2 ls hl
    have hf := hqa_2 _ e_2
    try dsimp only at hf
    refine lv_bipush (v := (-6)) hx hb dX7_whoIsAt_40 (by decide) ?_
    have e_f := Option.some.inj hf
    cases e_f
    exact hret rfl dX7_whoIsAt_42
  have L_2 : ∀ (n : Nat) (l3_2 : Int32) (ls : Array Slot), lv_has ls 4 [(0, .ref h_this), (1, .int l1), (2, .int l2), (3, .int l3_2)] → loopN (fun (q : Int32) => f_X7_whoIsAt_b2 c_rowOf c_placeOf l1 l2 q) n l3_2 = some q_2 → W p l e rm_X7_whoIsAt s m args below meth c s.heap [] 0 0 Z (F0 m 2 ls []) := by
    intro n
    induction n with
    | zero => intro l3_2 ls hl hq; exact (loopN_zero hq).elim
    | succ n ih_2 =>
      intro l3_2 ls hl hq
      obtain ⟨o_2, hf, ho1_2, ho2_2⟩ := loopN_step hq
      have hf : f_X7_whoIsAt_b2 c_rowOf c_placeOf l1 l2 l3_2 = some o_2 := hf
      unfold f_X7_whoIsAt_b2 at hf
      refine lv_iload_n hx hb dX7_whoIsAt_2 rfl (lv_at hl 3 rfl) ?_
      refine lv_bipush (v := 10) hx hb dX7_whoIsAt_3 (by decide) ?_
      refine lv_icmp_ge (tgt := 40) hx hb dX7_whoIsAt_5 (by decide) (fun k_5 => ?_) (fun k_5 => ?_)
      · have hf := ite_t hf k_5
        exact K_2 l3_2 (ho2_2 _ (Option.some.inj hf).symm).symm ls (lv_sub hl [] rfl)
      · have hf := ite_f hf k_5
        refine lv_aload_n hx hb dX7_whoIsAt_8 rfl (lv_at hl 0 rfl) ?_
        refine va_get (D := (dC, dI)) (ci := 7) (v := .ref h_this_rowOf) (C := RX7) (T := TX7) (N := 3) hx hb hts in_X7_whoIsAt_X7 hown hK hP 0 rfl rfl 0 (by decide) (hts _ m_X7_whoIsAt_f9) (fun _ h9 => h9) rfl dX7_whoIsAt_9 ?_
        refine lv_iload_n hx hb dX7_whoIsAt_12 rfl (lv_at hl 3 rfl) ?_
        obtain ⟨r_13, hv_13, hf⟩ := bd1_some hf
        refine kSi (rSN (host := "WovenRows") [.ref h_this_rowOf, .int l3_2] [] S (c_X10_at l dC dI cI cJ cZ h_this_rowOf s.heap.size 10 c_rowOf l3_2 r_13 hv_13) ⟨va_cnB 2 hts gX7_whoIsAt_X10_at_n30 rfl rfl rfl (hN.m 14 rfl) (hts _ m_X7_whoIsAt_iX10) (by decide +kernel) ⟨Nat.le_of_ble_eq_true rfl, Nat.le_of_ble_eq_true rfl⟩, hts _ m_X7_whoIsAt_st_X10_at, trivial⟩ hP hD hK hN [1] rfl (by decide +kernel) rfl hl.1 rfl (Nat.le_of_ble_eq_true rfl) dX7_whoIsAt_13 ⟨Nat.le_of_ble_eq_true rfl, Nat.le_of_ble_eq_true rfl⟩) ?_
        refine lv_iload_n hx hb dX7_whoIsAt_16 rfl (lv_at hl 1 rfl) ?_
        refine lv_icmp_ne (tgt := 34) hx hb dX7_whoIsAt_17 (by decide) (fun k_17 => ?_) (fun k_17 => ?_)
        · have hf := ite_f hf k_17
          refine lv_iinc (v := (l3_2 + 1)) (lv' := [(3, .int (l3_2 + 1)), (0, .ref h_this), (1, .int l1), (2, .int l2)]) hx hb dX7_whoIsAt_34 hl (k := 3) rfl rfl (by decide) rfl (fun ls hl => ?_)
          refine lv_goto (tgt := 2) hx hb dX7_whoIsAt_37 (by decide) ?_
          exact ih_2 (l3_2 + 1) ls (lv_sub hl [1, 2, 3, 0] rfl) (ho1_2 _ (Option.some.inj hf).symm)
        · have hf := ite_t hf k_17
          refine lv_aload_n hx hb dX7_whoIsAt_20 rfl (lv_at hl 0 rfl) ?_
          refine va_get (D := (dC, dI)) (ci := 7) (v := .ref h_this_placeOf) (C := RX7) (T := TX7) (N := 3) hx hb hts in_X7_whoIsAt_X7 hown hK hP 0 rfl rfl 1 (by decide) (hts _ m_X7_whoIsAt_f15) (fun _ h9 => h9) rfl dX7_whoIsAt_21 ?_
          refine lv_iload_n hx hb dX7_whoIsAt_24 rfl (lv_at hl 3 rfl) ?_
          obtain ⟨r_25, hv_25, hf⟩ := bd1_some hf
          refine kSi (rSN (host := "WovenRows") [.ref h_this_placeOf, .int l3_2] [] S (c_X10_at l dC dI cI cJ cZ h_this_placeOf s.heap.size 10 c_placeOf l3_2 r_25 hv_25) ⟨va_cnB 2 hts gX7_whoIsAt_X10_at_n30 rfl rfl rfl (hN.m 14 rfl) (hts _ m_X7_whoIsAt_iX10) (by decide +kernel) ⟨Nat.le_of_ble_eq_true rfl, Nat.le_of_ble_eq_true rfl⟩, hts _ m_X7_whoIsAt_st_X10_at, trivial⟩ hP hD hK hN [2] rfl (by decide +kernel) rfl hl.1 rfl (Nat.le_of_ble_eq_true rfl) dX7_whoIsAt_25 ⟨Nat.le_of_ble_eq_true rfl, Nat.le_of_ble_eq_true rfl⟩) ?_
          refine lv_iload_n hx hb dX7_whoIsAt_28 rfl (lv_at hl 2 rfl) ?_
          refine lv_icmp_ne (tgt := 34) hx hb dX7_whoIsAt_29 (by decide) (fun k_29 => ?_) (fun k_29 => ?_)
          · have hf := ite_f hf k_29
            refine lv_iinc (v := (l3_2 + 1)) (lv' := [(3, .int (l3_2 + 1)), (0, .ref h_this), (1, .int l1), (2, .int l2)]) hx hb dX7_whoIsAt_34 hl (k := 3) rfl rfl (by decide) rfl (fun ls hl => ?_)
            refine lv_goto (tgt := 2) hx hb dX7_whoIsAt_37 (by decide) ?_
            exact ih_2 (l3_2 + 1) ls (lv_sub hl [1, 2, 3, 0] rfl) (ho1_2 _ (Option.some.inj hf).symm)
          · have hf := ite_t hf k_29
            refine lv_iload_n hx hb dX7_whoIsAt_32 rfl (lv_at hl 3 rfl) ?_
            have e_f := (hqb_2 _ (ho2_2 _ (Option.some.inj hf).symm).symm)
            cases e_f
            exact hret rfl dX7_whoIsAt_33
  exact L_2 FU 0 ls (lv_sub hl [1, 2, 3, 0] rfl) hq_2
abbrev w_X7_reasonAgainstJoining (cI cJ cZ : ClassId) (h_this h_this_rowOf g_this_placeOf : Nat) (c_rung : Int32) (c_rowOf : Nat → Int32) : va_W := [(h_this, .inr (7, [.ref h_this_rowOf, .ref g_this_placeOf, .int c_rung])), (h_this_rowOf, .inl (cI, 10, .inl c_rowOf))]
abbrev rm_X7_reasonAgainstJoining : Room := { frames := 1, cells := 0, slots := 0, locals := 23 }
theorem m_X7_reasonAgainstJoining_f9 : (.fieldLink RX7 9 "WovenRows$Rows" "rowOf" "[I" : Cond) ∈ wsX7_reasonAgainstJoining := by decide +kernel
theorem in_X7_reasonAgainstJoining_X7 : ∀ w ∈ u_ws RX7 TX7 3, w ∈ wsX7_reasonAgainstJoining := by decide +kernel
theorem m_X7_reasonAgainstJoining_iX10 : (.initialized RX10 : Cond) ∈ wsX7_reasonAgainstJoining := by decide +kernel
theorem m_X7_reasonAgainstJoining_st_X10_at : (.static yX10_at : Cond) ∈ wsX7_reasonAgainstJoining := by decide +kernel
set_option maxRecDepth 100000 in
set_option maxHeartbeats 4000000 in
theorem c_X7_reasonAgainstJoining (l : Launch) (dC : Nat → ClassId) (dI : Nat → Nat → Nat) (cI cJ cZ : ClassId) (h_this h_this_rowOf g_this_placeOf : Nat) (sz : Nat) (c_rung : Int32) (c_rowOf : Nat → Int32) (l1 : Int32) (l2 : Int32) (r : Int32) (hf : f_X7_reasonAgainstJoining c_rowOf l1 l2 = some r) : Met l yX7_reasonAgainstJoining wsX7_reasonAgainstJoining rm_X7_reasonAgainstJoining (va_Pc [.ref h_this, .int l1, .int l2] (PRE (dC, dI) (TY cI cJ cZ) sz (w_X7_reasonAgainstJoining cI cJ cZ h_this h_this_rowOf g_this_placeOf c_rung c_rowOf))) (vp_Si (fun r' => r' = r)) 0 0 (fun _ => False) := by
  refine ofSi (ty := .int) (by decide +kernel) rfl (Nat.le_of_ble_eq_true rfl) ?_
  intro p e s m args below meth c Z ls S hP hD hK hN hl hret
  obtain ⟨hx, hb, hml, hown, hts⟩ := id S
  have hown : s.vm.findClass RX7 = some m.cls := hown
  have hl : lv_has ls 3 [(0, .ref h_this), (1, .int l1), (2, .int l2)] := hl
  unfold f_X7_reasonAgainstJoining at hf
  refine lv_aload_n hx hb dX7_reasonAgainstJoining_0 rfl (lv_at hl 0 rfl) ?_
  refine va_get (D := (dC, dI)) (ci := 7) (v := .ref h_this_rowOf) (C := RX7) (T := TX7) (N := 3) hx hb hts in_X7_reasonAgainstJoining_X7 hown hK hP 0 rfl rfl 0 (by decide) (hts _ m_X7_reasonAgainstJoining_f9) (fun _ h9 => h9) rfl dX7_reasonAgainstJoining_1 ?_
  refine lv_iload_n hx hb dX7_reasonAgainstJoining_4 rfl (lv_at hl 1 rfl) ?_
  obtain ⟨r_5, hv_5, hf⟩ := bd1_some hf
  refine kSi (rSN (host := "WovenRows") [.ref h_this_rowOf, .int l1] [] S (c_X10_at l dC dI cI cJ cZ h_this_rowOf s.heap.size 10 c_rowOf l1 r_5 hv_5) ⟨va_cnB 2 hts gX7_reasonAgainstJoining_X10_at_n30 rfl rfl rfl (hN.m 14 rfl) (hts _ m_X7_reasonAgainstJoining_iX10) (by decide +kernel) ⟨Nat.le_of_ble_eq_true rfl, Nat.le_of_ble_eq_true rfl⟩, hts _ m_X7_reasonAgainstJoining_st_X10_at, trivial⟩ hP hD hK hN [1] rfl (by decide +kernel) rfl hl.1 rfl (Nat.le_of_ble_eq_true rfl) dX7_reasonAgainstJoining_5 ⟨Nat.le_of_ble_eq_true rfl, Nat.le_of_ble_eq_true rfl⟩) ?_
  refine lv_iconst (v := 2) hx hb dX7_reasonAgainstJoining_8 (by decide) ?_
  refine lv_icmp_eq (tgt := 14) hx hb dX7_reasonAgainstJoining_9 (by decide) (fun k_9 => ?_) (fun k_9 => ?_)
  · have hf := ite_t hf k_9
    refine lv_aload_n hx hb dX7_reasonAgainstJoining_14 rfl (lv_at hl 0 rfl) ?_
    refine lv_iload_n hx hb dX7_reasonAgainstJoining_15 rfl (lv_at hl 2 rfl) ?_
    obtain ⟨r_16, hv_16, hf⟩ := bd1_some hf
    refine kSi (rV (C := RX7) [.int l2] [] S (c_X7_lengthOf l dC dI cI cJ cZ h_this h_this_rowOf g_this_placeOf s.heap.size c_rung c_rowOf l2 r_16 hv_16) (cwV 1 hts gX7_reasonAgainstJoining_X7_lengthOf rfl rfl rfl (by decide +kernel) ⟨Nat.le_of_ble_eq_true rfl, Nat.le_of_ble_eq_true rfl⟩) (va_recv hK hP (ci := 7) (q0 := 0) rfl rfl) hP hD hK hN [0, 1] rfl (by decide +kernel) rfl hl.1 rfl (Nat.le_of_ble_eq_true rfl) dX7_reasonAgainstJoining_16 ⟨Nat.le_of_ble_eq_true rfl, Nat.le_of_ble_eq_true rfl⟩) ?_
    refine lv_bipush (v := 6) hx hb dX7_reasonAgainstJoining_19 (by decide) ?_
    refine lv_icmp_lt (tgt := 28) hx hb dX7_reasonAgainstJoining_21 (by decide) (fun k_21 => ?_) (fun k_21 => ?_)
    · have hf := ite_t hf k_21
      refine lv_iconst (v := 0) hx hb dX7_reasonAgainstJoining_28 (by decide) ?_
      have e_f := Option.some.inj hf
      cases e_f
      exact hret rfl dX7_reasonAgainstJoining_29
    · have hf := ite_f hf k_21
      refine lv_iconst (v := 2) hx hb dX7_reasonAgainstJoining_24 (by decide) ?_
      refine lv_goto (tgt := 29) hx hb dX7_reasonAgainstJoining_25 (by decide) ?_
      have e_f := Option.some.inj hf
      cases e_f
      exact hret rfl dX7_reasonAgainstJoining_29
  · have hf := ite_f hf k_9
    refine lv_iconst (v := 1) hx hb dX7_reasonAgainstJoining_12 (by decide) ?_
    have e_f := Option.some.inj hf
    cases e_f
    exact hret rfl dX7_reasonAgainstJoining_13
abbrev w_X7_reasonAgainst (cI cJ cZ : ClassId) (h_this h_this_rowOf g_this_placeOf : Nat) (c_rung : Int32) (c_rowOf : Nat → Int32) : va_W := [(h_this, .inr (7, [.ref h_this_rowOf, .ref g_this_placeOf, .int c_rung])), (h_this_rowOf, .inl (cI, 10, .inl c_rowOf))]
abbrev rm_X7_reasonAgainst : Room := { frames := 2, cells := 0, slots := 0, locals := 45 }
theorem m_X7_reasonAgainst_f18 : (.fieldLink RX7 18 "WovenRows$Rows" "rung" "I" : Cond) ∈ wsX7_reasonAgainst := by decide +kernel
theorem in_X7_reasonAgainst_X7 : ∀ w ∈ u_ws RX7 TX7 3, w ∈ wsX7_reasonAgainst := by decide +kernel
theorem m_X7_reasonAgainst_f9 : (.fieldLink RX7 9 "WovenRows$Rows" "rowOf" "[I" : Cond) ∈ wsX7_reasonAgainst := by decide +kernel
theorem m_X7_reasonAgainst_iX10 : (.initialized RX10 : Cond) ∈ wsX7_reasonAgainst := by decide +kernel
theorem m_X7_reasonAgainst_st_X10_at : (.static yX10_at : Cond) ∈ wsX7_reasonAgainst := by decide +kernel
set_option maxRecDepth 100000 in
set_option maxHeartbeats 4000000 in
theorem c_X7_reasonAgainst (l : Launch) (dC : Nat → ClassId) (dI : Nat → Nat → Nat) (cI cJ cZ : ClassId) (h_this h_this_rowOf g_this_placeOf : Nat) (sz : Nat) (c_rung : Int32) (c_rowOf : Nat → Int32) (l1 : Int32) (l2 : Int32) (l3 : Int32) (r : Int32) (hf : f_X7_reasonAgainst c_rung c_rowOf l1 l2 l3 = some r) : Met l yX7_reasonAgainst wsX7_reasonAgainst rm_X7_reasonAgainst (va_Pc [.ref h_this, .int l1, .int l2, .int l3] (PRE (dC, dI) (TY cI cJ cZ) sz (w_X7_reasonAgainst cI cJ cZ h_this h_this_rowOf g_this_placeOf c_rung c_rowOf))) (vp_Si (fun r' => r' = r)) 0 0 (fun _ => False) := by
  refine ofSi (ty := .int) (by decide +kernel) rfl (Nat.le_of_ble_eq_true rfl) ?_
  intro p e s m args below meth c Z ls S hP hD hK hN hl hret
  obtain ⟨hx, hb, hml, hown, hts⟩ := id S
  have hown : s.vm.findClass RX7 = some m.cls := hown
  have hl : lv_has ls 4 [(0, .ref h_this), (1, .int l1), (2, .int l2), (3, .int l3)] := hl
  unfold f_X7_reasonAgainst at hf
  refine lv_iload_n hx hb dX7_reasonAgainst_0 rfl (lv_at hl 1 rfl) ?_
  by_cases k_1_0 : l1 = 45
  · have hf := ite_t hf k_1_0
    refine lv_lookup (off := 57) (tgt := 58) hx hb dX7_reasonAgainst_1 (by decide) (by rw [k_1_0]; decide) (by decide) ?_
    refine lv_aload_n hx hb dX7_reasonAgainst_58 rfl (lv_at hl 0 rfl) ?_
    refine va_get (D := (dC, dI)) (ci := 7) (v := .ref h_this_rowOf) (C := RX7) (T := TX7) (N := 3) hx hb hts in_X7_reasonAgainst_X7 hown hK hP 0 rfl rfl 0 (by decide) (hts _ m_X7_reasonAgainst_f9) (fun _ h9 => h9) rfl dX7_reasonAgainst_59 ?_
    refine lv_iload_n hx hb dX7_reasonAgainst_62 rfl (lv_at hl 2 rfl) ?_
    obtain ⟨r_63, hv_63, hf⟩ := bd1_some hf
    refine kSi (rSN (host := "WovenRows") [.ref h_this_rowOf, .int l2] [] S (c_X10_at l dC dI cI cJ cZ h_this_rowOf s.heap.size 10 c_rowOf l2 r_63 hv_63) ⟨va_cnB 2 hts gX7_reasonAgainst_X10_at_n30 rfl rfl rfl (hN.m 14 rfl) (hts _ m_X7_reasonAgainst_iX10) (by decide +kernel) ⟨Nat.le_of_ble_eq_true rfl, Nat.le_of_ble_eq_true rfl⟩, hts _ m_X7_reasonAgainst_st_X10_at, trivial⟩ hP hD hK hN [1] rfl (by decide +kernel) rfl hl.1 rfl (Nat.le_of_ble_eq_true rfl) dX7_reasonAgainst_63 ⟨Nat.le_of_ble_eq_true rfl, Nat.le_of_ble_eq_true rfl⟩) ?_
    refine lv_iconst (v := 2) hx hb dX7_reasonAgainst_66 (by decide) ?_
    refine lv_icmp_ne (tgt := 74) hx hb dX7_reasonAgainst_67 (by decide) (fun k_67 => ?_) (fun k_67 => ?_)
    · have hf := ite_f hf k_67
      refine lv_iconst (v := 0) hx hb dX7_reasonAgainst_74 (by decide) ?_
      have e_f := Option.some.inj hf
      cases e_f
      exact hret rfl dX7_reasonAgainst_75
    · have hf := ite_t hf k_67
      refine lv_iconst (v := 1) hx hb dX7_reasonAgainst_70 (by decide) ?_
      refine lv_goto (tgt := 75) hx hb dX7_reasonAgainst_71 (by decide) ?_
      have e_f := Option.some.inj hf
      cases e_f
      exact hret rfl dX7_reasonAgainst_75
  have hf := ite_f hf k_1_0
  have k_1_0 := sw_ne (z := 45) (by decide) k_1_0
  by_cases k_1_1 : l1 = 100
  · have hf := ite_t hf k_1_1
    refine lv_lookup (off := 43) (tgt := 44) hx hb dX7_reasonAgainst_1 (by decide) (by rw [k_1_1]; decide) (by decide) ?_
    refine lv_aload_n hx hb dX7_reasonAgainst_44 rfl (lv_at hl 0 rfl) ?_
    refine lv_iload_n hx hb dX7_reasonAgainst_45 rfl (lv_at hl 2 rfl) ?_
    refine lv_iconst (v := 0) hx hb dX7_reasonAgainst_46 (by decide) ?_
    obtain ⟨r_47, hv_47, hf⟩ := bd1_some hf
    refine kSi (rV (C := RX7) [.int l2, .int 0] [] S (c_X7_reasonAgainstJoining l dC dI cI cJ cZ h_this h_this_rowOf g_this_placeOf s.heap.size c_rung c_rowOf l2 0 r_47 hv_47) (cwV 2 hts gX7_reasonAgainst_X7_reasonAgainstJoining rfl rfl rfl (by decide +kernel) ⟨Nat.le_of_ble_eq_true rfl, Nat.le_of_ble_eq_true rfl⟩) (va_recv hK hP (ci := 7) (q0 := 0) rfl rfl) hP hD hK hN [0, 1] rfl (by decide +kernel) rfl hl.1 rfl (Nat.le_of_ble_eq_true rfl) dX7_reasonAgainst_47 ⟨Nat.le_of_ble_eq_true rfl, Nat.le_of_ble_eq_true rfl⟩) ?_
    have e_f := Option.some.inj hf
    cases e_f
    exact hret rfl dX7_reasonAgainst_50
  have hf := ite_f hf k_1_1
  have k_1_1 := sw_ne (z := 100) (by decide) k_1_1
  by_cases k_1_2 : l1 = 117
  · have hf := ite_t hf k_1_2
    refine lv_lookup (off := 50) (tgt := 51) hx hb dX7_reasonAgainst_1 (by decide) (by rw [k_1_2]; decide) (by decide) ?_
    refine lv_aload_n hx hb dX7_reasonAgainst_51 rfl (lv_at hl 0 rfl) ?_
    refine lv_iload_n hx hb dX7_reasonAgainst_52 rfl (lv_at hl 2 rfl) ?_
    refine lv_iconst (v := 1) hx hb dX7_reasonAgainst_53 (by decide) ?_
    obtain ⟨r_54, hv_54, hf⟩ := bd1_some hf
    refine kSi (rV (C := RX7) [.int l2, .int 1] [] S (c_X7_reasonAgainstJoining l dC dI cI cJ cZ h_this h_this_rowOf g_this_placeOf s.heap.size c_rung c_rowOf l2 1 r_54 hv_54) (cwV 2 hts gX7_reasonAgainst_X7_reasonAgainstJoining rfl rfl rfl (by decide +kernel) ⟨Nat.le_of_ble_eq_true rfl, Nat.le_of_ble_eq_true rfl⟩) (va_recv hK hP (ci := 7) (q0 := 0) rfl rfl) hP hD hK hN [0, 1] rfl (by decide +kernel) rfl hl.1 rfl (Nat.le_of_ble_eq_true rfl) dX7_reasonAgainst_54 ⟨Nat.le_of_ble_eq_true rfl, Nat.le_of_ble_eq_true rfl⟩) ?_
    have e_f := Option.some.inj hf
    cases e_f
    exact hret rfl dX7_reasonAgainst_57
  have hf := ite_f hf k_1_2
  have k_1_2 := sw_ne (z := 117) (by decide) k_1_2
  by_cases k_1_3 : l1 = 120
  · have hf := ite_t hf k_1_3
    refine lv_lookup (off := 75) (tgt := 76) hx hb dX7_reasonAgainst_1 (by decide) (by rw [k_1_3]; decide) (by decide) ?_
    refine lv_aload_n hx hb dX7_reasonAgainst_76 rfl (lv_at hl 0 rfl) ?_
    refine va_get (D := (dC, dI)) (ci := 7) (v := .ref h_this_rowOf) (C := RX7) (T := TX7) (N := 3) hx hb hts in_X7_reasonAgainst_X7 hown hK hP 0 rfl rfl 0 (by decide) (hts _ m_X7_reasonAgainst_f9) (fun _ h9 => h9) rfl dX7_reasonAgainst_77 ?_
    refine lv_iload_n hx hb dX7_reasonAgainst_80 rfl (lv_at hl 2 rfl) ?_
    obtain ⟨r_81, hv_81, hf⟩ := bd1_some hf
    refine kSi (rSN (host := "WovenRows") [.ref h_this_rowOf, .int l2] [] S (c_X10_at l dC dI cI cJ cZ h_this_rowOf s.heap.size 10 c_rowOf l2 r_81 hv_81) ⟨va_cnB 2 hts gX7_reasonAgainst_X10_at_n30 rfl rfl rfl (hN.m 14 rfl) (hts _ m_X7_reasonAgainst_iX10) (by decide +kernel) ⟨Nat.le_of_ble_eq_true rfl, Nat.le_of_ble_eq_true rfl⟩, hts _ m_X7_reasonAgainst_st_X10_at, trivial⟩ hP hD hK hN [1] rfl (by decide +kernel) rfl hl.1 rfl (Nat.le_of_ble_eq_true rfl) dX7_reasonAgainst_81 ⟨Nat.le_of_ble_eq_true rfl, Nat.le_of_ble_eq_true rfl⟩) ?_
    refine lv_iconst (v := 2) hx hb dX7_reasonAgainst_84 (by decide) ?_
    refine lv_icmp_eq (tgt := 100) hx hb dX7_reasonAgainst_85 (by decide) (fun k_85 => ?_) (fun k_85 => ?_)
    · have hf := ite_t hf k_85
      refine lv_iconst (v := 1) hx hb dX7_reasonAgainst_100 (by decide) ?_
      have e_f := Option.some.inj hf
      cases e_f
      exact hret rfl dX7_reasonAgainst_101
    · have hf := ite_f hf k_85
      refine lv_aload_n hx hb dX7_reasonAgainst_88 rfl (lv_at hl 0 rfl) ?_
      refine va_get (D := (dC, dI)) (ci := 7) (v := .ref h_this_rowOf) (C := RX7) (T := TX7) (N := 3) hx hb hts in_X7_reasonAgainst_X7 hown hK hP 0 rfl rfl 0 (by decide) (hts _ m_X7_reasonAgainst_f9) (fun _ h9 => h9) rfl dX7_reasonAgainst_89 ?_
      refine lv_iload_n hx hb dX7_reasonAgainst_92 rfl (lv_at hl 3 rfl) ?_
      obtain ⟨r_93, hv_93, hf⟩ := bd1_some hf
      refine kSi (rSN (host := "WovenRows") [.ref h_this_rowOf, .int l3] [] S (c_X10_at l dC dI cI cJ cZ h_this_rowOf s.heap.size 10 c_rowOf l3 r_93 hv_93) ⟨va_cnB 2 hts gX7_reasonAgainst_X10_at_n30 rfl rfl rfl (hN.m 14 rfl) (hts _ m_X7_reasonAgainst_iX10) (by decide +kernel) ⟨Nat.le_of_ble_eq_true rfl, Nat.le_of_ble_eq_true rfl⟩, hts _ m_X7_reasonAgainst_st_X10_at, trivial⟩ hP hD hK hN [1] rfl (by decide +kernel) rfl hl.1 rfl (Nat.le_of_ble_eq_true rfl) dX7_reasonAgainst_93 ⟨Nat.le_of_ble_eq_true rfl, Nat.le_of_ble_eq_true rfl⟩) ?_
      refine lv_iconst (v := 2) hx hb dX7_reasonAgainst_96 (by decide) ?_
      refine lv_icmp_ne (tgt := 102) hx hb dX7_reasonAgainst_97 (by decide) (fun k_97 => ?_) (fun k_97 => ?_)
      · have hf := ite_f hf k_97
        refine lv_iload_n hx hb dX7_reasonAgainst_102 rfl (lv_at hl 2 rfl) ?_
        refine lv_iload_n hx hb dX7_reasonAgainst_103 rfl (lv_at hl 3 rfl) ?_
        refine lv_icmp_ne (tgt := 111) hx hb dX7_reasonAgainst_104 (by decide) (fun k_104 => ?_) (fun k_104 => ?_)
        · have hf := ite_f hf k_104
          refine lv_iconst (v := 0) hx hb dX7_reasonAgainst_111 (by decide) ?_
          have e_f := Option.some.inj hf
          cases e_f
          exact hret rfl dX7_reasonAgainst_112
        · have hf := ite_t hf k_104
          refine lv_iconst (v := 3) hx hb dX7_reasonAgainst_107 (by decide) ?_
          refine lv_goto (tgt := 112) hx hb dX7_reasonAgainst_108 (by decide) ?_
          have e_f := Option.some.inj hf
          cases e_f
          exact hret rfl dX7_reasonAgainst_112
      · have hf := ite_t hf k_97
        refine lv_iconst (v := 1) hx hb dX7_reasonAgainst_100 (by decide) ?_
        have e_f := Option.some.inj hf
        cases e_f
        exact hret rfl dX7_reasonAgainst_101
  have hf := ite_f hf k_1_3
  have k_1_3 := sw_ne (z := 120) (by decide) k_1_3
  refine lv_lookup (off := 112) (tgt := 113) hx hb dX7_reasonAgainst_1 (by decide) (by simp [Op.lookupswitch.offset]; rw [if_neg (by omega), if_neg (by omega), if_neg (by omega), if_neg (by omega)]) (by decide) ?_
  refine lv_aload_n hx hb dX7_reasonAgainst_113 rfl (lv_at hl 0 rfl) ?_
  refine va_get (D := (dC, dI)) (ci := 7) (v := .int c_rung) (C := RX7) (T := TX7) (N := 3) hx hb hts in_X7_reasonAgainst_X7 hown hK hP 0 rfl rfl 2 (by decide) (hts _ m_X7_reasonAgainst_f18) (fun _ h9 => h9) rfl dX7_reasonAgainst_114 ?_
  refine lv_bipush (v := 99) hx hb dX7_reasonAgainst_117 (by decide) ?_
  refine lv_icmp_lt (tgt := 126) hx hb dX7_reasonAgainst_119 (by decide) (fun k_119 => ?_) (fun k_119 => ?_)
  · have hf := ite_t hf k_119
    refine lv_iconst (v := 0) hx hb dX7_reasonAgainst_126 (by decide) ?_
    have e_f := Option.some.inj hf
    cases e_f
    exact hret rfl dX7_reasonAgainst_127
  · have hf := ite_f hf k_119
    refine lv_iconst (v := 4) hx hb dX7_reasonAgainst_122 (by decide) ?_
    refine lv_goto (tgt := 127) hx hb dX7_reasonAgainst_123 (by decide) ?_
    have e_f := Option.some.inj hf
    cases e_f
    exact hret rfl dX7_reasonAgainst_127
abbrev w_X7_join (cI cJ cZ : ClassId) (h_this h_this_rowOf h_this_placeOf : Nat) (c_rung : Int32) (c_rowOf : Nat → Int32) (c_placeOf : Nat → Int32) : va_W := [(h_this, .inr (7, [.ref h_this_rowOf, .ref h_this_placeOf, .int c_rung])), (h_this_rowOf, .inl (cI, 10, .inl c_rowOf)), (h_this_placeOf, .inl (cI, 10, .inl c_placeOf))]
abbrev rm_X7_join : Room := { frames := 1, cells := 0, slots := 0, locals := 23 }
theorem m_X7_join_f15 : (.fieldLink RX7 15 "WovenRows$Rows" "placeOf" "[I" : Cond) ∈ wsX7_join := by decide +kernel
theorem in_X7_join_X7 : ∀ w ∈ u_ws RX7 TX7 3, w ∈ wsX7_join := by decide +kernel
theorem m_X7_join_f9 : (.fieldLink RX7 9 "WovenRows$Rows" "rowOf" "[I" : Cond) ∈ wsX7_join := by decide +kernel
theorem m_X7_join_iX10 : (.initialized RX10 : Cond) ∈ wsX7_join := by decide +kernel
theorem m_X7_join_st_X10_put : (.static yX10_put : Cond) ∈ wsX7_join := by decide +kernel
set_option maxRecDepth 100000 in
set_option maxHeartbeats 4000000 in
theorem c_X7_join (l : Launch) (dC : Nat → ClassId) (dI : Nat → Nat → Nat) (cI cJ cZ : ClassId) (h_this h_this_rowOf h_this_placeOf : Nat) (sz : Nat) (c_rung : Int32) (c_rowOf : Nat → Int32) (c_placeOf : Nat → Int32) (l1 : Int32) (l2 : Int32) (z_rowOf : Nat → Int32) (z_placeOf : Nat → Int32) (hf : f_X7_join c_rowOf c_placeOf l1 l2 = some (z_rowOf, z_placeOf)) : Met l yX7_join wsX7_join rm_X7_join (va_Pc [.ref h_this, .int l1, .int l2] (PRE (dC, dI) (TY cI cJ cZ) sz (w_X7_join cI cJ cZ h_this h_this_rowOf h_this_placeOf c_rung c_rowOf c_placeOf))) (va_Qv (fun _ : Unit => True) (POW (dC, dI) (va_A (w_X7_join cI cJ cZ h_this h_this_rowOf h_this_placeOf c_rung c_rowOf c_placeOf) sz) (w_X7_join cI cJ cZ h_this h_this_rowOf h_this_placeOf c_rung z_rowOf z_placeOf)) (va_A (w_X7_join cI cJ cZ h_this h_this_rowOf h_this_placeOf c_rung c_rowOf c_placeOf) sz)) 0 0 (va_A (w_X7_join cI cJ cZ h_this h_this_rowOf h_this_placeOf c_rung c_rowOf c_placeOf) sz) := by
  refine ofWv (by decide +kernel) rfl (Nat.le_of_ble_eq_true rfl) ?_
  intro p e s m args below meth c Z A ls S hP hD hK hN hA hl hret
  obtain ⟨hx, hb, hml, hown, hts⟩ := id S
  have hown : s.vm.findClass RX7 = some m.cls := hown
  have hS : va_S A s.heap s.heap [] := va_S.rf
  have hl : lv_has ls 3 [(0, .ref h_this), (1, .int l1), (2, .int l2)] := hl
  unfold f_X7_join at hf
  refine lv_aload_n hx hb dX7_join_0 rfl (lv_at hl 0 rfl) ?_
  refine va_get (D := (dC, dI)) (ci := 7) (v := .ref h_this_placeOf) (C := RX7) (T := TX7) (N := 3) hx hb hts in_X7_join_X7 hown hK hP 0 rfl rfl 1 (by decide) (hts _ m_X7_join_f15) (fun _ h9 => h9) rfl dX7_join_1 ?_
  refine lv_iload_n hx hb dX7_join_4 rfl (lv_at hl 1 rfl) ?_
  refine lv_aload_n hx hb dX7_join_5 rfl (lv_at hl 0 rfl) ?_
  refine lv_iload_n hx hb dX7_join_6 rfl (lv_at hl 2 rfl) ?_
  obtain ⟨r_7, hv_7, hf⟩ := bd1_some hf
  refine kSi (rV (C := RX7) [.int l2] [.int l1, .ref h_this_placeOf] S (c_X7_lengthOf l dC dI cI cJ cZ h_this h_this_rowOf h_this_placeOf s.heap.size c_rung c_rowOf l2 r_7 hv_7) (cwV 1 hts gX7_join_X7_lengthOf rfl rfl rfl (by decide +kernel) ⟨Nat.le_of_ble_eq_true rfl, Nat.le_of_ble_eq_true rfl⟩) (va_recv hK hP (ci := 7) (q0 := 0) rfl rfl) hP hD hK hN [0, 1] rfl (by decide +kernel) rfl hl.1 rfl (Nat.le_of_ble_eq_true rfl) dX7_join_7 ⟨Nat.le_of_ble_eq_true rfl, Nat.le_of_ble_eq_true rfl⟩) ?_
  obtain ⟨c_placeOf_10, hv_10, hf⟩ := bd1_some hf
  refine kWv (rSN (host := "WovenRows") [.ref h_this_placeOf, .int l1, .int r_7] [] S (c_X10_put l dC dI cI cJ cZ h_this_placeOf s.heap.size 10 c_placeOf l1 r_7 c_placeOf_10 hv_10) ⟨va_cnB 3 hts gX7_join_X10_put_n62 rfl rfl rfl (hN.m 15 rfl) (hts _ m_X7_join_iX10) (by decide +kernel) ⟨Nat.le_of_ble_eq_true rfl, Nat.le_of_ble_eq_true rfl⟩, hts _ m_X7_join_st_X10_put, trivial⟩ hP hD hK hN [2] rfl (by decide +kernel) rfl hl.1 rfl (Nat.le_of_ble_eq_true rfl) dX7_join_10 ⟨Nat.le_of_ble_eq_true rfl, Nat.le_of_ble_eq_true rfl⟩) hP hD hS hA [2] rfl rfl [none, none, some 0] (by decide +kernel) rfl (fun H locs hP hD hS => ?_)
  have hP : va_P (dC, dI) vwCl (w_X7_join cI cJ cZ h_this h_this_rowOf h_this_placeOf c_rung c_rowOf c_placeOf_10) H := hP
  have hD : va_D A (w_X7_join cI cJ cZ h_this h_this_rowOf h_this_placeOf c_rung c_rowOf c_placeOf_10) := hD
  refine lv_aload_n hx hb dX7_join_13 rfl (lv_at hl 0 rfl) ?_
  refine va_get (D := (dC, dI)) (ci := 7) (v := .ref h_this_rowOf) (C := RX7) (T := TX7) (N := 3) hx hb hts in_X7_join_X7 hown hK hP 0 rfl rfl 0 (by decide) (hts _ m_X7_join_f9) (fun _ h9 => h9) rfl dX7_join_14 ?_
  refine lv_iload_n hx hb dX7_join_17 rfl (lv_at hl 1 rfl) ?_
  refine lv_iload_n hx hb dX7_join_18 rfl (lv_at hl 2 rfl) ?_
  obtain ⟨c_rowOf_19, hv_19, hf⟩ := bd1_some hf
  refine kWv (rSN (host := "WovenRows") [.ref h_this_rowOf, .int l1, .int l2] [] S (c_X10_put l dC dI cI cJ cZ h_this_rowOf H.size 10 c_rowOf l1 l2 c_rowOf_19 hv_19) ⟨va_cnB 3 hts gX7_join_X10_put_n62 rfl rfl rfl (hN.m 15 rfl) (hts _ m_X7_join_iX10) (by decide +kernel) ⟨Nat.le_of_ble_eq_true rfl, Nat.le_of_ble_eq_true rfl⟩, hts _ m_X7_join_st_X10_put, trivial⟩ hP hD hK hN [1] rfl (by decide +kernel) rfl hl.1 rfl (Nat.le_of_ble_eq_true rfl) dX7_join_19 ⟨Nat.le_of_ble_eq_true rfl, Nat.le_of_ble_eq_true rfl⟩) hP hD hS hA [1] rfl rfl [none, some 0, none] (by decide +kernel) rfl (fun H locs hP hD hS => ?_)
  have hP : va_P (dC, dI) vwCl (w_X7_join cI cJ cZ h_this h_this_rowOf h_this_placeOf c_rung c_rowOf_19 c_placeOf_10) H := hP
  have hD : va_D A (w_X7_join cI cJ cZ h_this h_this_rowOf h_this_placeOf c_rung c_rowOf_19 c_placeOf_10) := hD
  have e_f := Option.some.inj hf
  cases e_f
  exact hret hP hD hS dX7_join_22
abbrev w_X7_leave (cI cJ cZ : ClassId) (h_this h_this_rowOf h_this_placeOf : Nat) (c_rung : Int32) (c_rowOf : Nat → Int32) (c_placeOf : Nat → Int32) : va_W := [(h_this, .inr (7, [.ref h_this_rowOf, .ref h_this_placeOf, .int c_rung])), (h_this_rowOf, .inl (cI, 10, .inl c_rowOf)), (h_this_placeOf, .inl (cI, 10, .inl c_placeOf))]
abbrev rm_X7_leave : Room := { frames := 1, cells := 0, slots := 0, locals := 22 }
theorem m_X7_leave_f9 : (.fieldLink RX7 9 "WovenRows$Rows" "rowOf" "[I" : Cond) ∈ wsX7_leave := by decide +kernel
theorem in_X7_leave_X7 : ∀ w ∈ u_ws RX7 TX7 3, w ∈ wsX7_leave := by decide +kernel
theorem m_X7_leave_f15 : (.fieldLink RX7 15 "WovenRows$Rows" "placeOf" "[I" : Cond) ∈ wsX7_leave := by decide +kernel
theorem m_X7_leave_iX10 : (.initialized RX10 : Cond) ∈ wsX7_leave := by decide +kernel
theorem m_X7_leave_st_X10_at : (.static yX10_at : Cond) ∈ wsX7_leave := by decide +kernel
theorem m_X7_leave_st_X10_put : (.static yX10_put : Cond) ∈ wsX7_leave := by decide +kernel
set_option maxRecDepth 100000 in
set_option maxHeartbeats 4000000 in
theorem c_X7_leave (l : Launch) (dC : Nat → ClassId) (dI : Nat → Nat → Nat) (cI cJ cZ : ClassId) (h_this h_this_rowOf h_this_placeOf : Nat) (sz : Nat) (c_rung : Int32) (c_rowOf : Nat → Int32) (c_placeOf : Nat → Int32) (l1 : Int32) (z_rowOf : Nat → Int32) (z_placeOf : Nat → Int32) (hf : f_X7_leave c_rowOf c_placeOf l1 = some (z_rowOf, z_placeOf)) : Met l yX7_leave wsX7_leave rm_X7_leave (va_Pc [.ref h_this, .int l1] (PRE (dC, dI) (TY cI cJ cZ) sz (w_X7_leave cI cJ cZ h_this h_this_rowOf h_this_placeOf c_rung c_rowOf c_placeOf))) (va_Qv (fun _ : Unit => True) (POW (dC, dI) (va_A (w_X7_leave cI cJ cZ h_this h_this_rowOf h_this_placeOf c_rung c_rowOf c_placeOf) sz) (w_X7_leave cI cJ cZ h_this h_this_rowOf h_this_placeOf c_rung z_rowOf z_placeOf)) (va_A (w_X7_leave cI cJ cZ h_this h_this_rowOf h_this_placeOf c_rung c_rowOf c_placeOf) sz)) 0 0 (va_A (w_X7_leave cI cJ cZ h_this h_this_rowOf h_this_placeOf c_rung c_rowOf c_placeOf) sz) := by
  refine ofWv (by decide +kernel) rfl (Nat.le_of_ble_eq_true rfl) ?_
  intro p e s m args below meth c Z A ls S hP hD hK hN hA hl hret
  obtain ⟨hx, hb, hml, hown, hts⟩ := id S
  have hown : s.vm.findClass RX7 = some m.cls := hown
  have hS : va_S A s.heap s.heap [] := va_S.rf
  have hl : lv_has ls 6 [(0, .ref h_this), (1, .int l1)] := hl
  unfold f_X7_leave at hf
  refine lv_aload_n hx hb dX7_leave_0 rfl (lv_at hl 0 rfl) ?_
  refine va_get (D := (dC, dI)) (ci := 7) (v := .ref h_this_rowOf) (C := RX7) (T := TX7) (N := 3) hx hb hts in_X7_leave_X7 hown hK hP 0 rfl rfl 0 (by decide) (hts _ m_X7_leave_f9) (fun _ h9 => h9) rfl dX7_leave_1 ?_
  refine lv_iload_n hx hb dX7_leave_4 rfl (lv_at hl 1 rfl) ?_
  obtain ⟨r_5, hv_5, hf⟩ := bd1_some hf
  refine kSi (rSN (host := "WovenRows") [.ref h_this_rowOf, .int l1] [] S (c_X10_at l dC dI cI cJ cZ h_this_rowOf s.heap.size 10 c_rowOf l1 r_5 hv_5) ⟨va_cnB 2 hts gX7_leave_X10_at_n30 rfl rfl rfl (hN.m 14 rfl) (hts _ m_X7_leave_iX10) (by decide +kernel) ⟨Nat.le_of_ble_eq_true rfl, Nat.le_of_ble_eq_true rfl⟩, hts _ m_X7_leave_st_X10_at, trivial⟩ hP hD hK hN [1] rfl (by decide +kernel) rfl hl.1 rfl (Nat.le_of_ble_eq_true rfl) dX7_leave_5 ⟨Nat.le_of_ble_eq_true rfl, Nat.le_of_ble_eq_true rfl⟩) ?_
  refine lv_istore_n (lv' := [(2, .int r_5), (0, .ref h_this), (1, .int l1)]) hx hb dX7_leave_8 rfl hl (by decide) rfl (fun ls hl => ?_)
  refine lv_aload_n hx hb dX7_leave_9 rfl (lv_at hl 1 rfl) ?_
  refine va_get (D := (dC, dI)) (ci := 7) (v := .ref h_this_placeOf) (C := RX7) (T := TX7) (N := 3) hx hb hts in_X7_leave_X7 hown hK hP 0 rfl rfl 1 (by decide) (hts _ m_X7_leave_f15) (fun _ h9 => h9) rfl dX7_leave_10 ?_
  refine lv_iload_n hx hb dX7_leave_13 rfl (lv_at hl 2 rfl) ?_
  obtain ⟨r_14, hv_14, hf⟩ := bd1_some hf
  refine kSi (rSN (host := "WovenRows") [.ref h_this_placeOf, .int l1] [] S (c_X10_at l dC dI cI cJ cZ h_this_placeOf s.heap.size 10 c_placeOf l1 r_14 hv_14) ⟨va_cnB 2 hts gX7_leave_X10_at_n30 rfl rfl rfl (hN.m 14 rfl) (hts _ m_X7_leave_iX10) (by decide +kernel) ⟨Nat.le_of_ble_eq_true rfl, Nat.le_of_ble_eq_true rfl⟩, hts _ m_X7_leave_st_X10_at, trivial⟩ hP hD hK hN [2] rfl (by decide +kernel) rfl hl.1 rfl (Nat.le_of_ble_eq_true rfl) dX7_leave_14 ⟨Nat.le_of_ble_eq_true rfl, Nat.le_of_ble_eq_true rfl⟩) ?_
  refine lv_istore_n (lv' := [(3, .int r_14), (2, .int r_5), (0, .ref h_this), (1, .int l1)]) hx hb dX7_leave_17 rfl hl (by decide) rfl (fun ls hl => ?_)
  refine lv_aload_n hx hb dX7_leave_18 rfl (lv_at hl 2 rfl) ?_
  refine va_get (D := (dC, dI)) (ci := 7) (v := .ref h_this_rowOf) (C := RX7) (T := TX7) (N := 3) hx hb hts in_X7_leave_X7 hown hK hP 0 rfl rfl 0 (by decide) (hts _ m_X7_leave_f9) (fun _ h9 => h9) rfl dX7_leave_19 ?_
  refine lv_iload_n hx hb dX7_leave_22 rfl (lv_at hl 3 rfl) ?_
  refine lv_iconst (v := 2) hx hb dX7_leave_23 (by decide) ?_
  obtain ⟨c_rowOf_24, hv_24, hf⟩ := bd1_some hf
  refine kWv (rSN (host := "WovenRows") [.ref h_this_rowOf, .int l1, .int 2] [] S (c_X10_put l dC dI cI cJ cZ h_this_rowOf s.heap.size 10 c_rowOf l1 2 c_rowOf_24 hv_24) ⟨va_cnB 3 hts gX7_leave_X10_put_n62 rfl rfl rfl (hN.m 15 rfl) (hts _ m_X7_leave_iX10) (by decide +kernel) ⟨Nat.le_of_ble_eq_true rfl, Nat.le_of_ble_eq_true rfl⟩, hts _ m_X7_leave_st_X10_put, trivial⟩ hP hD hK hN [1] rfl (by decide +kernel) rfl hl.1 rfl (Nat.le_of_ble_eq_true rfl) dX7_leave_24 ⟨Nat.le_of_ble_eq_true rfl, Nat.le_of_ble_eq_true rfl⟩) hP hD hS hA [1] rfl rfl [none, some 0, none] (by decide +kernel) rfl (fun H locs hP hD hS => ?_)
  have hP : va_P (dC, dI) vwCl (w_X7_leave cI cJ cZ h_this h_this_rowOf h_this_placeOf c_rung c_rowOf_24 c_placeOf) H := hP
  have hD : va_D A (w_X7_leave cI cJ cZ h_this h_this_rowOf h_this_placeOf c_rung c_rowOf_24 c_placeOf) := hD
  refine lv_aload_n hx hb dX7_leave_27 rfl (lv_at hl 2 rfl) ?_
  refine va_get (D := (dC, dI)) (ci := 7) (v := .ref h_this_placeOf) (C := RX7) (T := TX7) (N := 3) hx hb hts in_X7_leave_X7 hown hK hP 0 rfl rfl 1 (by decide) (hts _ m_X7_leave_f15) (fun _ h9 => h9) rfl dX7_leave_28 ?_
  refine lv_iload_n hx hb dX7_leave_31 rfl (lv_at hl 3 rfl) ?_
  refine lv_bipush (v := (-6)) hx hb dX7_leave_32 (by decide) ?_
  obtain ⟨c_placeOf_34, hv_34, hf⟩ := bd1_some hf
  refine kWv (rSN (host := "WovenRows") [.ref h_this_placeOf, .int l1, .int (-6)] [] S (c_X10_put l dC dI cI cJ cZ h_this_placeOf H.size 10 c_placeOf l1 (-6) c_placeOf_34 hv_34) ⟨va_cnB 3 hts gX7_leave_X10_put_n62 rfl rfl rfl (hN.m 15 rfl) (hts _ m_X7_leave_iX10) (by decide +kernel) ⟨Nat.le_of_ble_eq_true rfl, Nat.le_of_ble_eq_true rfl⟩, hts _ m_X7_leave_st_X10_put, trivial⟩ hP hD hK hN [2] rfl (by decide +kernel) rfl hl.1 rfl (Nat.le_of_ble_eq_true rfl) dX7_leave_34 ⟨Nat.le_of_ble_eq_true rfl, Nat.le_of_ble_eq_true rfl⟩) hP hD hS hA [2] rfl rfl [none, none, some 0] (by decide +kernel) rfl (fun H locs hP hD hS => ?_)
  have hP : va_P (dC, dI) vwCl (w_X7_leave cI cJ cZ h_this h_this_rowOf h_this_placeOf c_rung c_rowOf_24 c_placeOf_34) H := hP
  have hD : va_D A (w_X7_leave cI cJ cZ h_this h_this_rowOf h_this_placeOf c_rung c_rowOf_24 c_placeOf_34) := hD
  refine lv_iconst (v := 0) hx hb dX7_leave_37 (by decide) ?_
  refine lv_istore (lv' := [(4, .int 0), (3, .int r_14), (2, .int r_5), (0, .ref h_this), (1, .int l1)]) hx hb dX7_leave_38 hl (by decide) rfl (fun ls hl => ?_)
  obtain ⟨l4_40x, c_placeOf_40x, hq_40, hf⟩ := bd2_some hf
  have K_40 : ∀ (H : Heap) (locs : List Loc) (ls : Array Slot), va_P (dC, dI) vwCl (w_X7_leave cI cJ cZ h_this h_this_rowOf h_this_placeOf c_rung c_rowOf_24 c_placeOf_40x) H → va_D A (w_X7_leave cI cJ cZ h_this h_this_rowOf h_this_placeOf c_rung c_rowOf_24 c_placeOf_40x) → va_S A s.heap H locs → lv_has ls 6 [] → W p l e rm_X7_leave s m args below meth c H locs 0 0 Z (F0 m 96 ls []) := by
    intro H locs ls hP hD hS hl
    have e_f := Option.some.inj hf
    cases e_f
    exact hret hP hD hS dX7_leave_96
  have L_40 : ∀ (n : Nat) (l4_40 : Int32) (c_placeOf_40 : Nat → Int32) (H : Heap) (locs : List Loc) (ls : Array Slot), va_P (dC, dI) vwCl (w_X7_leave cI cJ cZ h_this h_this_rowOf h_this_placeOf c_rung c_rowOf_24 c_placeOf_40) H → va_D A (w_X7_leave cI cJ cZ h_this h_this_rowOf h_this_placeOf c_rung c_rowOf_24 c_placeOf_40) → va_S A s.heap H locs → lv_has ls 6 [(0, .ref h_this), (2, .int r_5), (3, .int r_14), (4, .int l4_40)] → loopN (fun (q : Int32 × (Nat → Int32)) => f_X7_leave_b40 r_5 r_14 c_rowOf_24 q.1 q.2) n (l4_40, c_placeOf_40) = some (l4_40x, c_placeOf_40x) → W p l e rm_X7_leave s m args below meth c H locs 0 0 Z (F0 m 40 ls []) := by
    intro n
    induction n with
    | zero => intro l4_40 c_placeOf_40 H locs ls hP hD hS hl hq; exact (loopN_zero hq).elim
    | succ n ih_40 =>
      intro l4_40 c_placeOf_40 H locs ls hP hD hS hl hq
      obtain ⟨o_40, hf, ho1_40, ho2_40⟩ := loopN_step hq
      have hf : f_X7_leave_b40 r_5 r_14 c_rowOf_24 l4_40 c_placeOf_40 = some o_40 := hf
      unfold f_X7_leave_b40 at hf
      refine lv_iload hx hb dX7_leave_40 (lv_at hl 3 rfl) ?_
      refine lv_bipush (v := 10) hx hb dX7_leave_42 (by decide) ?_
      refine lv_icmp_ge (tgt := 96) hx hb dX7_leave_44 (by decide) (fun k_44 => ?_) (fun k_44 => ?_)
      · have hf := ite_t hf k_44
        have e_40 := ho2_40 _ (Option.some.inj hf).symm
        cases e_40
        exact K_40 H locs ls hP hD hS (lv_sub hl [] rfl)
      · have hf := ite_f hf k_44
        refine lv_aload_n hx hb dX7_leave_47 rfl (lv_at hl 0 rfl) ?_
        refine va_get (D := (dC, dI)) (ci := 7) (v := .ref h_this_placeOf) (C := RX7) (T := TX7) (N := 3) hx hb hts in_X7_leave_X7 hown hK hP 0 rfl rfl 1 (by decide) (hts _ m_X7_leave_f15) (fun _ h9 => h9) rfl dX7_leave_48 ?_
        refine lv_iload hx hb dX7_leave_51 (lv_at hl 3 rfl) ?_
        obtain ⟨r_53, hv_53, hf⟩ := bd1_some hf
        refine kSi (rSN (host := "WovenRows") [.ref h_this_placeOf, .int l4_40] [] S (c_X10_at l dC dI cI cJ cZ h_this_placeOf H.size 10 c_placeOf_40 l4_40 r_53 hv_53) ⟨va_cnB 2 hts gX7_leave_X10_at_n30 rfl rfl rfl (hN.m 14 rfl) (hts _ m_X7_leave_iX10) (by decide +kernel) ⟨Nat.le_of_ble_eq_true rfl, Nat.le_of_ble_eq_true rfl⟩, hts _ m_X7_leave_st_X10_at, trivial⟩ hP hD hK hN [2] rfl (by decide +kernel) rfl hl.1 rfl (Nat.le_of_ble_eq_true rfl) dX7_leave_53 ⟨Nat.le_of_ble_eq_true rfl, Nat.le_of_ble_eq_true rfl⟩) ?_
        refine lv_istore (lv' := [(5, .int r_53), (0, .ref h_this), (2, .int r_5), (3, .int r_14), (4, .int l4_40)]) hx hb dX7_leave_56 hl (by decide) rfl (fun ls hl => ?_)
        refine lv_aload_n hx hb dX7_leave_58 rfl (lv_at hl 1 rfl) ?_
        refine va_get (D := (dC, dI)) (ci := 7) (v := .ref h_this_rowOf) (C := RX7) (T := TX7) (N := 3) hx hb hts in_X7_leave_X7 hown hK hP 0 rfl rfl 0 (by decide) (hts _ m_X7_leave_f9) (fun _ h9 => h9) rfl dX7_leave_59 ?_
        refine lv_iload hx hb dX7_leave_62 (lv_at hl 4 rfl) ?_
        obtain ⟨r_64, hv_64, hf⟩ := bd1_some hf
        refine kSi (rSN (host := "WovenRows") [.ref h_this_rowOf, .int l4_40] [] S (c_X10_at l dC dI cI cJ cZ h_this_rowOf H.size 10 c_rowOf_24 l4_40 r_64 hv_64) ⟨va_cnB 2 hts gX7_leave_X10_at_n30 rfl rfl rfl (hN.m 14 rfl) (hts _ m_X7_leave_iX10) (by decide +kernel) ⟨Nat.le_of_ble_eq_true rfl, Nat.le_of_ble_eq_true rfl⟩, hts _ m_X7_leave_st_X10_at, trivial⟩ hP hD hK hN [1] rfl (by decide +kernel) rfl hl.1 rfl (Nat.le_of_ble_eq_true rfl) dX7_leave_64 ⟨Nat.le_of_ble_eq_true rfl, Nat.le_of_ble_eq_true rfl⟩) ?_
        refine lv_iload_n hx hb dX7_leave_67 rfl (lv_at hl 2 rfl) ?_
        refine lv_icmp_ne (tgt := 90) hx hb dX7_leave_68 (by decide) (fun k_68 => ?_) (fun k_68 => ?_)
        · have hf := ite_f hf k_68
          refine lv_iinc (v := (l4_40 + 1)) (lv' := [(4, .int (l4_40 + 1)), (5, .int r_53), (0, .ref h_this), (2, .int r_5), (3, .int r_14)]) hx hb dX7_leave_90 hl (k := 4) rfl rfl (by decide) rfl (fun ls hl => ?_)
          refine lv_goto (tgt := 40) hx hb dX7_leave_93 (by decide) ?_
          exact ih_40 (l4_40 + 1) c_placeOf_40 H locs ls hP hD hS (lv_sub hl [2, 3, 4, 0] rfl) (ho1_40 _ (Option.some.inj hf).symm)
        · have hf := ite_t hf k_68
          refine lv_iload hx hb dX7_leave_71 (lv_at hl 0 rfl) ?_
          refine lv_iload_n hx hb dX7_leave_73 rfl (lv_at hl 3 rfl) ?_
          refine lv_icmp_le (tgt := 90) hx hb dX7_leave_74 (by decide) (fun k_74 => ?_) (fun k_74 => ?_)
          · have hf := ite_t hf k_74
            refine lv_iinc (v := (l4_40 + 1)) (lv' := [(4, .int (l4_40 + 1)), (5, .int r_53), (0, .ref h_this), (2, .int r_5), (3, .int r_14)]) hx hb dX7_leave_90 hl (k := 4) rfl rfl (by decide) rfl (fun ls hl => ?_)
            refine lv_goto (tgt := 40) hx hb dX7_leave_93 (by decide) ?_
            exact ih_40 (l4_40 + 1) c_placeOf_40 H locs ls hP hD hS (lv_sub hl [2, 3, 4, 0] rfl) (ho1_40 _ (Option.some.inj hf).symm)
          · have hf := ite_f hf k_74
            refine lv_aload_n hx hb dX7_leave_77 rfl (lv_at hl 1 rfl) ?_
            refine va_get (D := (dC, dI)) (ci := 7) (v := .ref h_this_placeOf) (C := RX7) (T := TX7) (N := 3) hx hb hts in_X7_leave_X7 hown hK hP 0 rfl rfl 1 (by decide) (hts _ m_X7_leave_f15) (fun _ h9 => h9) rfl dX7_leave_78 ?_
            refine lv_iload hx hb dX7_leave_81 (lv_at hl 4 rfl) ?_
            refine lv_iload hx hb dX7_leave_83 (lv_at hl 0 rfl) ?_
            refine lv_iconst (v := 1) hx hb dX7_leave_85 (by decide) ?_
            refine lv_isub hx hb dX7_leave_86 ?_
            obtain ⟨c_placeOf_87, hv_87, hf⟩ := bd1_some hf
            refine kWv (rSN (host := "WovenRows") [.ref h_this_placeOf, .int l4_40, .int (r_53 - 1)] [] S (c_X10_put l dC dI cI cJ cZ h_this_placeOf H.size 10 c_placeOf_40 l4_40 (r_53 - 1) c_placeOf_87 hv_87) ⟨va_cnB 3 hts gX7_leave_X10_put_n62 rfl rfl rfl (hN.m 15 rfl) (hts _ m_X7_leave_iX10) (by decide +kernel) ⟨Nat.le_of_ble_eq_true rfl, Nat.le_of_ble_eq_true rfl⟩, hts _ m_X7_leave_st_X10_put, trivial⟩ hP hD hK hN [2] rfl (by decide +kernel) rfl hl.1 rfl (Nat.le_of_ble_eq_true rfl) dX7_leave_87 ⟨Nat.le_of_ble_eq_true rfl, Nat.le_of_ble_eq_true rfl⟩) hP hD hS hA [2] rfl rfl [none, none, some 0] (by decide +kernel) rfl (fun H locs hP hD hS => ?_)
            have hP : va_P (dC, dI) vwCl (w_X7_leave cI cJ cZ h_this h_this_rowOf h_this_placeOf c_rung c_rowOf_24 c_placeOf_87) H := hP
            have hD : va_D A (w_X7_leave cI cJ cZ h_this h_this_rowOf h_this_placeOf c_rung c_rowOf_24 c_placeOf_87) := hD
            refine lv_iinc (v := (l4_40 + 1)) (lv' := [(4, .int (l4_40 + 1)), (5, .int r_53), (0, .ref h_this), (2, .int r_5), (3, .int r_14)]) hx hb dX7_leave_90 hl (k := 4) rfl rfl (by decide) rfl (fun ls hl => ?_)
            refine lv_goto (tgt := 40) hx hb dX7_leave_93 (by decide) ?_
            exact ih_40 (l4_40 + 1) c_placeOf_87 H locs ls hP hD hS (lv_sub hl [2, 3, 4, 0] rfl) (ho1_40 _ (Option.some.inj hf).symm)
  exact L_40 FU 0 c_placeOf_34 H locs ls hP hD hS (lv_sub hl [3, 2, 1, 0] rfl) hq_40
abbrev w_X7_swap (cI cJ cZ : ClassId) (h_a0 : Nat) (n_a0 : Nat) (c_a0 : Nat → Int32) : va_W := [(h_a0, .inl (cI, n_a0, .inl c_a0))]
abbrev rm_X7_swap : Room := { frames := 1, cells := 0, slots := 0, locals := 22 }
theorem m_X7_swap_iX10 : (.initialized RX10 : Cond) ∈ wsX7_swap := by decide +kernel
theorem m_X7_swap_st_X10_at : (.static yX10_at : Cond) ∈ wsX7_swap := by decide +kernel
theorem m_X7_swap_st_X10_put : (.static yX10_put : Cond) ∈ wsX7_swap := by decide +kernel
set_option maxRecDepth 100000 in
set_option maxHeartbeats 4000000 in
theorem c_X7_swap (l : Launch) (dC : Nat → ClassId) (dI : Nat → Nat → Nat) (cI cJ cZ : ClassId) (h_a0 : Nat) (sz : Nat) (n_a0 : Nat) (c_a0 : Nat → Int32) (l1 : Int32) (l2 : Int32) (z_a0 : Nat → Int32) (hf : f_X7_swap n_a0 c_a0 l1 l2 = some z_a0) : Met l yX7_swap wsX7_swap rm_X7_swap (va_Pc [.ref h_a0, .int l1, .int l2] (PRE (dC, dI) (TY cI cJ cZ) sz (w_X7_swap cI cJ cZ h_a0 n_a0 c_a0))) (va_Qv (fun _ : Unit => True) (POW (dC, dI) (va_A (w_X7_swap cI cJ cZ h_a0 n_a0 c_a0) sz) (w_X7_swap cI cJ cZ h_a0 n_a0 z_a0)) (va_A (w_X7_swap cI cJ cZ h_a0 n_a0 c_a0) sz)) 0 0 (va_A (w_X7_swap cI cJ cZ h_a0 n_a0 c_a0) sz) := by
  refine ofWv (by decide +kernel) rfl (Nat.le_of_ble_eq_true rfl) ?_
  intro p e s m args below meth c Z A ls S hP hD hK hN hA hl hret
  obtain ⟨hx, hb, hml, hown, hts⟩ := id S
  have hown : s.vm.findClass RX7 = some m.cls := hown
  have hS : va_S A s.heap s.heap [] := va_S.rf
  have hl : lv_has ls 4 [(0, .ref h_a0), (1, .int l1), (2, .int l2)] := hl
  unfold f_X7_swap at hf
  refine lv_aload_n hx hb dX7_swap_0 rfl (lv_at hl 0 rfl) ?_
  refine lv_iload_n hx hb dX7_swap_1 rfl (lv_at hl 1 rfl) ?_
  obtain ⟨r_2, hv_2, hf⟩ := bd1_some hf
  refine kSi (rSN (host := "WovenRows") [.ref h_a0, .int l1] [] S (c_X10_at l dC dI cI cJ cZ h_a0 s.heap.size n_a0 c_a0 l1 r_2 hv_2) ⟨va_cnB 2 hts gX7_swap_X10_at_n30 rfl rfl rfl (hN.m 14 rfl) (hts _ m_X7_swap_iX10) (by decide +kernel) ⟨Nat.le_of_ble_eq_true rfl, Nat.le_of_ble_eq_true rfl⟩, hts _ m_X7_swap_st_X10_at, trivial⟩ hP hD hK hN [0] rfl (by decide +kernel) rfl hl.1 rfl (Nat.le_of_ble_eq_true rfl) dX7_swap_2 ⟨Nat.le_of_ble_eq_true rfl, Nat.le_of_ble_eq_true rfl⟩) ?_
  refine lv_istore_n (lv' := [(3, .int r_2), (0, .ref h_a0), (1, .int l1), (2, .int l2)]) hx hb dX7_swap_5 rfl hl (by decide) rfl (fun ls hl => ?_)
  refine lv_aload_n hx hb dX7_swap_6 rfl (lv_at hl 1 rfl) ?_
  refine lv_iload_n hx hb dX7_swap_7 rfl (lv_at hl 2 rfl) ?_
  refine lv_aload_n hx hb dX7_swap_8 rfl (lv_at hl 1 rfl) ?_
  refine lv_iload_n hx hb dX7_swap_9 rfl (lv_at hl 3 rfl) ?_
  obtain ⟨r_10, hv_10, hf⟩ := bd1_some hf
  refine kSi (rSN (host := "WovenRows") [.ref h_a0, .int l2] [.int l1, .ref h_a0] S (c_X10_at l dC dI cI cJ cZ h_a0 s.heap.size n_a0 c_a0 l2 r_10 hv_10) ⟨va_cnB 2 hts gX7_swap_X10_at_n30 rfl rfl rfl (hN.m 14 rfl) (hts _ m_X7_swap_iX10) (by decide +kernel) ⟨Nat.le_of_ble_eq_true rfl, Nat.le_of_ble_eq_true rfl⟩, hts _ m_X7_swap_st_X10_at, trivial⟩ hP hD hK hN [0] rfl (by decide +kernel) rfl hl.1 rfl (Nat.le_of_ble_eq_true rfl) dX7_swap_10 ⟨Nat.le_of_ble_eq_true rfl, Nat.le_of_ble_eq_true rfl⟩) ?_
  obtain ⟨c_a0_13, hv_13, hf⟩ := bd1_some hf
  refine kWv (rSN (host := "WovenRows") [.ref h_a0, .int l1, .int r_10] [] S (c_X10_put l dC dI cI cJ cZ h_a0 s.heap.size n_a0 c_a0 l1 r_10 c_a0_13 hv_13) ⟨va_cnB 3 hts gX7_swap_X10_put_n62 rfl rfl rfl (hN.m 15 rfl) (hts _ m_X7_swap_iX10) (by decide +kernel) ⟨Nat.le_of_ble_eq_true rfl, Nat.le_of_ble_eq_true rfl⟩, hts _ m_X7_swap_st_X10_put, trivial⟩ hP hD hK hN [0] rfl (by decide +kernel) rfl hl.1 rfl (Nat.le_of_ble_eq_true rfl) dX7_swap_13 ⟨Nat.le_of_ble_eq_true rfl, Nat.le_of_ble_eq_true rfl⟩) hP hD hS hA [0] rfl rfl [some 0] (by decide +kernel) rfl (fun H locs hP hD hS => ?_)
  have hP : va_P (dC, dI) vwCl (w_X7_swap cI cJ cZ h_a0 n_a0 c_a0_13) H := hP
  have hD : va_D A (w_X7_swap cI cJ cZ h_a0 n_a0 c_a0_13) := hD
  refine lv_aload_n hx hb dX7_swap_16 rfl (lv_at hl 1 rfl) ?_
  refine lv_iload_n hx hb dX7_swap_17 rfl (lv_at hl 3 rfl) ?_
  refine lv_iload_n hx hb dX7_swap_18 rfl (lv_at hl 0 rfl) ?_
  obtain ⟨c_a0_19, hv_19, hf⟩ := bd1_some hf
  refine kWv (rSN (host := "WovenRows") [.ref h_a0, .int l2, .int r_2] [] S (c_X10_put l dC dI cI cJ cZ h_a0 H.size n_a0 c_a0_13 l2 r_2 c_a0_19 hv_19) ⟨va_cnB 3 hts gX7_swap_X10_put_n62 rfl rfl rfl (hN.m 15 rfl) (hts _ m_X7_swap_iX10) (by decide +kernel) ⟨Nat.le_of_ble_eq_true rfl, Nat.le_of_ble_eq_true rfl⟩, hts _ m_X7_swap_st_X10_put, trivial⟩ hP hD hK hN [0] rfl (by decide +kernel) rfl hl.1 rfl (Nat.le_of_ble_eq_true rfl) dX7_swap_19 ⟨Nat.le_of_ble_eq_true rfl, Nat.le_of_ble_eq_true rfl⟩) hP hD hS hA [0] rfl rfl [some 0] (by decide +kernel) rfl (fun H locs hP hD hS => ?_)
  have hP : va_P (dC, dI) vwCl (w_X7_swap cI cJ cZ h_a0 n_a0 c_a0_19) H := hP
  have hD : va_D A (w_X7_swap cI cJ cZ h_a0 n_a0 c_a0_19) := hD
  have e_f := Option.some.inj hf
  cases e_f
  exact hret hP hD hS dX7_swap_22
abbrev w_X7_carryOut (cI cJ cZ : ClassId) (h_this h_this_rowOf h_this_placeOf : Nat) (c_rung : Int32) (c_rowOf : Nat → Int32) (c_placeOf : Nat → Int32) : va_W := [(h_this, .inr (7, [.ref h_this_rowOf, .ref h_this_placeOf, .int c_rung])), (h_this_rowOf, .inl (cI, 10, .inl c_rowOf)), (h_this_placeOf, .inl (cI, 10, .inl c_placeOf))]
abbrev rm_X7_carryOut : Room := { frames := 2, cells := 0, slots := 0, locals := 47 }
theorem m_X7_carryOut_f18 : (.fieldLink RX7 18 "WovenRows$Rows" "rung" "I" : Cond) ∈ wsX7_carryOut := by decide +kernel
theorem in_X7_carryOut_X7 : ∀ w ∈ u_ws RX7 TX7 3, w ∈ wsX7_carryOut := by decide +kernel
theorem m_X7_carryOut_f9 : (.fieldLink RX7 9 "WovenRows$Rows" "rowOf" "[I" : Cond) ∈ wsX7_carryOut := by decide +kernel
theorem m_X7_carryOut_f15 : (.fieldLink RX7 15 "WovenRows$Rows" "placeOf" "[I" : Cond) ∈ wsX7_carryOut := by decide +kernel
set_option maxRecDepth 100000 in
set_option maxHeartbeats 4000000 in
theorem c_X7_carryOut (l : Launch) (dC : Nat → ClassId) (dI : Nat → Nat → Nat) (cI cJ cZ : ClassId) (h_this h_this_rowOf h_this_placeOf : Nat) (sz : Nat) (c_rung : Int32) (c_rowOf : Nat → Int32) (c_placeOf : Nat → Int32) (l1 : Int32) (l2 : Int32) (l3 : Int32) (z_rung : Int32) (z_rowOf : Nat → Int32) (z_placeOf : Nat → Int32) (hf : f_X7_carryOut c_rung c_rowOf c_placeOf l1 l2 l3 = some (z_rung, z_rowOf, z_placeOf)) : Met l yX7_carryOut wsX7_carryOut rm_X7_carryOut (va_Pc [.ref h_this, .int l1, .int l2, .int l3] (PRE (dC, dI) (TY cI cJ cZ) sz (w_X7_carryOut cI cJ cZ h_this h_this_rowOf h_this_placeOf c_rung c_rowOf c_placeOf))) (va_Qv (fun _ : Unit => True) (POW (dC, dI) (va_A (w_X7_carryOut cI cJ cZ h_this h_this_rowOf h_this_placeOf c_rung c_rowOf c_placeOf) sz) (w_X7_carryOut cI cJ cZ h_this h_this_rowOf h_this_placeOf z_rung z_rowOf z_placeOf)) (va_A (w_X7_carryOut cI cJ cZ h_this h_this_rowOf h_this_placeOf c_rung c_rowOf c_placeOf) sz)) 0 0 (va_A (w_X7_carryOut cI cJ cZ h_this h_this_rowOf h_this_placeOf c_rung c_rowOf c_placeOf) sz) := by
  refine ofWv (by decide +kernel) rfl (Nat.le_of_ble_eq_true rfl) ?_
  intro p e s m args below meth c Z A ls S hP hD hK hN hA hl hret
  obtain ⟨hx, hb, hml, hown, hts⟩ := id S
  have hown : s.vm.findClass RX7 = some m.cls := hown
  have hS : va_S A s.heap s.heap [] := va_S.rf
  have hl : lv_has ls 4 [(0, .ref h_this), (1, .int l1), (2, .int l2), (3, .int l3)] := hl
  unfold f_X7_carryOut at hf
  refine lv_iload_n hx hb dX7_carryOut_0 rfl (lv_at hl 1 rfl) ?_
  by_cases k_1_0 : l1 = 45
  · have hf := ite_t hf k_1_0
    refine lv_lookup (off := 61) (tgt := 62) hx hb dX7_carryOut_1 (by decide) (by rw [k_1_0]; decide) (by decide) ?_
    refine lv_aload_n hx hb dX7_carryOut_62 rfl (lv_at hl 0 rfl) ?_
    refine lv_iload_n hx hb dX7_carryOut_63 rfl (lv_at hl 2 rfl) ?_
    obtain ⟨c_rowOf_64, c_placeOf_64, hv_64, hf⟩ := bd2_some hf
    refine kWv (rV (C := RX7) [.int l2] [] S (c_X7_leave l dC dI cI cJ cZ h_this h_this_rowOf h_this_placeOf s.heap.size c_rung c_rowOf c_placeOf l2 c_rowOf_64 c_placeOf_64 hv_64) (cwV 1 hts gX7_carryOut_X7_leave rfl rfl rfl (by decide +kernel) ⟨Nat.le_of_ble_eq_true rfl, Nat.le_of_ble_eq_true rfl⟩) (va_recv hK hP (ci := 7) (q0 := 0) rfl rfl) hP hD hK hN [0, 1, 2] rfl (by decide +kernel) rfl hl.1 rfl (Nat.le_of_ble_eq_true rfl) dX7_carryOut_64 ⟨Nat.le_of_ble_eq_true rfl, Nat.le_of_ble_eq_true rfl⟩) hP hD hS hA [0, 1, 2] rfl rfl [some 0, some 1, some 2] (by decide +kernel) rfl (fun H locs hP hD hS => ?_)
    have hP : va_P (dC, dI) vwCl (w_X7_carryOut cI cJ cZ h_this h_this_rowOf h_this_placeOf c_rung c_rowOf_64 c_placeOf_64) H := hP
    have hD : va_D A (w_X7_carryOut cI cJ cZ h_this h_this_rowOf h_this_placeOf c_rung c_rowOf_64 c_placeOf_64) := hD
    refine lv_goto (tgt := 101) hx hb dX7_carryOut_67 (by decide) ?_
    have e_f := Option.some.inj hf
    cases e_f
    exact hret hP hD hS dX7_carryOut_101
  have hf := ite_f hf k_1_0
  have k_1_0 := sw_ne (z := 45) (by decide) k_1_0
  by_cases k_1_1 : l1 = 100
  · have hf := ite_t hf k_1_1
    refine lv_lookup (off := 43) (tgt := 44) hx hb dX7_carryOut_1 (by decide) (by rw [k_1_1]; decide) (by decide) ?_
    refine lv_aload_n hx hb dX7_carryOut_44 rfl (lv_at hl 0 rfl) ?_
    refine lv_iload_n hx hb dX7_carryOut_45 rfl (lv_at hl 2 rfl) ?_
    refine lv_iconst (v := 0) hx hb dX7_carryOut_46 (by decide) ?_
    obtain ⟨c_rowOf_47, c_placeOf_47, hv_47, hf⟩ := bd2_some hf
    refine kWv (rV (C := RX7) [.int l2, .int 0] [] S (c_X7_join l dC dI cI cJ cZ h_this h_this_rowOf h_this_placeOf s.heap.size c_rung c_rowOf c_placeOf l2 0 c_rowOf_47 c_placeOf_47 hv_47) (cwV 2 hts gX7_carryOut_X7_join rfl rfl rfl (by decide +kernel) ⟨Nat.le_of_ble_eq_true rfl, Nat.le_of_ble_eq_true rfl⟩) (va_recv hK hP (ci := 7) (q0 := 0) rfl rfl) hP hD hK hN [0, 1, 2] rfl (by decide +kernel) rfl hl.1 rfl (Nat.le_of_ble_eq_true rfl) dX7_carryOut_47 ⟨Nat.le_of_ble_eq_true rfl, Nat.le_of_ble_eq_true rfl⟩) hP hD hS hA [0, 1, 2] rfl rfl [some 0, some 1, some 2] (by decide +kernel) rfl (fun H locs hP hD hS => ?_)
    have hP : va_P (dC, dI) vwCl (w_X7_carryOut cI cJ cZ h_this h_this_rowOf h_this_placeOf c_rung c_rowOf_47 c_placeOf_47) H := hP
    have hD : va_D A (w_X7_carryOut cI cJ cZ h_this h_this_rowOf h_this_placeOf c_rung c_rowOf_47 c_placeOf_47) := hD
    refine lv_goto (tgt := 101) hx hb dX7_carryOut_50 (by decide) ?_
    have e_f := Option.some.inj hf
    cases e_f
    exact hret hP hD hS dX7_carryOut_101
  have hf := ite_f hf k_1_1
  have k_1_1 := sw_ne (z := 100) (by decide) k_1_1
  by_cases k_1_2 : l1 = 117
  · have hf := ite_t hf k_1_2
    refine lv_lookup (off := 52) (tgt := 53) hx hb dX7_carryOut_1 (by decide) (by rw [k_1_2]; decide) (by decide) ?_
    refine lv_aload_n hx hb dX7_carryOut_53 rfl (lv_at hl 0 rfl) ?_
    refine lv_iload_n hx hb dX7_carryOut_54 rfl (lv_at hl 2 rfl) ?_
    refine lv_iconst (v := 1) hx hb dX7_carryOut_55 (by decide) ?_
    obtain ⟨c_rowOf_56, c_placeOf_56, hv_56, hf⟩ := bd2_some hf
    refine kWv (rV (C := RX7) [.int l2, .int 1] [] S (c_X7_join l dC dI cI cJ cZ h_this h_this_rowOf h_this_placeOf s.heap.size c_rung c_rowOf c_placeOf l2 1 c_rowOf_56 c_placeOf_56 hv_56) (cwV 2 hts gX7_carryOut_X7_join rfl rfl rfl (by decide +kernel) ⟨Nat.le_of_ble_eq_true rfl, Nat.le_of_ble_eq_true rfl⟩) (va_recv hK hP (ci := 7) (q0 := 0) rfl rfl) hP hD hK hN [0, 1, 2] rfl (by decide +kernel) rfl hl.1 rfl (Nat.le_of_ble_eq_true rfl) dX7_carryOut_56 ⟨Nat.le_of_ble_eq_true rfl, Nat.le_of_ble_eq_true rfl⟩) hP hD hS hA [0, 1, 2] rfl rfl [some 0, some 1, some 2] (by decide +kernel) rfl (fun H locs hP hD hS => ?_)
    have hP : va_P (dC, dI) vwCl (w_X7_carryOut cI cJ cZ h_this h_this_rowOf h_this_placeOf c_rung c_rowOf_56 c_placeOf_56) H := hP
    have hD : va_D A (w_X7_carryOut cI cJ cZ h_this h_this_rowOf h_this_placeOf c_rung c_rowOf_56 c_placeOf_56) := hD
    refine lv_goto (tgt := 101) hx hb dX7_carryOut_59 (by decide) ?_
    have e_f := Option.some.inj hf
    cases e_f
    exact hret hP hD hS dX7_carryOut_101
  have hf := ite_f hf k_1_2
  have k_1_2 := sw_ne (z := 117) (by decide) k_1_2
  by_cases k_1_3 : l1 = 120
  · have hf := ite_t hf k_1_3
    refine lv_lookup (off := 69) (tgt := 70) hx hb dX7_carryOut_1 (by decide) (by rw [k_1_3]; decide) (by decide) ?_
    refine lv_aload_n hx hb dX7_carryOut_70 rfl (lv_at hl 0 rfl) ?_
    refine va_get (D := (dC, dI)) (ci := 7) (v := .ref h_this_rowOf) (C := RX7) (T := TX7) (N := 3) hx hb hts in_X7_carryOut_X7 hown hK hP 0 rfl rfl 0 (by decide) (hts _ m_X7_carryOut_f9) (fun _ h9 => h9) rfl dX7_carryOut_71 ?_
    refine lv_iload_n hx hb dX7_carryOut_74 rfl (lv_at hl 2 rfl) ?_
    refine lv_iload_n hx hb dX7_carryOut_75 rfl (lv_at hl 3 rfl) ?_
    obtain ⟨c_rowOf_76, hv_76, hf⟩ := bd1_some hf
    refine kWv (rS [.ref h_this_rowOf, .int l2, .int l3] [] S (c_X7_swap l dC dI cI cJ cZ h_this_rowOf s.heap.size 10 c_rowOf l2 l3 c_rowOf_76 hv_76) (va_cwS 3 hts gX7_carryOut_X7_swap rfl rfl rfl (by decide +kernel) ⟨Nat.le_of_ble_eq_true rfl, Nat.le_of_ble_eq_true rfl⟩) hP hD hK hN [1] rfl (by decide +kernel) rfl hl.1 rfl (Nat.le_of_ble_eq_true rfl) dX7_carryOut_76 ⟨Nat.le_of_ble_eq_true rfl, Nat.le_of_ble_eq_true rfl⟩) hP hD hS hA [1] rfl rfl [none, some 0, none] (by decide +kernel) rfl (fun H locs hP hD hS => ?_)
    have hP : va_P (dC, dI) vwCl (w_X7_carryOut cI cJ cZ h_this h_this_rowOf h_this_placeOf c_rung c_rowOf_76 c_placeOf) H := hP
    have hD : va_D A (w_X7_carryOut cI cJ cZ h_this h_this_rowOf h_this_placeOf c_rung c_rowOf_76 c_placeOf) := hD
    refine lv_aload_n hx hb dX7_carryOut_79 rfl (lv_at hl 0 rfl) ?_
    refine va_get (D := (dC, dI)) (ci := 7) (v := .ref h_this_placeOf) (C := RX7) (T := TX7) (N := 3) hx hb hts in_X7_carryOut_X7 hown hK hP 0 rfl rfl 1 (by decide) (hts _ m_X7_carryOut_f15) (fun _ h9 => h9) rfl dX7_carryOut_80 ?_
    refine lv_iload_n hx hb dX7_carryOut_83 rfl (lv_at hl 2 rfl) ?_
    refine lv_iload_n hx hb dX7_carryOut_84 rfl (lv_at hl 3 rfl) ?_
    obtain ⟨c_placeOf_85, hv_85, hf⟩ := bd1_some hf
    refine kWv (rS [.ref h_this_placeOf, .int l2, .int l3] [] S (c_X7_swap l dC dI cI cJ cZ h_this_placeOf H.size 10 c_placeOf l2 l3 c_placeOf_85 hv_85) (va_cwS 3 hts gX7_carryOut_X7_swap rfl rfl rfl (by decide +kernel) ⟨Nat.le_of_ble_eq_true rfl, Nat.le_of_ble_eq_true rfl⟩) hP hD hK hN [2] rfl (by decide +kernel) rfl hl.1 rfl (Nat.le_of_ble_eq_true rfl) dX7_carryOut_85 ⟨Nat.le_of_ble_eq_true rfl, Nat.le_of_ble_eq_true rfl⟩) hP hD hS hA [2] rfl rfl [none, none, some 0] (by decide +kernel) rfl (fun H locs hP hD hS => ?_)
    have hP : va_P (dC, dI) vwCl (w_X7_carryOut cI cJ cZ h_this h_this_rowOf h_this_placeOf c_rung c_rowOf_76 c_placeOf_85) H := hP
    have hD : va_D A (w_X7_carryOut cI cJ cZ h_this h_this_rowOf h_this_placeOf c_rung c_rowOf_76 c_placeOf_85) := hD
    refine lv_goto (tgt := 101) hx hb dX7_carryOut_88 (by decide) ?_
    have e_f := Option.some.inj hf
    cases e_f
    exact hret hP hD hS dX7_carryOut_101
  have hf := ite_f hf k_1_3
  have k_1_3 := sw_ne (z := 120) (by decide) k_1_3
  refine lv_lookup (off := 90) (tgt := 91) hx hb dX7_carryOut_1 (by decide) (by simp [Op.lookupswitch.offset]; rw [if_neg (by omega), if_neg (by omega), if_neg (by omega), if_neg (by omega)]) (by decide) ?_
  refine lv_aload_n hx hb dX7_carryOut_91 rfl (lv_at hl 0 rfl) ?_
  refine lv_dup hx hb dX7_carryOut_92 rfl ?_
  refine va_get (D := (dC, dI)) (ci := 7) (v := .int c_rung) (C := RX7) (T := TX7) (N := 3) hx hb hts in_X7_carryOut_X7 hown hK hP 0 rfl rfl 2 (by decide) (hts _ m_X7_carryOut_f18) (fun _ h9 => h9) rfl dX7_carryOut_93 ?_
  refine lv_iconst (v := 1) hx hb dX7_carryOut_96 (by decide) ?_
  refine lv_iadd hx hb dX7_carryOut_97 ?_
  refine va_put (D := (dC, dI)) (ci := 7) (v := .int (c_rung + 1)) (ty := .int) (C := RX7) (T := TX7) (N := 3) hx hb hts in_X7_carryOut_X7 tyX7 tyX7_ok nmX7 hown hK hP hD hS 0 rfl rfl 2 (by decide) (hts _ m_X7_carryOut_f18) (fun _ h9 => h9) rfl (by decide +kernel) rfl rfl (Nat.le_of_ble_eq_true rfl) dX7_carryOut_98 (fun H locs hP hD hS => ?_)
  have hP : va_P (dC, dI) vwCl (w_X7_carryOut cI cJ cZ h_this h_this_rowOf h_this_placeOf (c_rung + 1) c_rowOf c_placeOf) H := hP
  have hD : va_D A (w_X7_carryOut cI cJ cZ h_this h_this_rowOf h_this_placeOf (c_rung + 1) c_rowOf c_placeOf) := hD
  have e_f := Option.some.inj hf
  cases e_f
  exact hret hP hD hS dX7_carryOut_101
abbrev w_X7_attempt (cI cJ cZ : ClassId) (h_this h_this_rowOf h_this_placeOf : Nat) (c_rung : Int32) (c_rowOf : Nat → Int32) (c_placeOf : Nat → Int32) : va_W := [(h_this, .inr (7, [.ref h_this_rowOf, .ref h_this_placeOf, .int c_rung])), (h_this_rowOf, .inl (cI, 10, .inl c_rowOf)), (h_this_placeOf, .inl (cI, 10, .inl c_placeOf))]
abbrev rm_X7_attempt : Room := { frames := 3, cells := 0, slots := 0, locals := 70 }
set_option maxRecDepth 100000 in
set_option maxHeartbeats 4000000 in
theorem c_X7_attempt (l : Launch) (dC : Nat → ClassId) (dI : Nat → Nat → Nat) (cI cJ cZ : ClassId) (h_this h_this_rowOf h_this_placeOf : Nat) (sz : Nat) (c_rung : Int32) (c_rowOf : Nat → Int32) (c_placeOf : Nat → Int32) (l1 : Int32) (l2 : Int32) (l3 : Int32) (r : Int32) (z_rung : Int32) (z_rowOf : Nat → Int32) (z_placeOf : Nat → Int32) (hf : f_X7_attempt c_rung c_rowOf c_placeOf l1 l2 l3 = some (r, z_rung, z_rowOf, z_placeOf)) : Met l yX7_attempt wsX7_attempt rm_X7_attempt (va_Pc [.ref h_this, .int l1, .int l2, .int l3] (PRE (dC, dI) (TY cI cJ cZ) sz (w_X7_attempt cI cJ cZ h_this h_this_rowOf h_this_placeOf c_rung c_rowOf c_placeOf))) (va_Qi (fun r' (_ : Unit) => r' = r) (POW (dC, dI) (va_A (w_X7_attempt cI cJ cZ h_this h_this_rowOf h_this_placeOf c_rung c_rowOf c_placeOf) sz) (w_X7_attempt cI cJ cZ h_this h_this_rowOf h_this_placeOf z_rung z_rowOf z_placeOf)) (va_A (w_X7_attempt cI cJ cZ h_this h_this_rowOf h_this_placeOf c_rung c_rowOf c_placeOf) sz)) 0 0 (va_A (w_X7_attempt cI cJ cZ h_this h_this_rowOf h_this_placeOf c_rung c_rowOf c_placeOf) sz) := by
  refine ofWi (ty := .int) (by decide +kernel) rfl (Nat.le_of_ble_eq_true rfl) ?_
  intro p e s m args below meth c Z A ls S hP hD hK hN hA hl hret
  obtain ⟨hx, hb, hml, hown, hts⟩ := id S
  have hown : s.vm.findClass RX7 = some m.cls := hown
  have hS : va_S A s.heap s.heap [] := va_S.rf
  have hl : lv_has ls 5 [(0, .ref h_this), (1, .int l1), (2, .int l2), (3, .int l3)] := hl
  unfold f_X7_attempt at hf
  refine lv_aload_n hx hb dX7_attempt_0 rfl (lv_at hl 0 rfl) ?_
  refine lv_iload_n hx hb dX7_attempt_1 rfl (lv_at hl 1 rfl) ?_
  refine lv_iload_n hx hb dX7_attempt_2 rfl (lv_at hl 2 rfl) ?_
  refine lv_iload_n hx hb dX7_attempt_3 rfl (lv_at hl 3 rfl) ?_
  obtain ⟨r_4, hv_4, hf⟩ := bd1_some hf
  refine kSi (rV (C := RX7) [.int l1, .int l2, .int l3] [] S (c_X7_reasonAgainst l dC dI cI cJ cZ h_this h_this_rowOf h_this_placeOf s.heap.size c_rung c_rowOf l1 l2 l3 r_4 hv_4) (cwV 3 hts gX7_attempt_X7_reasonAgainst rfl rfl rfl (by decide +kernel) ⟨Nat.le_of_ble_eq_true rfl, Nat.le_of_ble_eq_true rfl⟩) (va_recv hK hP (ci := 7) (q0 := 0) rfl rfl) hP hD hK hN [0, 1] rfl (by decide +kernel) rfl hl.1 rfl (Nat.le_of_ble_eq_true rfl) dX7_attempt_4 ⟨Nat.le_of_ble_eq_true rfl, Nat.le_of_ble_eq_true rfl⟩) ?_
  refine lv_istore (lv' := [(4, .int r_4), (0, .ref h_this), (1, .int l1), (2, .int l2), (3, .int l3)]) hx hb dX7_attempt_7 hl (by decide) rfl (fun ls hl => ?_)
  refine lv_iload hx hb dX7_attempt_9 (lv_at hl 0 rfl) ?_
  refine lv_if_ne (tgt := 21) hx hb dX7_attempt_11 (by decide) (fun k_11 => ?_) (fun k_11 => ?_)
  · have hf := ite_f hf k_11
    refine lv_iload hx hb dX7_attempt_21 (lv_at hl 0 rfl) ?_
    have e_f := Option.some.inj hf
    cases e_f
    exact hret rfl hP hD hS dX7_attempt_23
  · have hf := ite_t hf k_11
    refine lv_aload_n hx hb dX7_attempt_14 rfl (lv_at hl 1 rfl) ?_
    refine lv_iload_n hx hb dX7_attempt_15 rfl (lv_at hl 2 rfl) ?_
    refine lv_iload_n hx hb dX7_attempt_16 rfl (lv_at hl 3 rfl) ?_
    refine lv_iload_n hx hb dX7_attempt_17 rfl (lv_at hl 4 rfl) ?_
    obtain ⟨c_rung_18, c_rowOf_18, c_placeOf_18, hv_18, hf⟩ := bd3_some hf
    refine kWv (rV (C := RX7) [.int l1, .int l2, .int l3] [] S (c_X7_carryOut l dC dI cI cJ cZ h_this h_this_rowOf h_this_placeOf s.heap.size c_rung c_rowOf c_placeOf l1 l2 l3 c_rung_18 c_rowOf_18 c_placeOf_18 hv_18) (cwV 3 hts gX7_attempt_X7_carryOut rfl rfl rfl (by decide +kernel) ⟨Nat.le_of_ble_eq_true rfl, Nat.le_of_ble_eq_true rfl⟩) (va_recv hK hP (ci := 7) (q0 := 0) rfl rfl) hP hD hK hN [0, 1, 2] rfl (by decide +kernel) rfl hl.1 rfl (Nat.le_of_ble_eq_true rfl) dX7_attempt_18 ⟨Nat.le_of_ble_eq_true rfl, Nat.le_of_ble_eq_true rfl⟩) hP hD hS hA [0, 1, 2] rfl rfl [some 0, some 1, some 2] (by decide +kernel) rfl (fun H locs hP hD hS => ?_)
    have hP : va_P (dC, dI) vwCl (w_X7_attempt cI cJ cZ h_this h_this_rowOf h_this_placeOf c_rung_18 c_rowOf_18 c_placeOf_18) H := hP
    have hD : va_D A (w_X7_attempt cI cJ cZ h_this h_this_rowOf h_this_placeOf c_rung_18 c_rowOf_18 c_placeOf_18) := hD
    refine lv_iload hx hb dX7_attempt_21 (lv_at hl 0 rfl) ?_
    have e_f := Option.some.inj hf
    cases e_f
    exact hret rfl hP hD hS dX7_attempt_23
abbrev w_X7_drawnKind : va_W := []
abbrev rm_X7_drawnKind : Room := { frames := 0, cells := 0, slots := 0, locals := 0 }
theorem m_X7_drawnKind_f72 : (.fieldLink RX7 72 "WovenRows$Rows" "DRAWN" "[C" : Cond) ∈ wsX7_drawnKind := by decide +kernel
set_option maxRecDepth 100000 in
set_option maxHeartbeats 4000000 in
theorem c_X7_drawnKind (l : Launch) (dC : Nat → ClassId) (dI : Nat → Nat → Nat) (cI cJ cZ : ClassId) (tb : Nat) (sz : Nat) (l0 : Int32) (r : Int32) (hf : f_X7_drawnKind l0 = some r) : Met l yX7_drawnKind wsX7_drawnKind rm_X7_drawnKind (va_Pc [.int l0] (PREt (dC, dI) (TY cI cJ cZ) sz w_X7_drawnKind tb)) (vp_Si (fun r' => r' = r)) 0 0 (fun _ => False) := by
  refine ofSiT (ty := .int) (by decide +kernel) rfl (Nat.le_of_ble_eq_true rfl) ?_
  intro p e s m args below meth c Z A ls S hP hD hK hN hTab hl hret
  obtain ⟨hZ, hT⟩ := id hTab
  have hS : va_S A s.heap s.heap [] := va_S.rf
  obtain ⟨hx, hb, hml, hown, hts⟩ := id S
  have hown : s.vm.findClass RX7 = some m.cls := hown
  have hl : lv_has ls 1 [(0, .int l0)] := hl
  unfold f_X7_drawnKind at hf
  refine lv_iload_n hx hb dX7_drawnKind_0 rfl (lv_at hl 0 rfl) ?_
  refine lv_if_lt (tgt := 20) hx hb dX7_drawnKind_1 (by decide) (fun k_1 => ?_) (fun k_1 => ?_)
  · have hf := ite_t hf k_1
    refine lv_bipush (v := 33) hx hb dX7_drawnKind_20 (by decide) ?_
    have e_f := Option.some.inj hf
    cases e_f
    exact hret rfl dX7_drawnKind_22
  · have hf := ite_f hf k_1
    refine lv_iload_n hx hb dX7_drawnKind_4 rfl (lv_at hl 0 rfl) ?_
    refine va_gets hx hb hZ hS hown (hts _ m_X7_drawnKind_f72) (fun _ h9 => h9) dX7_drawnKind_5 ?_
    refine va_tlen (v := 8) hx hb hT hS (by decide) dX7_drawnKind_8 ?_
    refine lv_icmp_ge (tgt := 20) hx hb dX7_drawnKind_9 (by decide) (fun k_9 => ?_) (fun k_9 => ?_)
    · have hf := ite_t hf k_9
      refine lv_bipush (v := 33) hx hb dX7_drawnKind_20 (by decide) ?_
      have e_f := Option.some.inj hf
      cases e_f
      exact hret rfl dX7_drawnKind_22
    · have hf := ite_f hf k_9
      refine va_gets hx hb hZ hS hown (hts _ m_X7_drawnKind_f72) (fun _ h9 => h9) dX7_drawnKind_12 ?_
      refine lv_iload_n hx hb dX7_drawnKind_15 rfl (lv_at hl 0 rfl) ?_
      obtain ⟨g_16, hf⟩ := gd_some hf
      refine va_tc hx hb hT hS g_16 rfl dX7_drawnKind_16 ?_
      refine lv_goto (tgt := 22) hx hb dX7_drawnKind_17 (by decide) ?_
      have e_f := Option.some.inj hf
      cases e_f
      exact hret rfl dX7_drawnKind_22
abbrev w_X7_drawYear (cI cJ cZ : ClassId) (h_this h_this_rowOf h_this_placeOf : Nat) (c_rung : Int32) (c_rowOf : Nat → Int32) (c_placeOf : Nat → Int32) : va_W := [(h_this, .inr (7, [.ref h_this_rowOf, .ref h_this_placeOf, .int c_rung])), (h_this_rowOf, .inl (cI, 10, .inl c_rowOf)), (h_this_placeOf, .inl (cI, 10, .inl c_placeOf))]
abbrev rm_X7_drawYear : Room := { frames := 4, cells := 0, slots := 0, locals := 94 }
theorem m_X7_drawYear_k65 : (.constant RX7 65 (65537) : Cond) ∈ wsX7_drawYear := by decide +kernel
set_option maxRecDepth 100000 in
set_option maxHeartbeats 4000000 in
theorem c_X7_drawYear (l : Launch) (dC : Nat → ClassId) (dI : Nat → Nat → Nat) (cI cJ cZ : ClassId) (tb : Nat) (h_this h_this_rowOf h_this_placeOf : Nat) (sz : Nat) (c_rung : Int32) (c_rowOf : Nat → Int32) (c_placeOf : Nat → Int32) (l1 : Int32) (l2 : Int32) (z_rung : Int32) (z_rowOf : Nat → Int32) (z_placeOf : Nat → Int32) (hf : f_X7_drawYear c_rung c_rowOf c_placeOf l1 l2 = some (z_rung, z_rowOf, z_placeOf)) : Met l yX7_drawYear wsX7_drawYear rm_X7_drawYear (va_Pc [.ref h_this, .int l1, .int l2] (PREt (dC, dI) (TY cI cJ cZ) sz (w_X7_drawYear cI cJ cZ h_this h_this_rowOf h_this_placeOf c_rung c_rowOf c_placeOf) tb)) (va_Qv (fun _ : Unit => True) (POW (dC, dI) (va_A (w_X7_drawYear cI cJ cZ h_this h_this_rowOf h_this_placeOf c_rung c_rowOf c_placeOf) sz) (w_X7_drawYear cI cJ cZ h_this h_this_rowOf h_this_placeOf z_rung z_rowOf z_placeOf)) (va_A (w_X7_drawYear cI cJ cZ h_this h_this_rowOf h_this_placeOf c_rung c_rowOf c_placeOf) sz)) 0 0 (va_A (w_X7_drawYear cI cJ cZ h_this h_this_rowOf h_this_placeOf c_rung c_rowOf c_placeOf) sz) := by
  refine ofWvT (by decide +kernel) rfl (Nat.le_of_ble_eq_true rfl) ?_
  intro p e s m args below meth c Z A ls S hP hD hK hN hA hTab hl hret
  obtain ⟨hZ, hT⟩ := id hTab
  obtain ⟨hx, hb, hml, hown, hts⟩ := id S
  have hown : s.vm.findClass RX7 = some m.cls := hown
  have hS : va_S A s.heap s.heap [] := va_S.rf
  have hl : lv_has ls 5 [(0, .ref h_this), (1, .int l1), (2, .int l2)] := hl
  unfold f_X7_drawYear at hf
  refine lv_iload_n hx hb dX7_drawYear_0 rfl (lv_at hl 1 rfl) ?_
  refine lv_istore_n (lv' := [(3, .int l1), (0, .ref h_this), (1, .int l1), (2, .int l2)]) hx hb dX7_drawYear_1 rfl hl (by decide) rfl (fun ls hl => ?_)
  refine lv_iconst (v := 0) hx hb dX7_drawYear_2 (by decide) ?_
  refine lv_istore (lv' := [(4, .int 0), (3, .int l1), (0, .ref h_this), (1, .int l1), (2, .int l2)]) hx hb dX7_drawYear_3 hl (by decide) rfl (fun ls hl => ?_)
  obtain ⟨l3_5x, l4_5x, c_rung_5x, c_rowOf_5x, c_placeOf_5x, hq_5, hf⟩ := bd5_some hf
  have K_5 : ∀ (H : Heap) (locs : List Loc) (ls : Array Slot), va_P (dC, dI) vwCl (w_X7_drawYear cI cJ cZ h_this h_this_rowOf h_this_placeOf c_rung_5x c_rowOf_5x c_placeOf_5x) H → va_D A (w_X7_drawYear cI cJ cZ h_this h_this_rowOf h_this_placeOf c_rung_5x c_rowOf_5x c_placeOf_5x) → va_S A s.heap H locs → lv_has ls 5 [] → W p l e rm_X7_drawYear s m args below meth c H locs 0 0 Z (F0 m 54 ls []) := by
    intro H locs ls hP hD hS hl
    have e_f := Option.some.inj hf
    cases e_f
    exact hret hP hD hS dX7_drawYear_54
  have L_5 : ∀ (n : Nat) (l3_5 : Int32) (l4_5 : Int32) (c_rung_5 : Int32) (c_rowOf_5 : Nat → Int32) (c_placeOf_5 : Nat → Int32) (H : Heap) (locs : List Loc) (ls : Array Slot), va_P (dC, dI) vwCl (w_X7_drawYear cI cJ cZ h_this h_this_rowOf h_this_placeOf c_rung_5 c_rowOf_5 c_placeOf_5) H → va_D A (w_X7_drawYear cI cJ cZ h_this h_this_rowOf h_this_placeOf c_rung_5 c_rowOf_5 c_placeOf_5) → va_S A s.heap H locs → lv_has ls 5 [(0, .ref h_this), (2, .int l2), (3, .int l3_5), (4, .int l4_5)] → loopN (fun (q : Int32 × Int32 × Int32 × (Nat → Int32) × (Nat → Int32)) => f_X7_drawYear_b5 l2 q.1 q.2.1 q.2.2.1 q.2.2.2.1 q.2.2.2.2) n (l3_5, l4_5, c_rung_5, c_rowOf_5, c_placeOf_5) = some (l3_5x, l4_5x, c_rung_5x, c_rowOf_5x, c_placeOf_5x) → W p l e rm_X7_drawYear s m args below meth c H locs 0 0 Z (F0 m 5 ls []) := by
    intro n
    induction n with
    | zero => intro l3_5 l4_5 c_rung_5 c_rowOf_5 c_placeOf_5 H locs ls hP hD hS hl hq; exact (loopN_zero hq).elim
    | succ n ih_5 =>
      intro l3_5 l4_5 c_rung_5 c_rowOf_5 c_placeOf_5 H locs ls hP hD hS hl hq
      obtain ⟨o_5, hf, ho1_5, ho2_5⟩ := loopN_step hq
      have hf : f_X7_drawYear_b5 l2 l3_5 l4_5 c_rung_5 c_rowOf_5 c_placeOf_5 = some o_5 := hf
      unfold f_X7_drawYear_b5 at hf
      refine lv_iload hx hb dX7_drawYear_5 (lv_at hl 3 rfl) ?_
      refine lv_iload_n hx hb dX7_drawYear_7 rfl (lv_at hl 1 rfl) ?_
      refine lv_icmp_ge (tgt := 54) hx hb dX7_drawYear_8 (by decide) (fun k_8 => ?_) (fun k_8 => ?_)
      · have hf := ite_t hf k_8
        have e_5 := ho2_5 _ (Option.some.inj hf).symm
        cases e_5
        exact K_5 H locs ls hP hD hS (lv_sub hl [] rfl)
      · have hf := ite_f hf k_8
        refine lv_bipush (v := 75) hx hb dX7_drawYear_11 (by decide) ?_
        refine lv_iload_n hx hb dX7_drawYear_13 rfl (lv_at hl 2 rfl) ?_
        refine lv_imul hx hb dX7_drawYear_14 ?_
        refine lv_bipush (v := 74) hx hb dX7_drawYear_15 (by decide) ?_
        refine lv_iadd hx hb dX7_drawYear_17 ?_
        refine lv_ldc (v := 65537) hx hb hown (hts _ m_X7_drawYear_k65) dX7_drawYear_18 ?_
        refine lv_irem hx hb dX7_drawYear_20 (by decide) ?_
        obtain ⟨l3_21s, e_l3_21s, hf⟩ := nmv_some hf
        refine tpi e_l3_21s ?_
        refine lv_istore_n (lv' := [(3, .int l3_21s), (0, .ref h_this), (2, .int l2), (4, .int l4_5)]) hx hb dX7_drawYear_21 rfl hl (by decide) rfl (fun ls hl => ?_)
        refine lv_aload_n hx hb dX7_drawYear_22 rfl (lv_at hl 1 rfl) ?_
        refine lv_iload_n hx hb dX7_drawYear_23 rfl (lv_at hl 0 rfl) ?_
        refine lv_bipush (v := 10) hx hb dX7_drawYear_24 (by decide) ?_
        refine lv_idiv hx hb dX7_drawYear_26 (by decide) ?_
        refine lv_bipush (v := 8) hx hb dX7_drawYear_27 (by decide) ?_
        refine lv_irem hx hb dX7_drawYear_29 (by decide) ?_
        obtain ⟨r_30, hv_30, hf⟩ := bd1_some hf
        refine kSi (rST hTab hS hA [.int ((l3_21s / 10) - ((l3_21s / 10) / 8) * 8)] [.ref h_this] S (c_X7_drawnKind l dC dI cI cJ cZ tb H.size ((l3_21s / 10) - ((l3_21s / 10) / 8) * 8) r_30 hv_30) (va_cwS 1 hts gX7_drawYear_X7_drawnKind rfl rfl rfl (by decide +kernel) ⟨Nat.le_of_ble_eq_true rfl, Nat.le_of_ble_eq_true rfl⟩) hP hD hK hN [] rfl (by decide +kernel) rfl hl.1 rfl (Nat.le_of_ble_eq_true rfl) dX7_drawYear_30 ⟨Nat.le_of_ble_eq_true rfl, Nat.le_of_ble_eq_true rfl⟩) ?_
        refine lv_iload_n hx hb dX7_drawYear_33 rfl (lv_at hl 0 rfl) ?_
        refine lv_bipush (v := 10) hx hb dX7_drawYear_34 (by decide) ?_
        refine lv_irem hx hb dX7_drawYear_36 (by decide) ?_
        refine lv_iload_n hx hb dX7_drawYear_37 rfl (lv_at hl 0 rfl) ?_
        refine lv_bipush (v := 80) hx hb dX7_drawYear_38 (by decide) ?_
        refine lv_idiv hx hb dX7_drawYear_40 (by decide) ?_
        refine lv_bipush (v := 10) hx hb dX7_drawYear_41 (by decide) ?_
        refine lv_irem hx hb dX7_drawYear_43 (by decide) ?_
        obtain ⟨r_44, c_rung_44, c_rowOf_44, c_placeOf_44, hv_44, hf⟩ := bd4_some hf
        refine kWi (rV (C := RX7) [.int r_30, .int (l3_21s - (l3_21s / 10) * 10), .int ((l3_21s / 80) - ((l3_21s / 80) / 10) * 10)] [] S (c_X7_attempt l dC dI cI cJ cZ h_this h_this_rowOf h_this_placeOf H.size c_rung_5 c_rowOf_5 c_placeOf_5 r_30 (l3_21s - (l3_21s / 10) * 10) ((l3_21s / 80) - ((l3_21s / 80) / 10) * 10) r_44 c_rung_44 c_rowOf_44 c_placeOf_44 hv_44) (cwV 3 hts gX7_drawYear_X7_attempt rfl rfl rfl (by decide +kernel) ⟨Nat.le_of_ble_eq_true rfl, Nat.le_of_ble_eq_true rfl⟩) (va_recv hK hP (ci := 7) (q0 := 0) rfl rfl) hP hD hK hN [0, 1, 2] rfl (by decide +kernel) rfl hl.1 rfl (Nat.le_of_ble_eq_true rfl) dX7_drawYear_44 ⟨Nat.le_of_ble_eq_true rfl, Nat.le_of_ble_eq_true rfl⟩) hP hD hS hA [0, 1, 2] rfl rfl [some 0, some 1, some 2] (by decide +kernel) rfl (fun H locs hP hD hS => ?_)
        have hP : va_P (dC, dI) vwCl (w_X7_drawYear cI cJ cZ h_this h_this_rowOf h_this_placeOf c_rung_44 c_rowOf_44 c_placeOf_44) H := hP
        have hD : va_D A (w_X7_drawYear cI cJ cZ h_this h_this_rowOf h_this_placeOf c_rung_44 c_rowOf_44 c_placeOf_44) := hD
        refine lv_pop hx hb dX7_drawYear_47 rfl ?_
        refine lv_iinc (v := (l4_5 + 1)) (lv' := [(4, .int (l4_5 + 1)), (3, .int l3_21s), (0, .ref h_this), (2, .int l2)]) hx hb dX7_drawYear_48 hl (k := 3) rfl rfl (by decide) rfl (fun ls hl => ?_)
        refine lv_goto (tgt := 5) hx hb dX7_drawYear_51 (by decide) ?_
        exact ih_5 l3_21s (l4_5 + 1) c_rung_44 c_rowOf_44 c_placeOf_44 H locs ls hP hD hS (lv_sub hl [2, 3, 1, 0] rfl) (ho1_5 _ (Option.some.inj hf).symm)
  exact L_5 FU l1 0 c_rung c_rowOf c_placeOf s.heap [] ls hP hD hS (lv_sub hl [2, 4, 1, 0] rfl) hq_5
