abbrev w_X11_in : va_W := []
abbrev rm_X11_in : Room := { frames := 0, cells := 0, slots := 0, locals := 0 }
set_option maxRecDepth 100000 in
set_option maxHeartbeats 4000000 in
theorem c_X11_in (l : Launch) (dC : Nat → ClassId) (dI : Nat → Nat → Nat) (cI cJ cZ : ClassId) (sz : Nat) (l0 : Int32) (l1 : Int32) (l2 : Int32) (r : Int32) (hf : f_X11_in l0 l1 l2 = some r) : Met l yX11_in wsX11_in rm_X11_in (va_Pc [.int l0, .int l1, .int l2] (PRE (dC, dI) (TY cI cJ cZ) sz w_X11_in)) (vp_Si (fun r' => r' = r)) 0 0 (fun _ => False) := by
  refine ofSi (ty := .boolean) (by decide +kernel) rfl (Nat.le_of_ble_eq_true rfl) ?_
  intro p e s m args below meth c Z ls S hP hD hK hN hl hret
  obtain ⟨hx, hb, hml, hown, hts⟩ := id S
  have hown : s.vm.findClass RX11 = some m.cls := hown
  have hl : lv_has ls 3 [(0, .int l0), (1, .int l1), (2, .int l2)] := hl
  unfold f_X11_in at hf
  refine lv_iload_n hx hb dX11_in_0 rfl (lv_at hl 0 rfl) ?_
  refine lv_iload_n hx hb dX11_in_1 rfl (lv_at hl 1 rfl) ?_
  refine lv_icmp_lt (tgt := 14) hx hb dX11_in_2 (by decide) (fun k_2 => ?_) (fun k_2 => ?_)
  · have hf := ite_t hf k_2
    refine lv_iconst (v := 0) hx hb dX11_in_14 (by decide) ?_
    have e_f := Option.some.inj hf
    cases e_f
    exact hret rfl dX11_in_15
  · have hf := ite_f hf k_2
    refine lv_iload_n hx hb dX11_in_5 rfl (lv_at hl 0 rfl) ?_
    refine lv_iload_n hx hb dX11_in_6 rfl (lv_at hl 2 rfl) ?_
    refine lv_icmp_gt (tgt := 14) hx hb dX11_in_7 (by decide) (fun k_7 => ?_) (fun k_7 => ?_)
    · have hf := ite_t hf k_7
      refine lv_iconst (v := 0) hx hb dX11_in_14 (by decide) ?_
      have e_f := Option.some.inj hf
      cases e_f
      exact hret rfl dX11_in_15
    · have hf := ite_f hf k_7
      refine lv_iconst (v := 1) hx hb dX11_in_10 (by decide) ?_
      refine lv_goto (tgt := 15) hx hb dX11_in_11 (by decide) ?_
      have e_f := Option.some.inj hf
      cases e_f
      exact hret rfl dX11_in_15
abbrev w_X11_bits : va_W := []
abbrev rm_X11_bits : Room := { frames := 0, cells := 0, slots := 0, locals := 0 }
set_option maxRecDepth 100000 in
set_option maxHeartbeats 4000000 in
theorem c_X11_bits (l : Launch) (dC : Nat → ClassId) (dI : Nat → Nat → Nat) (cI cJ cZ : ClassId) (sz : Nat) (l0 : Int32) (r : Int32) (hf : f_X11_bits l0 = some r) : Met l yX11_bits wsX11_bits rm_X11_bits (va_Pc [.int l0] (PRE (dC, dI) (TY cI cJ cZ) sz w_X11_bits)) (vp_Si (fun r' => r' = r)) 0 0 (fun _ => False) := by
  refine ofSi (ty := .int) (by decide +kernel) rfl (Nat.le_of_ble_eq_true rfl) ?_
  intro p e s m args below meth c Z ls S hP hD hK hN hl hret
  obtain ⟨hx, hb, hml, hown, hts⟩ := id S
  have hown : s.vm.findClass RX11 = some m.cls := hown
  have hl : lv_has ls 3 [(0, .int l0)] := hl
  unfold f_X11_bits at hf
  refine lv_iconst (v := 0) hx hb dX11_bits_0 (by decide) ?_
  refine lv_istore_n (lv' := [(1, .int 0), (0, .int l0)]) hx hb dX11_bits_1 rfl hl (by decide) rfl (fun ls hl => ?_)
  refine lv_iconst (v := 0) hx hb dX11_bits_2 (by decide) ?_
  refine lv_istore_n (lv' := [(2, .int 0), (1, .int 0), (0, .int l0)]) hx hb dX11_bits_3 rfl hl (by decide) rfl (fun ls hl => ?_)
  obtain ⟨l1_4x, l2_4x, hq_4, hf⟩ := bd2_some hf
  have K_4 : ∀ (ls : Array Slot), lv_has ls 3 [(1, .int l1_4x)] → W p l e rm_X11_bits s m args below meth c s.heap [] 0 0 Z (F0 m 24 ls []) := by
    intro ls hl
    refine lv_iload_n hx hb dX11_bits_24 rfl (lv_at hl 0 rfl) ?_
    have e_f := Option.some.inj hf
    cases e_f
    exact hret rfl dX11_bits_25
  have L_4 : ∀ (n : Nat) (l1_4 : Int32) (l2_4 : Int32) (ls : Array Slot), lv_has ls 3 [(0, .int l0), (1, .int l1_4), (2, .int l2_4)] → loopN (fun (q : Int32 × Int32) => f_X11_bits_b4 l0 q.1 q.2) n (l1_4, l2_4) = some (l1_4x, l2_4x) → W p l e rm_X11_bits s m args below meth c s.heap [] 0 0 Z (F0 m 4 ls []) := by
    intro n
    induction n with
    | zero => intro l1_4 l2_4 ls hl hq; exact (loopN_zero hq).elim
    | succ n ih_4 =>
      intro l1_4 l2_4 ls hl hq
      obtain ⟨o_4, hf, ho1_4, ho2_4⟩ := loopN_step hq
      have hf : f_X11_bits_b4 l0 l1_4 l2_4 = some o_4 := hf
      unfold f_X11_bits_b4 at hf
      refine lv_iload_n hx hb dX11_bits_4 rfl (lv_at hl 2 rfl) ?_
      refine lv_bipush (v := 10) hx hb dX11_bits_5 (by decide) ?_
      refine lv_icmp_ge (tgt := 24) hx hb dX11_bits_7 (by decide) (fun k_7 => ?_) (fun k_7 => ?_)
      · have hf := ite_t hf k_7
        have e_4 := ho2_4 _ (Option.some.inj hf).symm
        cases e_4
        exact K_4 ls (lv_sub hl [1] rfl)
      · have hf := ite_f hf k_7
        refine lv_iload_n hx hb dX11_bits_10 rfl (lv_at hl 1 rfl) ?_
        refine lv_iload_n hx hb dX11_bits_11 rfl (lv_at hl 0 rfl) ?_
        refine lv_iload_n hx hb dX11_bits_12 rfl (lv_at hl 2 rfl) ?_
        refine lv_ishr hx hb dX11_bits_13 ?_
        refine lv_iconst (v := 1) hx hb dX11_bits_14 (by decide) ?_
        refine lv_iand hx hb dX11_bits_15 ?_
        refine lv_iadd hx hb dX11_bits_16 ?_
        refine lv_istore_n (lv' := [(1, .int (l1_4 + ((l0 >>> (l2_4 &&& 31)) &&& 1))), (0, .int l0), (2, .int l2_4)]) hx hb dX11_bits_17 rfl hl (by decide) rfl (fun ls hl => ?_)
        refine lv_iinc (v := (l2_4 + 1)) (lv' := [(2, .int (l2_4 + 1)), (1, .int (l1_4 + ((l0 >>> (l2_4 &&& 31)) &&& 1))), (0, .int l0)]) hx hb dX11_bits_18 hl (k := 2) rfl rfl (by decide) rfl (fun ls hl => ?_)
        refine lv_goto (tgt := 4) hx hb dX11_bits_21 (by decide) ?_
        exact ih_4 (l1_4 + ((l0 >>> (l2_4 &&& 31)) &&& 1)) (l2_4 + 1) ls (lv_sub hl [2, 1, 0] rfl) (ho1_4 _ (Option.some.inj hf).symm)
  exact L_4 FU 0 0 ls (lv_sub hl [2, 1, 0] rfl) hq_4
abbrev w_X11_isMember : va_W := []
abbrev rm_X11_isMember : Room := { frames := 1, cells := 0, slots := 0, locals := 22 }
set_option maxRecDepth 100000 in
set_option maxHeartbeats 4000000 in
theorem c_X11_isMember (l : Launch) (dC : Nat → ClassId) (dI : Nat → Nat → Nat) (cI cJ cZ : ClassId) (sz : Nat) (l0 : Int32) (r : Int32) (hf : f_X11_isMember l0 = some r) : Met l yX11_isMember wsX11_isMember rm_X11_isMember (va_Pc [.int l0] (PRE (dC, dI) (TY cI cJ cZ) sz w_X11_isMember)) (vp_Si (fun r' => r' = r)) 0 0 (fun _ => False) := by
  refine ofSi (ty := .boolean) (by decide +kernel) rfl (Nat.le_of_ble_eq_true rfl) ?_
  intro p e s m args below meth c Z ls S hP hD hK hN hl hret
  obtain ⟨hx, hb, hml, hown, hts⟩ := id S
  have hown : s.vm.findClass RX11 = some m.cls := hown
  have hl : lv_has ls 1 [(0, .int l0)] := hl
  unfold f_X11_isMember at hf
  refine lv_iload_n hx hb dX11_isMember_0 rfl (lv_at hl 0 rfl) ?_
  refine lv_iconst (v := 0) hx hb dX11_isMember_1 (by decide) ?_
  refine lv_bipush (v := 9) hx hb dX11_isMember_2 (by decide) ?_
  obtain ⟨r_4, hv_4, hf⟩ := bd1_some hf
  refine kSi (rS [.int l0, .int 0, .int 9] [] S (c_X11_in l dC dI cI cJ cZ s.heap.size l0 0 9 r_4 hv_4) (va_cwS 3 hts gX11_isMember_X11_in rfl rfl rfl (by decide +kernel) ⟨Nat.le_of_ble_eq_true rfl, Nat.le_of_ble_eq_true rfl⟩) hP hD hK hN [] rfl (by decide +kernel) rfl hl.1 rfl (Nat.le_of_ble_eq_true rfl) dX11_isMember_4 ⟨Nat.le_of_ble_eq_true rfl, Nat.le_of_ble_eq_true rfl⟩) ?_
  obtain ⟨hb_7, hf⟩ := gb_some hf
  have e_f := Option.some.inj hf
  cases e_f
  exact hret (nar_bool hb_7) dX11_isMember_7
abbrev w_X11_isRow : va_W := []
abbrev rm_X11_isRow : Room := { frames := 0, cells := 0, slots := 0, locals := 0 }
set_option maxRecDepth 100000 in
set_option maxHeartbeats 4000000 in
theorem c_X11_isRow (l : Launch) (dC : Nat → ClassId) (dI : Nat → Nat → Nat) (cI cJ cZ : ClassId) (sz : Nat) (l0 : Int32) (r : Int32) (hf : f_X11_isRow l0 = some r) : Met l yX11_isRow wsX11_isRow rm_X11_isRow (va_Pc [.int l0] (PRE (dC, dI) (TY cI cJ cZ) sz w_X11_isRow)) (vp_Si (fun r' => r' = r)) 0 0 (fun _ => False) := by
  refine ofSi (ty := .boolean) (by decide +kernel) rfl (Nat.le_of_ble_eq_true rfl) ?_
  intro p e s m args below meth c Z ls S hP hD hK hN hl hret
  obtain ⟨hx, hb, hml, hown, hts⟩ := id S
  have hown : s.vm.findClass RX11 = some m.cls := hown
  have hl : lv_has ls 1 [(0, .int l0)] := hl
  unfold f_X11_isRow at hf
  have J_9 : ∀ (ls : Array Slot), lv_has ls 1 [] → f_X11_isRow_j9 = some r → W p l e rm_X11_isRow s m args below meth c s.heap [] 0 0 Z (F0 m 9 ls []) := by
    intro ls hl hf
    unfold f_X11_isRow_j9 at hf
    refine lv_iconst (v := 1) hx hb dX11_isRow_9 (by decide) ?_
    refine lv_goto (tgt := 14) hx hb dX11_isRow_10 (by decide) ?_
    have e_f := Option.some.inj hf
    cases e_f
    exact hret rfl dX11_isRow_14
  refine lv_iload_n hx hb dX11_isRow_0 rfl (lv_at hl 0 rfl) ?_
  refine lv_if_eq (tgt := 9) hx hb dX11_isRow_1 (by decide) (fun k_1 => ?_) (fun k_1 => ?_)
  · have hf := ite_t hf k_1
    exact J_9  ls (lv_sub hl [] rfl) hf
  · have hf := ite_f hf k_1
    refine lv_iload_n hx hb dX11_isRow_4 rfl (lv_at hl 0 rfl) ?_
    refine lv_iconst (v := 1) hx hb dX11_isRow_5 (by decide) ?_
    refine lv_icmp_ne (tgt := 13) hx hb dX11_isRow_6 (by decide) (fun k_6 => ?_) (fun k_6 => ?_)
    · have hf := ite_f hf k_6
      refine lv_iconst (v := 0) hx hb dX11_isRow_13 (by decide) ?_
      have e_f := Option.some.inj hf
      cases e_f
      exact hret rfl dX11_isRow_14
    · have hf := ite_t hf k_6
      exact J_9  ls (lv_sub hl [] rfl) hf
abbrev w_X11_member (cI cJ cZ : ClassId) (h_this h_this_width h_this_key g_this_book g_this_now g_this_wide g_this_delay g_this_ahead g_this_after g_this_sight g_this_pad g_this_counts g_this_isOne g_this_ways g_this_image g_this_isKept : Nat) (c_rules : Int32) (c_sights : Int32) (c_signs : Int32) (c_reason : Int32) (c_acts : Int32) (c_meetings : Int32) (c_clashes : Int32) (c_first : Int32) (c_where : Int32) (c_door : Int32) (c_wider : Int32) (c_ordersFound : Int32) (c_firstOrder : Int32) (c_least : Int32) (c_leastOrder : Int32) (c_width : Nat → Int32) (c_key : Nat → Int32) : va_W := [(h_this, .inr (11, [.ref g_this_book, .ref g_this_now, .ref h_this_width, .ref h_this_key, .ref g_this_wide, .ref g_this_delay, .int c_rules, .ref g_this_ahead, .ref g_this_after, .int c_sights, .ref g_this_sight, .int c_signs, .ref g_this_pad, .int c_reason, .int c_acts, .int c_meetings, .int c_clashes, .int c_first, .int c_where, .int c_door, .int c_wider, .int c_ordersFound, .int c_firstOrder, .int c_least, .int c_leastOrder, .ref g_this_counts, .ref g_this_isOne, .ref g_this_ways, .ref g_this_image, .ref g_this_isKept])), (h_this_width, .inl (cI, 10, .inl c_width)), (h_this_key, .inl (cI, 10, .inl c_key))]
abbrev rm_X11_member : Room := { frames := 2, cells := 0, slots := 0, locals := 42 }
theorem m_X11_member_f16 : (.fieldLink RX11 16 "WovenRowsModel" "width" "[I" : Cond) ∈ wsX11_member := by decide +kernel
theorem in_X11_member_X11 : ∀ w ∈ u_ws RX11 TX11 30, w ∈ wsX11_member := by decide +kernel
theorem m_X11_member_f19 : (.fieldLink RX11 19 "WovenRowsModel" "key" "[I" : Cond) ∈ wsX11_member := by decide +kernel
set_option maxRecDepth 100000 in
set_option maxHeartbeats 4000000 in
theorem c_X11_member (l : Launch) (dC : Nat → ClassId) (dI : Nat → Nat → Nat) (cI cJ cZ : ClassId) (h_this h_this_width h_this_key g_this_book g_this_now g_this_wide g_this_delay g_this_ahead g_this_after g_this_sight g_this_pad g_this_counts g_this_isOne g_this_ways g_this_image g_this_isKept : Nat) (sz : Nat) (c_rules : Int32) (c_sights : Int32) (c_signs : Int32) (c_reason : Int32) (c_acts : Int32) (c_meetings : Int32) (c_clashes : Int32) (c_first : Int32) (c_where : Int32) (c_door : Int32) (c_wider : Int32) (c_ordersFound : Int32) (c_firstOrder : Int32) (c_least : Int32) (c_leastOrder : Int32) (c_width : Nat → Int32) (c_key : Nat → Int32) (l1 : Int32) (l2 : Int32) (l3 : Int32) (r : Int32) (z_width : Nat → Int32) (z_key : Nat → Int32) (hf : f_X11_member c_width c_key l1 l2 l3 = some (r, z_width, z_key)) : Met l yX11_member wsX11_member rm_X11_member (va_Pc [.ref h_this, .int l1, .int l2, .int l3] (PRE (dC, dI) (TY cI cJ cZ) sz (w_X11_member cI cJ cZ h_this h_this_width h_this_key g_this_book g_this_now g_this_wide g_this_delay g_this_ahead g_this_after g_this_sight g_this_pad g_this_counts g_this_isOne g_this_ways g_this_image g_this_isKept c_rules c_sights c_signs c_reason c_acts c_meetings c_clashes c_first c_where c_door c_wider c_ordersFound c_firstOrder c_least c_leastOrder c_width c_key))) (va_Qi (fun r' (_ : Unit) => r' = r) (POW (dC, dI) (va_A (w_X11_member cI cJ cZ h_this h_this_width h_this_key g_this_book g_this_now g_this_wide g_this_delay g_this_ahead g_this_after g_this_sight g_this_pad g_this_counts g_this_isOne g_this_ways g_this_image g_this_isKept c_rules c_sights c_signs c_reason c_acts c_meetings c_clashes c_first c_where c_door c_wider c_ordersFound c_firstOrder c_least c_leastOrder c_width c_key) sz) (w_X11_member cI cJ cZ h_this h_this_width h_this_key g_this_book g_this_now g_this_wide g_this_delay g_this_ahead g_this_after g_this_sight g_this_pad g_this_counts g_this_isOne g_this_ways g_this_image g_this_isKept c_rules c_sights c_signs c_reason c_acts c_meetings c_clashes c_first c_where c_door c_wider c_ordersFound c_firstOrder c_least c_leastOrder z_width z_key)) (va_A (w_X11_member cI cJ cZ h_this h_this_width h_this_key g_this_book g_this_now g_this_wide g_this_delay g_this_ahead g_this_after g_this_sight g_this_pad g_this_counts g_this_isOne g_this_ways g_this_image g_this_isKept c_rules c_sights c_signs c_reason c_acts c_meetings c_clashes c_first c_where c_door c_wider c_ordersFound c_firstOrder c_least c_leastOrder c_width c_key) sz)) 0 0 (va_A (w_X11_member cI cJ cZ h_this h_this_width h_this_key g_this_book g_this_now g_this_wide g_this_delay g_this_ahead g_this_after g_this_sight g_this_pad g_this_counts g_this_isOne g_this_ways g_this_image g_this_isKept c_rules c_sights c_signs c_reason c_acts c_meetings c_clashes c_first c_where c_door c_wider c_ordersFound c_firstOrder c_least c_leastOrder c_width c_key) sz) := by
  refine ofWi (ty := .int) (by decide +kernel) rfl (Nat.le_of_ble_eq_true rfl) ?_
  intro p e s m args below meth c Z A ls S hP hD hK hN hA hl hret
  obtain ⟨hx, hb, hml, hown, hts⟩ := id S
  have hown : s.vm.findClass RX11 = some m.cls := hown
  have hS : va_S A s.heap s.heap [] := va_S.rf
  have hl : lv_has ls 5 [(0, .ref h_this), (1, .int l1), (2, .int l2), (3, .int l3)] := hl
  unfold f_X11_member at hf
  refine lv_iload_n hx hb dX11_member_0 rfl (lv_at hl 1 rfl) ?_
  obtain ⟨r_1, hv_1, hf⟩ := bd1_some hf
  refine kSi (rS [.int l1] [] S (c_X11_isMember l dC dI cI cJ cZ s.heap.size l1 r_1 hv_1) (va_cwS 1 hts gX11_member_X11_isMember rfl rfl rfl (by decide +kernel) ⟨Nat.le_of_ble_eq_true rfl, Nat.le_of_ble_eq_true rfl⟩) hP hD hK hN [] rfl (by decide +kernel) rfl hl.1 rfl (Nat.le_of_ble_eq_true rfl) dX11_member_1 ⟨Nat.le_of_ble_eq_true rfl, Nat.le_of_ble_eq_true rfl⟩) ?_
  refine lv_if_ne (tgt := 9) hx hb dX11_member_4 (by decide) (fun k_4 => ?_) (fun k_4 => ?_)
  · have hf := ite_f hf k_4
    refine lv_iload_n hx hb dX11_member_9 rfl (lv_at hl 2 rfl) ?_
    refine lv_iconst (v := 1) hx hb dX11_member_10 (by decide) ?_
    refine lv_bipush (v := 15) hx hb dX11_member_11 (by decide) ?_
    obtain ⟨r_13, hv_13, hf⟩ := bd1_some hf
    refine kSi (rS [.int l2, .int 1, .int 15] [] S (c_X11_in l dC dI cI cJ cZ s.heap.size l2 1 15 r_13 hv_13) (va_cwS 3 hts gX11_member_X11_in rfl rfl rfl (by decide +kernel) ⟨Nat.le_of_ble_eq_true rfl, Nat.le_of_ble_eq_true rfl⟩) hP hD hK hN [] rfl (by decide +kernel) rfl hl.1 rfl (Nat.le_of_ble_eq_true rfl) dX11_member_13 ⟨Nat.le_of_ble_eq_true rfl, Nat.le_of_ble_eq_true rfl⟩) ?_
    refine lv_if_eq (tgt := 29) hx hb dX11_member_16 (by decide) (fun k_16 => ?_) (fun k_16 => ?_)
    · have hf := ite_t hf k_16
      refine lv_bipush (v := (-2)) hx hb dX11_member_29 (by decide) ?_
      have e_f := Option.some.inj hf
      cases e_f
      exact hret rfl hP hD hS dX11_member_31
    · have hf := ite_f hf k_16
      refine lv_iload_n hx hb dX11_member_19 rfl (lv_at hl 3 rfl) ?_
      refine lv_iconst (v := 0) hx hb dX11_member_20 (by decide) ?_
      refine lv_bipush (v := 12) hx hb dX11_member_21 (by decide) ?_
      obtain ⟨r_23, hv_23, hf⟩ := bd1_some hf
      refine kSi (rS [.int l3, .int 0, .int 12] [] S (c_X11_in l dC dI cI cJ cZ s.heap.size l3 0 12 r_23 hv_23) (va_cwS 3 hts gX11_member_X11_in rfl rfl rfl (by decide +kernel) ⟨Nat.le_of_ble_eq_true rfl, Nat.le_of_ble_eq_true rfl⟩) hP hD hK hN [] rfl (by decide +kernel) rfl hl.1 rfl (Nat.le_of_ble_eq_true rfl) dX11_member_23 ⟨Nat.le_of_ble_eq_true rfl, Nat.le_of_ble_eq_true rfl⟩) ?_
      refine lv_if_ne (tgt := 32) hx hb dX11_member_26 (by decide) (fun k_26 => ?_) (fun k_26 => ?_)
      · have hf := ite_f hf k_26
        refine lv_aload_n hx hb dX11_member_32 rfl (lv_at hl 0 rfl) ?_
        refine va_get (D := (dC, dI)) (ci := 11) (v := .ref h_this_width) (C := RX11) (T := TX11) (N := 30) hx hb hts in_X11_member_X11 hown hK hP 0 rfl rfl 2 (by decide) (hts _ m_X11_member_f16) (fun _ h9 => h9) rfl dX11_member_33 ?_
        refine lv_iload_n hx hb dX11_member_36 rfl (lv_at hl 1 rfl) ?_
        obtain ⟨g_37, hf⟩ := gd_some hf
        refine va_iald hx hb hK hP 1 0 rfl rfl g_37 dX11_member_37 ?_
        refine lv_istore (lv' := [(4, .int (c_width (Int32.toNatClampNeg l1))), (0, .ref h_this), (1, .int l1), (2, .int l2), (3, .int l3)]) hx hb dX11_member_38 hl (by decide) rfl (fun ls hl => ?_)
        refine lv_aload_n hx hb dX11_member_40 rfl (lv_at hl 1 rfl) ?_
        refine va_get (D := (dC, dI)) (ci := 11) (v := .ref h_this_width) (C := RX11) (T := TX11) (N := 30) hx hb hts in_X11_member_X11 hown hK hP 0 rfl rfl 2 (by decide) (hts _ m_X11_member_f16) (fun _ h9 => h9) rfl dX11_member_41 ?_
        refine lv_iload_n hx hb dX11_member_44 rfl (lv_at hl 2 rfl) ?_
        refine lv_iload_n hx hb dX11_member_45 rfl (lv_at hl 3 rfl) ?_
        obtain ⟨g_46, hf⟩ := gd_some hf
        refine va_iast hx hb hK hP hD hS 1 0 rfl rfl g_46 dX11_member_46 (fun H locs hP hD hS => ?_)
        have hP : va_P (dC, dI) vwCl (w_X11_member cI cJ cZ h_this h_this_width h_this_key g_this_book g_this_now g_this_wide g_this_delay g_this_ahead g_this_after g_this_sight g_this_pad g_this_counts g_this_isOne g_this_ways g_this_image g_this_isKept c_rules c_sights c_signs c_reason c_acts c_meetings c_clashes c_first c_where c_door c_wider c_ordersFound c_firstOrder c_least c_leastOrder (upd c_width (Int32.toNatClampNeg l1) l2) c_key) H := hP
        have hD : va_D A (w_X11_member cI cJ cZ h_this h_this_width h_this_key g_this_book g_this_now g_this_wide g_this_delay g_this_ahead g_this_after g_this_sight g_this_pad g_this_counts g_this_isOne g_this_ways g_this_image g_this_isKept c_rules c_sights c_signs c_reason c_acts c_meetings c_clashes c_first c_where c_door c_wider c_ordersFound c_firstOrder c_least c_leastOrder (upd c_width (Int32.toNatClampNeg l1) l2) c_key) := hD
        refine lv_aload_n hx hb dX11_member_47 rfl (lv_at hl 1 rfl) ?_
        refine va_get (D := (dC, dI)) (ci := 11) (v := .ref h_this_key) (C := RX11) (T := TX11) (N := 30) hx hb hts in_X11_member_X11 hown hK hP 0 rfl rfl 3 (by decide) (hts _ m_X11_member_f19) (fun _ h9 => h9) rfl dX11_member_48 ?_
        refine lv_iload_n hx hb dX11_member_51 rfl (lv_at hl 2 rfl) ?_
        refine lv_iload_n hx hb dX11_member_52 rfl (lv_at hl 4 rfl) ?_
        obtain ⟨g_53, hf⟩ := gd_some hf
        refine va_iast hx hb hK hP hD hS 2 0 rfl rfl g_53 dX11_member_53 (fun H locs hP hD hS => ?_)
        have hP : va_P (dC, dI) vwCl (w_X11_member cI cJ cZ h_this h_this_width h_this_key g_this_book g_this_now g_this_wide g_this_delay g_this_ahead g_this_after g_this_sight g_this_pad g_this_counts g_this_isOne g_this_ways g_this_image g_this_isKept c_rules c_sights c_signs c_reason c_acts c_meetings c_clashes c_first c_where c_door c_wider c_ordersFound c_firstOrder c_least c_leastOrder (upd c_width (Int32.toNatClampNeg l1) l2) (upd c_key (Int32.toNatClampNeg l1) l3)) H := hP
        have hD : va_D A (w_X11_member cI cJ cZ h_this h_this_width h_this_key g_this_book g_this_now g_this_wide g_this_delay g_this_ahead g_this_after g_this_sight g_this_pad g_this_counts g_this_isOne g_this_ways g_this_image g_this_isKept c_rules c_sights c_signs c_reason c_acts c_meetings c_clashes c_first c_where c_door c_wider c_ordersFound c_firstOrder c_least c_leastOrder (upd c_width (Int32.toNatClampNeg l1) l2) (upd c_key (Int32.toNatClampNeg l1) l3)) := hD
        refine lv_iload hx hb dX11_member_54 (lv_at hl 0 rfl) ?_
        have e_f := Option.some.inj hf
        cases e_f
        exact hret rfl hP hD hS dX11_member_56
      · have hf := ite_t hf k_26
        refine lv_bipush (v := (-2)) hx hb dX11_member_29 (by decide) ?_
        have e_f := Option.some.inj hf
        cases e_f
        exact hret rfl hP hD hS dX11_member_31
  · have hf := ite_t hf k_4
    refine lv_iconst (v := (-1)) hx hb dX11_member_7 (by decide) ?_
    have e_f := Option.some.inj hf
    cases e_f
    exact hret rfl hP hD hS dX11_member_8
abbrev w_X11_wide (cI cJ cZ : ClassId) (h_this h_this_wide g_this_book g_this_now g_this_width g_this_key g_this_delay g_this_ahead g_this_after g_this_sight g_this_pad g_this_counts g_this_isOne g_this_ways g_this_image g_this_isKept : Nat) (c_rules : Int32) (c_sights : Int32) (c_signs : Int32) (c_reason : Int32) (c_acts : Int32) (c_meetings : Int32) (c_clashes : Int32) (c_first : Int32) (c_where : Int32) (c_door : Int32) (c_wider : Int32) (c_ordersFound : Int32) (c_firstOrder : Int32) (c_least : Int32) (c_leastOrder : Int32) (c_wide : Nat → Int32) : va_W := [(h_this, .inr (11, [.ref g_this_book, .ref g_this_now, .ref g_this_width, .ref g_this_key, .ref h_this_wide, .ref g_this_delay, .int c_rules, .ref g_this_ahead, .ref g_this_after, .int c_sights, .ref g_this_sight, .int c_signs, .ref g_this_pad, .int c_reason, .int c_acts, .int c_meetings, .int c_clashes, .int c_first, .int c_where, .int c_door, .int c_wider, .int c_ordersFound, .int c_firstOrder, .int c_least, .int c_leastOrder, .ref g_this_counts, .ref g_this_isOne, .ref g_this_ways, .ref g_this_image, .ref g_this_isKept])), (h_this_wide, .inl (cI, 17, .inl c_wide))]
abbrev rm_X11_wide : Room := { frames := 1, cells := 0, slots := 0, locals := 22 }
theorem m_X11_wide_f22 : (.fieldLink RX11 22 "WovenRowsModel" "wide" "[I" : Cond) ∈ wsX11_wide := by decide +kernel
theorem in_X11_wide_X11 : ∀ w ∈ u_ws RX11 TX11 30, w ∈ wsX11_wide := by decide +kernel
set_option maxRecDepth 100000 in
set_option maxHeartbeats 4000000 in
theorem c_X11_wide (l : Launch) (dC : Nat → ClassId) (dI : Nat → Nat → Nat) (cI cJ cZ : ClassId) (h_this h_this_wide g_this_book g_this_now g_this_width g_this_key g_this_delay g_this_ahead g_this_after g_this_sight g_this_pad g_this_counts g_this_isOne g_this_ways g_this_image g_this_isKept : Nat) (sz : Nat) (c_rules : Int32) (c_sights : Int32) (c_signs : Int32) (c_reason : Int32) (c_acts : Int32) (c_meetings : Int32) (c_clashes : Int32) (c_first : Int32) (c_where : Int32) (c_door : Int32) (c_wider : Int32) (c_ordersFound : Int32) (c_firstOrder : Int32) (c_least : Int32) (c_leastOrder : Int32) (c_wide : Nat → Int32) (l1 : Int32) (l2 : Int32) (r : Int32) (z_wide : Nat → Int32) (hf : f_X11_wide c_wide l1 l2 = some (r, z_wide)) : Met l yX11_wide wsX11_wide rm_X11_wide (va_Pc [.ref h_this, .int l1, .int l2] (PRE (dC, dI) (TY cI cJ cZ) sz (w_X11_wide cI cJ cZ h_this h_this_wide g_this_book g_this_now g_this_width g_this_key g_this_delay g_this_ahead g_this_after g_this_sight g_this_pad g_this_counts g_this_isOne g_this_ways g_this_image g_this_isKept c_rules c_sights c_signs c_reason c_acts c_meetings c_clashes c_first c_where c_door c_wider c_ordersFound c_firstOrder c_least c_leastOrder c_wide))) (va_Qi (fun r' (_ : Unit) => r' = r) (POW (dC, dI) (va_A (w_X11_wide cI cJ cZ h_this h_this_wide g_this_book g_this_now g_this_width g_this_key g_this_delay g_this_ahead g_this_after g_this_sight g_this_pad g_this_counts g_this_isOne g_this_ways g_this_image g_this_isKept c_rules c_sights c_signs c_reason c_acts c_meetings c_clashes c_first c_where c_door c_wider c_ordersFound c_firstOrder c_least c_leastOrder c_wide) sz) (w_X11_wide cI cJ cZ h_this h_this_wide g_this_book g_this_now g_this_width g_this_key g_this_delay g_this_ahead g_this_after g_this_sight g_this_pad g_this_counts g_this_isOne g_this_ways g_this_image g_this_isKept c_rules c_sights c_signs c_reason c_acts c_meetings c_clashes c_first c_where c_door c_wider c_ordersFound c_firstOrder c_least c_leastOrder z_wide)) (va_A (w_X11_wide cI cJ cZ h_this h_this_wide g_this_book g_this_now g_this_width g_this_key g_this_delay g_this_ahead g_this_after g_this_sight g_this_pad g_this_counts g_this_isOne g_this_ways g_this_image g_this_isKept c_rules c_sights c_signs c_reason c_acts c_meetings c_clashes c_first c_where c_door c_wider c_ordersFound c_firstOrder c_least c_leastOrder c_wide) sz)) 0 0 (va_A (w_X11_wide cI cJ cZ h_this h_this_wide g_this_book g_this_now g_this_width g_this_key g_this_delay g_this_ahead g_this_after g_this_sight g_this_pad g_this_counts g_this_isOne g_this_ways g_this_image g_this_isKept c_rules c_sights c_signs c_reason c_acts c_meetings c_clashes c_first c_where c_door c_wider c_ordersFound c_firstOrder c_least c_leastOrder c_wide) sz) := by
  refine ofWi (ty := .int) (by decide +kernel) rfl (Nat.le_of_ble_eq_true rfl) ?_
  intro p e s m args below meth c Z A ls S hP hD hK hN hA hl hret
  obtain ⟨hx, hb, hml, hown, hts⟩ := id S
  have hown : s.vm.findClass RX11 = some m.cls := hown
  have hS : va_S A s.heap s.heap [] := va_S.rf
  have hl : lv_has ls 4 [(0, .ref h_this), (1, .int l1), (2, .int l2)] := hl
  unfold f_X11_wide at hf
  refine lv_iload_n hx hb dX11_wide_0 rfl (lv_at hl 1 rfl) ?_
  refine lv_iconst (v := 0) hx hb dX11_wide_1 (by decide) ?_
  refine lv_bipush (v := 16) hx hb dX11_wide_2 (by decide) ?_
  obtain ⟨r_4, hv_4, hf⟩ := bd1_some hf
  refine kSi (rS [.int l1, .int 0, .int 16] [] S (c_X11_in l dC dI cI cJ cZ s.heap.size l1 0 16 r_4 hv_4) (va_cwS 3 hts gX11_wide_X11_in rfl rfl rfl (by decide +kernel) ⟨Nat.le_of_ble_eq_true rfl, Nat.le_of_ble_eq_true rfl⟩) hP hD hK hN [] rfl (by decide +kernel) rfl hl.1 rfl (Nat.le_of_ble_eq_true rfl) dX11_wide_4 ⟨Nat.le_of_ble_eq_true rfl, Nat.le_of_ble_eq_true rfl⟩) ?_
  refine lv_if_ne (tgt := 12) hx hb dX11_wide_7 (by decide) (fun k_7 => ?_) (fun k_7 => ?_)
  · have hf := ite_f hf k_7
    refine lv_iload_n hx hb dX11_wide_12 rfl (lv_at hl 2 rfl) ?_
    refine lv_iconst (v := 1) hx hb dX11_wide_13 (by decide) ?_
    refine lv_bipush (v := 30) hx hb dX11_wide_14 (by decide) ?_
    obtain ⟨r_16, hv_16, hf⟩ := bd1_some hf
    refine kSi (rS [.int l2, .int 1, .int 30] [] S (c_X11_in l dC dI cI cJ cZ s.heap.size l2 1 30 r_16 hv_16) (va_cwS 3 hts gX11_wide_X11_in rfl rfl rfl (by decide +kernel) ⟨Nat.le_of_ble_eq_true rfl, Nat.le_of_ble_eq_true rfl⟩) hP hD hK hN [] rfl (by decide +kernel) rfl hl.1 rfl (Nat.le_of_ble_eq_true rfl) dX11_wide_16 ⟨Nat.le_of_ble_eq_true rfl, Nat.le_of_ble_eq_true rfl⟩) ?_
    refine lv_if_ne (tgt := 25) hx hb dX11_wide_19 (by decide) (fun k_19 => ?_) (fun k_19 => ?_)
    · have hf := ite_f hf k_19
      refine lv_aload_n hx hb dX11_wide_25 rfl (lv_at hl 0 rfl) ?_
      refine va_get (D := (dC, dI)) (ci := 11) (v := .ref h_this_wide) (C := RX11) (T := TX11) (N := 30) hx hb hts in_X11_wide_X11 hown hK hP 0 rfl rfl 4 (by decide) (hts _ m_X11_wide_f22) (fun _ h9 => h9) rfl dX11_wide_26 ?_
      refine lv_iload_n hx hb dX11_wide_29 rfl (lv_at hl 1 rfl) ?_
      obtain ⟨g_30, hf⟩ := gd_some hf
      refine va_iald hx hb hK hP 1 0 rfl rfl g_30 dX11_wide_30 ?_
      refine lv_istore_n (lv' := [(3, .int (c_wide (Int32.toNatClampNeg l1))), (0, .ref h_this), (1, .int l1), (2, .int l2)]) hx hb dX11_wide_31 rfl hl (by decide) rfl (fun ls hl => ?_)
      refine lv_aload_n hx hb dX11_wide_32 rfl (lv_at hl 1 rfl) ?_
      refine va_get (D := (dC, dI)) (ci := 11) (v := .ref h_this_wide) (C := RX11) (T := TX11) (N := 30) hx hb hts in_X11_wide_X11 hown hK hP 0 rfl rfl 4 (by decide) (hts _ m_X11_wide_f22) (fun _ h9 => h9) rfl dX11_wide_33 ?_
      refine lv_iload_n hx hb dX11_wide_36 rfl (lv_at hl 2 rfl) ?_
      refine lv_iload_n hx hb dX11_wide_37 rfl (lv_at hl 3 rfl) ?_
      obtain ⟨g_38, hf⟩ := gd_some hf
      refine va_iast hx hb hK hP hD hS 1 0 rfl rfl g_38 dX11_wide_38 (fun H locs hP hD hS => ?_)
      have hP : va_P (dC, dI) vwCl (w_X11_wide cI cJ cZ h_this h_this_wide g_this_book g_this_now g_this_width g_this_key g_this_delay g_this_ahead g_this_after g_this_sight g_this_pad g_this_counts g_this_isOne g_this_ways g_this_image g_this_isKept c_rules c_sights c_signs c_reason c_acts c_meetings c_clashes c_first c_where c_door c_wider c_ordersFound c_firstOrder c_least c_leastOrder (upd c_wide (Int32.toNatClampNeg l1) l2)) H := hP
      have hD : va_D A (w_X11_wide cI cJ cZ h_this h_this_wide g_this_book g_this_now g_this_width g_this_key g_this_delay g_this_ahead g_this_after g_this_sight g_this_pad g_this_counts g_this_isOne g_this_ways g_this_image g_this_isKept c_rules c_sights c_signs c_reason c_acts c_meetings c_clashes c_first c_where c_door c_wider c_ordersFound c_firstOrder c_least c_leastOrder (upd c_wide (Int32.toNatClampNeg l1) l2)) := hD
      refine lv_iload_n hx hb dX11_wide_39 rfl (lv_at hl 0 rfl) ?_
      have e_f := Option.some.inj hf
      cases e_f
      exact hret rfl hP hD hS dX11_wide_40
    · have hf := ite_t hf k_19
      refine lv_bipush (v := (-2)) hx hb dX11_wide_22 (by decide) ?_
      have e_f := Option.some.inj hf
      cases e_f
      exact hret rfl hP hD hS dX11_wide_24
  · have hf := ite_t hf k_7
    refine lv_iconst (v := (-1)) hx hb dX11_wide_10 (by decide) ?_
    have e_f := Option.some.inj hf
    cases e_f
    exact hret rfl hP hD hS dX11_wide_11
abbrev w_X11_delay (cI cJ cZ : ClassId) (h_this h_this_delay g_this_book g_this_now g_this_width g_this_key g_this_wide g_this_ahead g_this_after g_this_sight g_this_pad g_this_counts g_this_isOne g_this_ways g_this_image g_this_isKept : Nat) (c_rules : Int32) (c_sights : Int32) (c_signs : Int32) (c_reason : Int32) (c_acts : Int32) (c_meetings : Int32) (c_clashes : Int32) (c_first : Int32) (c_where : Int32) (c_door : Int32) (c_wider : Int32) (c_ordersFound : Int32) (c_firstOrder : Int32) (c_least : Int32) (c_leastOrder : Int32) (c_delay : Nat → Int32) : va_W := [(h_this, .inr (11, [.ref g_this_book, .ref g_this_now, .ref g_this_width, .ref g_this_key, .ref g_this_wide, .ref h_this_delay, .int c_rules, .ref g_this_ahead, .ref g_this_after, .int c_sights, .ref g_this_sight, .int c_signs, .ref g_this_pad, .int c_reason, .int c_acts, .int c_meetings, .int c_clashes, .int c_first, .int c_where, .int c_door, .int c_wider, .int c_ordersFound, .int c_firstOrder, .int c_least, .int c_leastOrder, .ref g_this_counts, .ref g_this_isOne, .ref g_this_ways, .ref g_this_image, .ref g_this_isKept])), (h_this_delay, .inl (cI, 2, .inl c_delay))]
abbrev rm_X11_delay : Room := { frames := 1, cells := 0, slots := 0, locals := 22 }
theorem m_X11_delay_f25 : (.fieldLink RX11 25 "WovenRowsModel" "delay" "[I" : Cond) ∈ wsX11_delay := by decide +kernel
theorem in_X11_delay_X11 : ∀ w ∈ u_ws RX11 TX11 30, w ∈ wsX11_delay := by decide +kernel
set_option maxRecDepth 100000 in
set_option maxHeartbeats 4000000 in
theorem c_X11_delay (l : Launch) (dC : Nat → ClassId) (dI : Nat → Nat → Nat) (cI cJ cZ : ClassId) (h_this h_this_delay g_this_book g_this_now g_this_width g_this_key g_this_wide g_this_ahead g_this_after g_this_sight g_this_pad g_this_counts g_this_isOne g_this_ways g_this_image g_this_isKept : Nat) (sz : Nat) (c_rules : Int32) (c_sights : Int32) (c_signs : Int32) (c_reason : Int32) (c_acts : Int32) (c_meetings : Int32) (c_clashes : Int32) (c_first : Int32) (c_where : Int32) (c_door : Int32) (c_wider : Int32) (c_ordersFound : Int32) (c_firstOrder : Int32) (c_least : Int32) (c_leastOrder : Int32) (c_delay : Nat → Int32) (l1 : Int32) (l2 : Int32) (r : Int32) (z_delay : Nat → Int32) (hf : f_X11_delay c_delay l1 l2 = some (r, z_delay)) : Met l yX11_delay wsX11_delay rm_X11_delay (va_Pc [.ref h_this, .int l1, .int l2] (PRE (dC, dI) (TY cI cJ cZ) sz (w_X11_delay cI cJ cZ h_this h_this_delay g_this_book g_this_now g_this_width g_this_key g_this_wide g_this_ahead g_this_after g_this_sight g_this_pad g_this_counts g_this_isOne g_this_ways g_this_image g_this_isKept c_rules c_sights c_signs c_reason c_acts c_meetings c_clashes c_first c_where c_door c_wider c_ordersFound c_firstOrder c_least c_leastOrder c_delay))) (va_Qi (fun r' (_ : Unit) => r' = r) (POW (dC, dI) (va_A (w_X11_delay cI cJ cZ h_this h_this_delay g_this_book g_this_now g_this_width g_this_key g_this_wide g_this_ahead g_this_after g_this_sight g_this_pad g_this_counts g_this_isOne g_this_ways g_this_image g_this_isKept c_rules c_sights c_signs c_reason c_acts c_meetings c_clashes c_first c_where c_door c_wider c_ordersFound c_firstOrder c_least c_leastOrder c_delay) sz) (w_X11_delay cI cJ cZ h_this h_this_delay g_this_book g_this_now g_this_width g_this_key g_this_wide g_this_ahead g_this_after g_this_sight g_this_pad g_this_counts g_this_isOne g_this_ways g_this_image g_this_isKept c_rules c_sights c_signs c_reason c_acts c_meetings c_clashes c_first c_where c_door c_wider c_ordersFound c_firstOrder c_least c_leastOrder z_delay)) (va_A (w_X11_delay cI cJ cZ h_this h_this_delay g_this_book g_this_now g_this_width g_this_key g_this_wide g_this_ahead g_this_after g_this_sight g_this_pad g_this_counts g_this_isOne g_this_ways g_this_image g_this_isKept c_rules c_sights c_signs c_reason c_acts c_meetings c_clashes c_first c_where c_door c_wider c_ordersFound c_firstOrder c_least c_leastOrder c_delay) sz)) 0 0 (va_A (w_X11_delay cI cJ cZ h_this h_this_delay g_this_book g_this_now g_this_width g_this_key g_this_wide g_this_ahead g_this_after g_this_sight g_this_pad g_this_counts g_this_isOne g_this_ways g_this_image g_this_isKept c_rules c_sights c_signs c_reason c_acts c_meetings c_clashes c_first c_where c_door c_wider c_ordersFound c_firstOrder c_least c_leastOrder c_delay) sz) := by
  refine ofWi (ty := .int) (by decide +kernel) rfl (Nat.le_of_ble_eq_true rfl) ?_
  intro p e s m args below meth c Z A ls S hP hD hK hN hA hl hret
  obtain ⟨hx, hb, hml, hown, hts⟩ := id S
  have hown : s.vm.findClass RX11 = some m.cls := hown
  have hS : va_S A s.heap s.heap [] := va_S.rf
  have hl : lv_has ls 4 [(0, .ref h_this), (1, .int l1), (2, .int l2)] := hl
  unfold f_X11_delay at hf
  refine lv_iload_n hx hb dX11_delay_0 rfl (lv_at hl 1 rfl) ?_
  obtain ⟨r_1, hv_1, hf⟩ := bd1_some hf
  refine kSi (rS [.int l1] [] S (c_X11_isRow l dC dI cI cJ cZ s.heap.size l1 r_1 hv_1) (va_cwS 1 hts gX11_delay_X11_isRow rfl rfl rfl (by decide +kernel) ⟨Nat.le_of_ble_eq_true rfl, Nat.le_of_ble_eq_true rfl⟩) hP hD hK hN [] rfl (by decide +kernel) rfl hl.1 rfl (Nat.le_of_ble_eq_true rfl) dX11_delay_1 ⟨Nat.le_of_ble_eq_true rfl, Nat.le_of_ble_eq_true rfl⟩) ?_
  refine lv_if_eq (tgt := 17) hx hb dX11_delay_4 (by decide) (fun k_4 => ?_) (fun k_4 => ?_)
  · have hf := ite_t hf k_4
    refine lv_bipush (v := (-2)) hx hb dX11_delay_17 (by decide) ?_
    have e_f := Option.some.inj hf
    cases e_f
    exact hret rfl hP hD hS dX11_delay_19
  · have hf := ite_f hf k_4
    refine lv_iload_n hx hb dX11_delay_7 rfl (lv_at hl 2 rfl) ?_
    refine lv_iconst (v := 0) hx hb dX11_delay_8 (by decide) ?_
    refine lv_bipush (v := 20) hx hb dX11_delay_9 (by decide) ?_
    obtain ⟨r_11, hv_11, hf⟩ := bd1_some hf
    refine kSi (rS [.int l2, .int 0, .int 20] [] S (c_X11_in l dC dI cI cJ cZ s.heap.size l2 0 20 r_11 hv_11) (va_cwS 3 hts gX11_delay_X11_in rfl rfl rfl (by decide +kernel) ⟨Nat.le_of_ble_eq_true rfl, Nat.le_of_ble_eq_true rfl⟩) hP hD hK hN [] rfl (by decide +kernel) rfl hl.1 rfl (Nat.le_of_ble_eq_true rfl) dX11_delay_11 ⟨Nat.le_of_ble_eq_true rfl, Nat.le_of_ble_eq_true rfl⟩) ?_
    refine lv_if_ne (tgt := 20) hx hb dX11_delay_14 (by decide) (fun k_14 => ?_) (fun k_14 => ?_)
    · have hf := ite_f hf k_14
      refine lv_aload_n hx hb dX11_delay_20 rfl (lv_at hl 0 rfl) ?_
      refine va_get (D := (dC, dI)) (ci := 11) (v := .ref h_this_delay) (C := RX11) (T := TX11) (N := 30) hx hb hts in_X11_delay_X11 hown hK hP 0 rfl rfl 5 (by decide) (hts _ m_X11_delay_f25) (fun _ h9 => h9) rfl dX11_delay_21 ?_
      refine lv_iload_n hx hb dX11_delay_24 rfl (lv_at hl 1 rfl) ?_
      obtain ⟨g_25, hf⟩ := gd_some hf
      refine va_iald hx hb hK hP 1 0 rfl rfl g_25 dX11_delay_25 ?_
      refine lv_istore_n (lv' := [(3, .int (c_delay (Int32.toNatClampNeg l1))), (0, .ref h_this), (1, .int l1), (2, .int l2)]) hx hb dX11_delay_26 rfl hl (by decide) rfl (fun ls hl => ?_)
      refine lv_aload_n hx hb dX11_delay_27 rfl (lv_at hl 1 rfl) ?_
      refine va_get (D := (dC, dI)) (ci := 11) (v := .ref h_this_delay) (C := RX11) (T := TX11) (N := 30) hx hb hts in_X11_delay_X11 hown hK hP 0 rfl rfl 5 (by decide) (hts _ m_X11_delay_f25) (fun _ h9 => h9) rfl dX11_delay_28 ?_
      refine lv_iload_n hx hb dX11_delay_31 rfl (lv_at hl 2 rfl) ?_
      refine lv_iload_n hx hb dX11_delay_32 rfl (lv_at hl 3 rfl) ?_
      obtain ⟨g_33, hf⟩ := gd_some hf
      refine va_iast hx hb hK hP hD hS 1 0 rfl rfl g_33 dX11_delay_33 (fun H locs hP hD hS => ?_)
      have hP : va_P (dC, dI) vwCl (w_X11_delay cI cJ cZ h_this h_this_delay g_this_book g_this_now g_this_width g_this_key g_this_wide g_this_ahead g_this_after g_this_sight g_this_pad g_this_counts g_this_isOne g_this_ways g_this_image g_this_isKept c_rules c_sights c_signs c_reason c_acts c_meetings c_clashes c_first c_where c_door c_wider c_ordersFound c_firstOrder c_least c_leastOrder (upd c_delay (Int32.toNatClampNeg l1) l2)) H := hP
      have hD : va_D A (w_X11_delay cI cJ cZ h_this h_this_delay g_this_book g_this_now g_this_width g_this_key g_this_wide g_this_ahead g_this_after g_this_sight g_this_pad g_this_counts g_this_isOne g_this_ways g_this_image g_this_isKept c_rules c_sights c_signs c_reason c_acts c_meetings c_clashes c_first c_where c_door c_wider c_ordersFound c_firstOrder c_least c_leastOrder (upd c_delay (Int32.toNatClampNeg l1) l2)) := hD
      refine lv_iload_n hx hb dX11_delay_34 rfl (lv_at hl 0 rfl) ?_
      have e_f := Option.some.inj hf
      cases e_f
      exact hret rfl hP hD hS dX11_delay_35
    · have hf := ite_t hf k_14
      refine lv_bipush (v := (-2)) hx hb dX11_delay_17 (by decide) ?_
      have e_f := Option.some.inj hf
      cases e_f
      exact hret rfl hP hD hS dX11_delay_19
abbrev w_X11_say (cI cJ cZ : ClassId) (h_this h_this_pad g_this_book g_this_now g_this_width g_this_key g_this_wide g_this_delay g_this_ahead g_this_after g_this_sight g_this_counts g_this_isOne g_this_ways g_this_image g_this_isKept : Nat) (c_rules : Int32) (c_sights : Int32) (c_signs : Int32) (c_reason : Int32) (c_acts : Int32) (c_meetings : Int32) (c_clashes : Int32) (c_first : Int32) (c_where : Int32) (c_door : Int32) (c_wider : Int32) (c_ordersFound : Int32) (c_firstOrder : Int32) (c_least : Int32) (c_leastOrder : Int32) (c_pad : Nat → Int32) : va_W := [(h_this, .inr (11, [.ref g_this_book, .ref g_this_now, .ref g_this_width, .ref g_this_key, .ref g_this_wide, .ref g_this_delay, .int c_rules, .ref g_this_ahead, .ref g_this_after, .int c_sights, .ref g_this_sight, .int c_signs, .ref h_this_pad, .int c_reason, .int c_acts, .int c_meetings, .int c_clashes, .int c_first, .int c_where, .int c_door, .int c_wider, .int c_ordersFound, .int c_firstOrder, .int c_least, .int c_leastOrder, .ref g_this_counts, .ref g_this_isOne, .ref g_this_ways, .ref g_this_image, .ref g_this_isKept])), (h_this_pad, .inl (cI, 60, .inl c_pad))]
abbrev rm_X11_say : Room := { frames := 1, cells := 0, slots := 0, locals := 22 }
theorem m_X11_say_f68 : (.fieldLink RX11 68 "WovenRowsModel" "signs" "I" : Cond) ∈ wsX11_say := by decide +kernel
theorem in_X11_say_X11 : ∀ w ∈ u_ws RX11 TX11 30, w ∈ wsX11_say := by decide +kernel
theorem m_X11_say_f37 : (.fieldLink RX11 37 "WovenRowsModel" "pad" "[I" : Cond) ∈ wsX11_say := by decide +kernel
set_option maxRecDepth 100000 in
set_option maxHeartbeats 4000000 in
theorem c_X11_say (l : Launch) (dC : Nat → ClassId) (dI : Nat → Nat → Nat) (cI cJ cZ : ClassId) (h_this h_this_pad g_this_book g_this_now g_this_width g_this_key g_this_wide g_this_delay g_this_ahead g_this_after g_this_sight g_this_counts g_this_isOne g_this_ways g_this_image g_this_isKept : Nat) (sz : Nat) (c_rules : Int32) (c_sights : Int32) (c_signs : Int32) (c_reason : Int32) (c_acts : Int32) (c_meetings : Int32) (c_clashes : Int32) (c_first : Int32) (c_where : Int32) (c_door : Int32) (c_wider : Int32) (c_ordersFound : Int32) (c_firstOrder : Int32) (c_least : Int32) (c_leastOrder : Int32) (c_pad : Nat → Int32) (l1 : Int32) (r : Int32) (z_signs : Int32) (z_pad : Nat → Int32) (hf : f_X11_say c_signs c_pad l1 = some (r, z_signs, z_pad)) : Met l yX11_say wsX11_say rm_X11_say (va_Pc [.ref h_this, .int l1] (PRE (dC, dI) (TY cI cJ cZ) sz (w_X11_say cI cJ cZ h_this h_this_pad g_this_book g_this_now g_this_width g_this_key g_this_wide g_this_delay g_this_ahead g_this_after g_this_sight g_this_counts g_this_isOne g_this_ways g_this_image g_this_isKept c_rules c_sights c_signs c_reason c_acts c_meetings c_clashes c_first c_where c_door c_wider c_ordersFound c_firstOrder c_least c_leastOrder c_pad))) (va_Qi (fun r' (_ : Unit) => r' = r) (POW (dC, dI) (va_A (w_X11_say cI cJ cZ h_this h_this_pad g_this_book g_this_now g_this_width g_this_key g_this_wide g_this_delay g_this_ahead g_this_after g_this_sight g_this_counts g_this_isOne g_this_ways g_this_image g_this_isKept c_rules c_sights c_signs c_reason c_acts c_meetings c_clashes c_first c_where c_door c_wider c_ordersFound c_firstOrder c_least c_leastOrder c_pad) sz) (w_X11_say cI cJ cZ h_this h_this_pad g_this_book g_this_now g_this_width g_this_key g_this_wide g_this_delay g_this_ahead g_this_after g_this_sight g_this_counts g_this_isOne g_this_ways g_this_image g_this_isKept c_rules c_sights z_signs c_reason c_acts c_meetings c_clashes c_first c_where c_door c_wider c_ordersFound c_firstOrder c_least c_leastOrder z_pad)) (va_A (w_X11_say cI cJ cZ h_this h_this_pad g_this_book g_this_now g_this_width g_this_key g_this_wide g_this_delay g_this_ahead g_this_after g_this_sight g_this_counts g_this_isOne g_this_ways g_this_image g_this_isKept c_rules c_sights c_signs c_reason c_acts c_meetings c_clashes c_first c_where c_door c_wider c_ordersFound c_firstOrder c_least c_leastOrder c_pad) sz)) 0 0 (va_A (w_X11_say cI cJ cZ h_this h_this_pad g_this_book g_this_now g_this_width g_this_key g_this_wide g_this_delay g_this_ahead g_this_after g_this_sight g_this_counts g_this_isOne g_this_ways g_this_image g_this_isKept c_rules c_sights c_signs c_reason c_acts c_meetings c_clashes c_first c_where c_door c_wider c_ordersFound c_firstOrder c_least c_leastOrder c_pad) sz) := by
  refine ofWi (ty := .int) (by decide +kernel) rfl (Nat.le_of_ble_eq_true rfl) ?_
  intro p e s m args below meth c Z A ls S hP hD hK hN hA hl hret
  obtain ⟨hx, hb, hml, hown, hts⟩ := id S
  have hown : s.vm.findClass RX11 = some m.cls := hown
  have hS : va_S A s.heap s.heap [] := va_S.rf
  have hl : lv_has ls 2 [(0, .ref h_this), (1, .int l1)] := hl
  unfold f_X11_say at hf
  refine lv_iload_n hx hb dX11_say_0 rfl (lv_at hl 1 rfl) ?_
  refine lv_bipush (v := 33) hx hb dX11_say_1 (by decide) ?_
  refine lv_bipush (v := 126) hx hb dX11_say_3 (by decide) ?_
  obtain ⟨r_5, hv_5, hf⟩ := bd1_some hf
  refine kSi (rS [.int l1, .int 33, .int 126] [] S (c_X11_in l dC dI cI cJ cZ s.heap.size l1 33 126 r_5 hv_5) (va_cwS 3 hts gX11_say_X11_in rfl rfl rfl (by decide +kernel) ⟨Nat.le_of_ble_eq_true rfl, Nat.le_of_ble_eq_true rfl⟩) hP hD hK hN [] rfl (by decide +kernel) rfl hl.1 rfl (Nat.le_of_ble_eq_true rfl) dX11_say_5 ⟨Nat.le_of_ble_eq_true rfl, Nat.le_of_ble_eq_true rfl⟩) ?_
  refine lv_if_ne (tgt := 14) hx hb dX11_say_8 (by decide) (fun k_8 => ?_) (fun k_8 => ?_)
  · have hf := ite_f hf k_8
    refine lv_aload_n hx hb dX11_say_14 rfl (lv_at hl 0 rfl) ?_
    refine va_get (D := (dC, dI)) (ci := 11) (v := .int c_signs) (C := RX11) (T := TX11) (N := 30) hx hb hts in_X11_say_X11 hown hK hP 0 rfl rfl 11 (by decide) (hts _ m_X11_say_f68) (fun _ h9 => h9) rfl dX11_say_15 ?_
    refine lv_bipush (v := 60) hx hb dX11_say_18 (by decide) ?_
    refine lv_icmp_ne (tgt := 26) hx hb dX11_say_20 (by decide) (fun k_20 => ?_) (fun k_20 => ?_)
    · have hf := ite_f hf k_20
      refine lv_aload_n hx hb dX11_say_26 rfl (lv_at hl 0 rfl) ?_
      refine va_get (D := (dC, dI)) (ci := 11) (v := .ref h_this_pad) (C := RX11) (T := TX11) (N := 30) hx hb hts in_X11_say_X11 hown hK hP 0 rfl rfl 12 (by decide) (hts _ m_X11_say_f37) (fun _ h9 => h9) rfl dX11_say_27 ?_
      refine lv_aload_n hx hb dX11_say_30 rfl (lv_at hl 0 rfl) ?_
      refine va_get (D := (dC, dI)) (ci := 11) (v := .int c_signs) (C := RX11) (T := TX11) (N := 30) hx hb hts in_X11_say_X11 hown hK hP 0 rfl rfl 11 (by decide) (hts _ m_X11_say_f68) (fun _ h9 => h9) rfl dX11_say_31 ?_
      refine lv_iload_n hx hb dX11_say_34 rfl (lv_at hl 1 rfl) ?_
      obtain ⟨g_35, hf⟩ := gd_some hf
      refine va_iast hx hb hK hP hD hS 1 0 rfl rfl g_35 dX11_say_35 (fun H locs hP hD hS => ?_)
      have hP : va_P (dC, dI) vwCl (w_X11_say cI cJ cZ h_this h_this_pad g_this_book g_this_now g_this_width g_this_key g_this_wide g_this_delay g_this_ahead g_this_after g_this_sight g_this_counts g_this_isOne g_this_ways g_this_image g_this_isKept c_rules c_sights c_signs c_reason c_acts c_meetings c_clashes c_first c_where c_door c_wider c_ordersFound c_firstOrder c_least c_leastOrder (upd c_pad (Int32.toNatClampNeg c_signs) l1)) H := hP
      have hD : va_D A (w_X11_say cI cJ cZ h_this h_this_pad g_this_book g_this_now g_this_width g_this_key g_this_wide g_this_delay g_this_ahead g_this_after g_this_sight g_this_counts g_this_isOne g_this_ways g_this_image g_this_isKept c_rules c_sights c_signs c_reason c_acts c_meetings c_clashes c_first c_where c_door c_wider c_ordersFound c_firstOrder c_least c_leastOrder (upd c_pad (Int32.toNatClampNeg c_signs) l1)) := hD
      refine lv_aload_n hx hb dX11_say_36 rfl (lv_at hl 0 rfl) ?_
      refine lv_dup hx hb dX11_say_37 rfl ?_
      refine va_get (D := (dC, dI)) (ci := 11) (v := .int c_signs) (C := RX11) (T := TX11) (N := 30) hx hb hts in_X11_say_X11 hown hK hP 0 rfl rfl 11 (by decide) (hts _ m_X11_say_f68) (fun _ h9 => h9) rfl dX11_say_38 ?_
      refine lv_iconst (v := 1) hx hb dX11_say_41 (by decide) ?_
      refine lv_iadd hx hb dX11_say_42 ?_
      refine va_put (D := (dC, dI)) (ci := 11) (v := .int (c_signs + 1)) (ty := .int) (C := RX11) (T := TX11) (N := 30) hx hb hts in_X11_say_X11 tyX11 tyX11_ok nmX11 hown hK hP hD hS 0 rfl rfl 11 (by decide) (hts _ m_X11_say_f68) (fun _ h9 => h9) rfl (by decide +kernel) rfl rfl (Nat.le_of_ble_eq_true rfl) dX11_say_43 (fun H locs hP hD hS => ?_)
      have hP : va_P (dC, dI) vwCl (w_X11_say cI cJ cZ h_this h_this_pad g_this_book g_this_now g_this_width g_this_key g_this_wide g_this_delay g_this_ahead g_this_after g_this_sight g_this_counts g_this_isOne g_this_ways g_this_image g_this_isKept c_rules c_sights (c_signs + 1) c_reason c_acts c_meetings c_clashes c_first c_where c_door c_wider c_ordersFound c_firstOrder c_least c_leastOrder (upd c_pad (Int32.toNatClampNeg c_signs) l1)) H := hP
      have hD : va_D A (w_X11_say cI cJ cZ h_this h_this_pad g_this_book g_this_now g_this_width g_this_key g_this_wide g_this_delay g_this_ahead g_this_after g_this_sight g_this_counts g_this_isOne g_this_ways g_this_image g_this_isKept c_rules c_sights (c_signs + 1) c_reason c_acts c_meetings c_clashes c_first c_where c_door c_wider c_ordersFound c_firstOrder c_least c_leastOrder (upd c_pad (Int32.toNatClampNeg c_signs) l1)) := hD
      refine lv_aload_n hx hb dX11_say_46 rfl (lv_at hl 0 rfl) ?_
      refine va_get (D := (dC, dI)) (ci := 11) (v := .int (c_signs + 1)) (C := RX11) (T := TX11) (N := 30) hx hb hts in_X11_say_X11 hown hK hP 0 rfl rfl 11 (by decide) (hts _ m_X11_say_f68) (fun _ h9 => h9) rfl dX11_say_47 ?_
      have e_f := Option.some.inj hf
      cases e_f
      exact hret rfl hP hD hS dX11_say_50
    · have hf := ite_t hf k_20
      refine lv_bipush (v := (-4)) hx hb dX11_say_23 (by decide) ?_
      have e_f := Option.some.inj hf
      cases e_f
      exact hret rfl hP hD hS dX11_say_25
  · have hf := ite_t hf k_8
    refine lv_bipush (v := (-2)) hx hb dX11_say_11 (by decide) ?_
    have e_f := Option.some.inj hf
    cases e_f
    exact hret rfl hP hD hS dX11_say_13
abbrev w_X11_wipe (cI cJ cZ : ClassId) (h_this g_this_book g_this_now g_this_width g_this_key g_this_wide g_this_delay g_this_ahead g_this_after g_this_sight g_this_pad g_this_counts g_this_isOne g_this_ways g_this_image g_this_isKept : Nat) (c_rules : Int32) (c_sights : Int32) (c_signs : Int32) (c_reason : Int32) (c_acts : Int32) (c_meetings : Int32) (c_clashes : Int32) (c_first : Int32) (c_where : Int32) (c_door : Int32) (c_wider : Int32) (c_ordersFound : Int32) (c_firstOrder : Int32) (c_least : Int32) (c_leastOrder : Int32) : va_W := [(h_this, .inr (11, [.ref g_this_book, .ref g_this_now, .ref g_this_width, .ref g_this_key, .ref g_this_wide, .ref g_this_delay, .int c_rules, .ref g_this_ahead, .ref g_this_after, .int c_sights, .ref g_this_sight, .int c_signs, .ref g_this_pad, .int c_reason, .int c_acts, .int c_meetings, .int c_clashes, .int c_first, .int c_where, .int c_door, .int c_wider, .int c_ordersFound, .int c_firstOrder, .int c_least, .int c_leastOrder, .ref g_this_counts, .ref g_this_isOne, .ref g_this_ways, .ref g_this_image, .ref g_this_isKept]))]
abbrev rm_X11_wipe : Room := { frames := 0, cells := 0, slots := 0, locals := 0 }
theorem m_X11_wipe_f68 : (.fieldLink RX11 68 "WovenRowsModel" "signs" "I" : Cond) ∈ wsX11_wipe := by decide +kernel
theorem in_X11_wipe_X11 : ∀ w ∈ u_ws RX11 TX11 30, w ∈ wsX11_wipe := by decide +kernel
set_option maxRecDepth 100000 in
set_option maxHeartbeats 4000000 in
theorem c_X11_wipe (l : Launch) (dC : Nat → ClassId) (dI : Nat → Nat → Nat) (cI cJ cZ : ClassId) (h_this g_this_book g_this_now g_this_width g_this_key g_this_wide g_this_delay g_this_ahead g_this_after g_this_sight g_this_pad g_this_counts g_this_isOne g_this_ways g_this_image g_this_isKept : Nat) (sz : Nat) (c_rules : Int32) (c_sights : Int32) (c_signs : Int32) (c_reason : Int32) (c_acts : Int32) (c_meetings : Int32) (c_clashes : Int32) (c_first : Int32) (c_where : Int32) (c_door : Int32) (c_wider : Int32) (c_ordersFound : Int32) (c_firstOrder : Int32) (c_least : Int32) (c_leastOrder : Int32) (r : Int32) (z_signs : Int32) (hf : f_X11_wipe c_signs = some (r, z_signs)) : Met l yX11_wipe wsX11_wipe rm_X11_wipe (va_Pc [.ref h_this] (PRE (dC, dI) (TY cI cJ cZ) sz (w_X11_wipe cI cJ cZ h_this g_this_book g_this_now g_this_width g_this_key g_this_wide g_this_delay g_this_ahead g_this_after g_this_sight g_this_pad g_this_counts g_this_isOne g_this_ways g_this_image g_this_isKept c_rules c_sights c_signs c_reason c_acts c_meetings c_clashes c_first c_where c_door c_wider c_ordersFound c_firstOrder c_least c_leastOrder))) (va_Qi (fun r' (_ : Unit) => r' = r) (POW (dC, dI) (va_A (w_X11_wipe cI cJ cZ h_this g_this_book g_this_now g_this_width g_this_key g_this_wide g_this_delay g_this_ahead g_this_after g_this_sight g_this_pad g_this_counts g_this_isOne g_this_ways g_this_image g_this_isKept c_rules c_sights c_signs c_reason c_acts c_meetings c_clashes c_first c_where c_door c_wider c_ordersFound c_firstOrder c_least c_leastOrder) sz) (w_X11_wipe cI cJ cZ h_this g_this_book g_this_now g_this_width g_this_key g_this_wide g_this_delay g_this_ahead g_this_after g_this_sight g_this_pad g_this_counts g_this_isOne g_this_ways g_this_image g_this_isKept c_rules c_sights z_signs c_reason c_acts c_meetings c_clashes c_first c_where c_door c_wider c_ordersFound c_firstOrder c_least c_leastOrder)) (va_A (w_X11_wipe cI cJ cZ h_this g_this_book g_this_now g_this_width g_this_key g_this_wide g_this_delay g_this_ahead g_this_after g_this_sight g_this_pad g_this_counts g_this_isOne g_this_ways g_this_image g_this_isKept c_rules c_sights c_signs c_reason c_acts c_meetings c_clashes c_first c_where c_door c_wider c_ordersFound c_firstOrder c_least c_leastOrder) sz)) 0 0 (va_A (w_X11_wipe cI cJ cZ h_this g_this_book g_this_now g_this_width g_this_key g_this_wide g_this_delay g_this_ahead g_this_after g_this_sight g_this_pad g_this_counts g_this_isOne g_this_ways g_this_image g_this_isKept c_rules c_sights c_signs c_reason c_acts c_meetings c_clashes c_first c_where c_door c_wider c_ordersFound c_firstOrder c_least c_leastOrder) sz) := by
  refine ofWi (ty := .int) (by decide +kernel) rfl (Nat.le_of_ble_eq_true rfl) ?_
  intro p e s m args below meth c Z A ls S hP hD hK hN hA hl hret
  obtain ⟨hx, hb, hml, hown, hts⟩ := id S
  have hown : s.vm.findClass RX11 = some m.cls := hown
  have hS : va_S A s.heap s.heap [] := va_S.rf
  have hl : lv_has ls 2 [(0, .ref h_this)] := hl
  unfold f_X11_wipe at hf
  refine lv_aload_n hx hb dX11_wipe_0 rfl (lv_at hl 0 rfl) ?_
  refine va_get (D := (dC, dI)) (ci := 11) (v := .int c_signs) (C := RX11) (T := TX11) (N := 30) hx hb hts in_X11_wipe_X11 hown hK hP 0 rfl rfl 11 (by decide) (hts _ m_X11_wipe_f68) (fun _ h9 => h9) rfl dX11_wipe_1 ?_
  refine lv_istore_n (lv' := [(1, .int c_signs), (0, .ref h_this)]) hx hb dX11_wipe_4 rfl hl (by decide) rfl (fun ls hl => ?_)
  refine lv_aload_n hx hb dX11_wipe_5 rfl (lv_at hl 1 rfl) ?_
  refine lv_iconst (v := 0) hx hb dX11_wipe_6 (by decide) ?_
  refine va_put (D := (dC, dI)) (ci := 11) (v := .int 0) (ty := .int) (C := RX11) (T := TX11) (N := 30) hx hb hts in_X11_wipe_X11 tyX11 tyX11_ok nmX11 hown hK hP hD hS 0 rfl rfl 11 (by decide) (hts _ m_X11_wipe_f68) (fun _ h9 => h9) rfl (by decide +kernel) rfl rfl (Nat.le_of_ble_eq_true rfl) dX11_wipe_7 (fun H locs hP hD hS => ?_)
  have hP : va_P (dC, dI) vwCl (w_X11_wipe cI cJ cZ h_this g_this_book g_this_now g_this_width g_this_key g_this_wide g_this_delay g_this_ahead g_this_after g_this_sight g_this_pad g_this_counts g_this_isOne g_this_ways g_this_image g_this_isKept c_rules c_sights 0 c_reason c_acts c_meetings c_clashes c_first c_where c_door c_wider c_ordersFound c_firstOrder c_least c_leastOrder) H := hP
  have hD : va_D A (w_X11_wipe cI cJ cZ h_this g_this_book g_this_now g_this_width g_this_key g_this_wide g_this_delay g_this_ahead g_this_after g_this_sight g_this_pad g_this_counts g_this_isOne g_this_ways g_this_image g_this_isKept c_rules c_sights 0 c_reason c_acts c_meetings c_clashes c_first c_where c_door c_wider c_ordersFound c_firstOrder c_least c_leastOrder) := hD
  refine lv_iload_n hx hb dX11_wipe_10 rfl (lv_at hl 0 rfl) ?_
  have e_f := Option.some.inj hf
  cases e_f
  exact hret rfl hP hD hS dX11_wipe_11
abbrev w_X11_isLetter : va_W := []
abbrev rm_X11_isLetter : Room := { frames := 1, cells := 0, slots := 0, locals := 22 }
set_option maxRecDepth 100000 in
set_option maxHeartbeats 4000000 in
theorem c_X11_isLetter (l : Launch) (dC : Nat → ClassId) (dI : Nat → Nat → Nat) (cI cJ cZ : ClassId) (sz : Nat) (l0 : Int32) (r : Int32) (hf : f_X11_isLetter l0 = some r) : Met l yX11_isLetter wsX11_isLetter rm_X11_isLetter (va_Pc [.int l0] (PRE (dC, dI) (TY cI cJ cZ) sz w_X11_isLetter)) (vp_Si (fun r' => r' = r)) 0 0 (fun _ => False) := by
  refine ofSi (ty := .boolean) (by decide +kernel) rfl (Nat.le_of_ble_eq_true rfl) ?_
  intro p e s m args below meth c Z ls S hP hD hK hN hl hret
  obtain ⟨hx, hb, hml, hown, hts⟩ := id S
  have hown : s.vm.findClass RX11 = some m.cls := hown
  have hl : lv_has ls 1 [(0, .int l0)] := hl
  unfold f_X11_isLetter at hf
  refine lv_iload_n hx hb dX11_isLetter_0 rfl (lv_at hl 0 rfl) ?_
  refine lv_bipush (v := 65) hx hb dX11_isLetter_1 (by decide) ?_
  refine lv_bipush (v := 74) hx hb dX11_isLetter_3 (by decide) ?_
  obtain ⟨r_5, hv_5, hf⟩ := bd1_some hf
  refine kSi (rS [.int l0, .int 65, .int 74] [] S (c_X11_in l dC dI cI cJ cZ s.heap.size l0 65 74 r_5 hv_5) (va_cwS 3 hts gX11_isLetter_X11_in rfl rfl rfl (by decide +kernel) ⟨Nat.le_of_ble_eq_true rfl, Nat.le_of_ble_eq_true rfl⟩) hP hD hK hN [] rfl (by decide +kernel) rfl hl.1 rfl (Nat.le_of_ble_eq_true rfl) dX11_isLetter_5 ⟨Nat.le_of_ble_eq_true rfl, Nat.le_of_ble_eq_true rfl⟩) ?_
  obtain ⟨hb_8, hf⟩ := gb_some hf
  have e_f := Option.some.inj hf
  cases e_f
  exact hret (nar_bool hb_8) dX11_isLetter_8
abbrev w_X11_faultOf (cI cJ cZ : ClassId) (h_this h_this_pad g_this_book g_this_now g_this_width g_this_key g_this_wide g_this_delay g_this_ahead g_this_after g_this_sight g_this_counts g_this_isOne g_this_ways g_this_image g_this_isKept : Nat) (c_rules : Int32) (c_sights : Int32) (c_signs : Int32) (c_reason : Int32) (c_acts : Int32) (c_meetings : Int32) (c_clashes : Int32) (c_first : Int32) (c_where : Int32) (c_door : Int32) (c_wider : Int32) (c_ordersFound : Int32) (c_firstOrder : Int32) (c_least : Int32) (c_leastOrder : Int32) (c_pad : Nat → Int32) : va_W := [(h_this, .inr (11, [.ref g_this_book, .ref g_this_now, .ref g_this_width, .ref g_this_key, .ref g_this_wide, .ref g_this_delay, .int c_rules, .ref g_this_ahead, .ref g_this_after, .int c_sights, .ref g_this_sight, .int c_signs, .ref h_this_pad, .int c_reason, .int c_acts, .int c_meetings, .int c_clashes, .int c_first, .int c_where, .int c_door, .int c_wider, .int c_ordersFound, .int c_firstOrder, .int c_least, .int c_leastOrder, .ref g_this_counts, .ref g_this_isOne, .ref g_this_ways, .ref g_this_image, .ref g_this_isKept])), (h_this_pad, .inl (cI, 60, .inl c_pad))]
abbrev rm_X11_faultOf : Room := { frames := 2, cells := 0, slots := 0, locals := 42 }
theorem m_X11_faultOf_f68 : (.fieldLink RX11 68 "WovenRowsModel" "signs" "I" : Cond) ∈ wsX11_faultOf := by decide +kernel
theorem in_X11_faultOf_X11 : ∀ w ∈ u_ws RX11 TX11 30, w ∈ wsX11_faultOf := by decide +kernel
theorem m_X11_faultOf_f37 : (.fieldLink RX11 37 "WovenRowsModel" "pad" "[I" : Cond) ∈ wsX11_faultOf := by decide +kernel
set_option maxRecDepth 100000 in
set_option maxHeartbeats 4000000 in
theorem c_X11_faultOf (l : Launch) (dC : Nat → ClassId) (dI : Nat → Nat → Nat) (cI cJ cZ : ClassId) (h_this h_this_pad g_this_book g_this_now g_this_width g_this_key g_this_wide g_this_delay g_this_ahead g_this_after g_this_sight g_this_counts g_this_isOne g_this_ways g_this_image g_this_isKept : Nat) (sz : Nat) (c_rules : Int32) (c_sights : Int32) (c_signs : Int32) (c_reason : Int32) (c_acts : Int32) (c_meetings : Int32) (c_clashes : Int32) (c_first : Int32) (c_where : Int32) (c_door : Int32) (c_wider : Int32) (c_ordersFound : Int32) (c_firstOrder : Int32) (c_least : Int32) (c_leastOrder : Int32) (c_pad : Nat → Int32) (r : Int32) (hf : f_X11_faultOf c_signs c_pad = some r) : Met l yX11_faultOf wsX11_faultOf rm_X11_faultOf (va_Pc [.ref h_this] (PRE (dC, dI) (TY cI cJ cZ) sz (w_X11_faultOf cI cJ cZ h_this h_this_pad g_this_book g_this_now g_this_width g_this_key g_this_wide g_this_delay g_this_ahead g_this_after g_this_sight g_this_counts g_this_isOne g_this_ways g_this_image g_this_isKept c_rules c_sights c_signs c_reason c_acts c_meetings c_clashes c_first c_where c_door c_wider c_ordersFound c_firstOrder c_least c_leastOrder c_pad))) (vp_Si (fun r' => r' = r)) 0 0 (fun _ => False) := by
  refine ofSi (ty := .int) (by decide +kernel) rfl (Nat.le_of_ble_eq_true rfl) ?_
  intro p e s m args below meth c Z ls S hP hD hK hN hl hret
  obtain ⟨hx, hb, hml, hown, hts⟩ := id S
  have hown : s.vm.findClass RX11 = some m.cls := hown
  have hl : lv_has ls 5 [(0, .ref h_this)] := hl
  unfold f_X11_faultOf at hf
  refine lv_iconst (v := 0) hx hb dX11_faultOf_0 (by decide) ?_
  refine lv_istore_n (lv' := [(1, .int 0), (0, .ref h_this)]) hx hb dX11_faultOf_1 rfl hl (by decide) rfl (fun ls hl => ?_)
  refine lv_iconst (v := 0) hx hb dX11_faultOf_2 (by decide) ?_
  refine lv_istore_n (lv' := [(2, .int 0), (1, .int 0), (0, .ref h_this)]) hx hb dX11_faultOf_3 rfl hl (by decide) rfl (fun ls hl => ?_)
  obtain ⟨q_4, hq_4, hqa_4, hqb_4⟩ := bdr_some hf
  have K_4 : ∀ (l1_4x : Int32) (l2_4x : Int32), q_4 = .inl (l1_4x, l2_4x) → ∀ (ls : Array Slot), lv_has ls 5 [(0, .ref h_this), (1, .int l1_4x)] → W p l e rm_X11_faultOf s m args below meth c s.heap [] 0 0 Z (F0 m 135 ls []) := by
    intro l1_4x l2_4x e_4 ls hl
    have hf := hqa_4 _ e_4
    try dsimp only at hf
    refine lv_iload_n hx hb dX11_faultOf_135 rfl (lv_at hl 1 rfl) ?_
    refine lv_if_ne (tgt := 144) hx hb dX11_faultOf_136 (by decide) (fun k_136 => ?_) (fun k_136 => ?_)
    · have hf := ite_f hf k_136
      refine lv_aload_n hx hb dX11_faultOf_144 rfl (lv_at hl 0 rfl) ?_
      refine va_get (D := (dC, dI)) (ci := 11) (v := .int c_signs) (C := RX11) (T := TX11) (N := 30) hx hb hts in_X11_faultOf_X11 hown hK hP 0 rfl rfl 11 (by decide) (hts _ m_X11_faultOf_f68) (fun _ h9 => h9) rfl dX11_faultOf_145 ?_
      have e_f := Option.some.inj hf
      cases e_f
      exact hret rfl dX11_faultOf_148
    · have hf := ite_t hf k_136
      refine lv_bipush (v := (-6)) hx hb dX11_faultOf_139 (by decide) ?_
      refine lv_goto (tgt := 148) hx hb dX11_faultOf_141 (by decide) ?_
      have e_f := Option.some.inj hf
      cases e_f
      exact hret rfl dX11_faultOf_148
  have L_4 : ∀ (n : Nat) (l1_4 : Int32) (l2_4 : Int32) (ls : Array Slot), lv_has ls 5 [(0, .ref h_this), (1, .int l1_4), (2, .int l2_4)] → loopN (fun (q : Int32 × Int32) => f_X11_faultOf_b4 c_signs c_pad q.1 q.2) n (l1_4, l2_4) = some q_4 → W p l e rm_X11_faultOf s m args below meth c s.heap [] 0 0 Z (F0 m 4 ls []) := by
    intro n
    induction n with
    | zero => intro l1_4 l2_4 ls hl hq; exact (loopN_zero hq).elim
    | succ n ih_4 =>
      intro l1_4 l2_4 ls hl hq
      obtain ⟨o_4, hf, ho1_4, ho2_4⟩ := loopN_step hq
      have hf : f_X11_faultOf_b4 c_signs c_pad l1_4 l2_4 = some o_4 := hf
      unfold f_X11_faultOf_b4 at hf
      have J_128 : ∀ (l2_128j : Int32) (s0_128j : Int32) (ls : Array Slot), lv_has ls 5 [(0, .ref h_this), (2, .int l2_128j)] → f_X11_faultOf_j128 l2_128j s0_128j = some o_4 → W p l e rm_X11_faultOf s m args below meth c s.heap [] 0 0 Z (F0 m 128 ls [.int s0_128j]) := by
        intro l2_128j s0_128j ls hl hf
        unfold f_X11_faultOf_j128 at hf
        refine lv_istore_n (lv' := [(1, .int s0_128j), (0, .ref h_this), (2, .int l2_128j)]) hx hb dX11_faultOf_128 rfl hl (by decide) rfl (fun ls hl => ?_)
        refine lv_iinc (v := (l2_128j + 1)) (lv' := [(2, .int (l2_128j + 1)), (1, .int s0_128j), (0, .ref h_this)]) hx hb dX11_faultOf_129 hl (k := 2) rfl rfl (by decide) rfl (fun ls hl => ?_)
        refine lv_goto (tgt := 4) hx hb dX11_faultOf_132 (by decide) ?_
        exact ih_4 s0_128j (l2_128j + 1) ls (lv_sub hl [2, 1, 0] rfl) (ho1_4 _ (Option.some.inj hf).symm)
      have J_127 : ∀ (l2_127j : Int32) (ls : Array Slot), lv_has ls 5 [(0, .ref h_this), (2, .int l2_127j)] → f_X11_faultOf_j127 l2_127j = some o_4 → W p l e rm_X11_faultOf s m args below meth c s.heap [] 0 0 Z (F0 m 127 ls []) := by
        intro l2_127j ls hl hf
        unfold f_X11_faultOf_j127 at hf
        refine lv_iconst (v := 0) hx hb dX11_faultOf_127 (by decide) ?_
        exact J_128 l2_127j 0 ls (lv_sub hl [0, 1] rfl) hf
      have J_85 : ∀ (l1_85j : Int32) (l2_85j : Int32) (l3_85j : Int32) (s0_85j : Int32) (ls : Array Slot), lv_has ls 5 [(0, .ref h_this), (1, .int l1_85j), (2, .int l2_85j), (3, .int l3_85j)] → f_X11_faultOf_j85 l1_85j l2_85j l3_85j s0_85j = some o_4 → W p l e rm_X11_faultOf s m args below meth c s.heap [] 0 0 Z (F0 m 85 ls [.int s0_85j]) := by
        intro l1_85j l2_85j l3_85j s0_85j ls hl hf
        unfold f_X11_faultOf_j85 at hf
        refine lv_istore (lv' := [(4, .int s0_85j), (0, .ref h_this), (1, .int l1_85j), (2, .int l2_85j), (3, .int l3_85j)]) hx hb dX11_faultOf_85 hl (by decide) rfl (fun ls hl => ?_)
        refine lv_iload hx hb dX11_faultOf_87 (lv_at hl 0 rfl) ?_
        refine lv_if_ne (tgt := 94) hx hb dX11_faultOf_89 (by decide) (fun k_89 => ?_) (fun k_89 => ?_)
        · have hf := ite_f hf k_89
          refine lv_iload_n hx hb dX11_faultOf_94 rfl (lv_at hl 2 rfl) ?_
          refine lv_if_ne (tgt := 112) hx hb dX11_faultOf_95 (by decide) (fun k_95 => ?_) (fun k_95 => ?_)
          · have hf := ite_f hf k_95
            refine lv_iload_n hx hb dX11_faultOf_112 rfl (lv_at hl 2 rfl) ?_
            refine lv_iconst (v := 1) hx hb dX11_faultOf_113 (by decide) ?_
            refine lv_icmp_ne (tgt := 127) hx hb dX11_faultOf_114 (by decide) (fun k_114 => ?_) (fun k_114 => ?_)
            · have hf := ite_f hf k_114
              exact J_127 l2_85j ls (lv_sub hl [1, 3] rfl) hf
            · have hf := ite_t hf k_114
              refine lv_iload_n hx hb dX11_faultOf_117 rfl (lv_at hl 4 rfl) ?_
              refine lv_bipush (v := 120) hx hb dX11_faultOf_118 (by decide) ?_
              refine lv_icmp_ne (tgt := 127) hx hb dX11_faultOf_120 (by decide) (fun k_120 => ?_) (fun k_120 => ?_)
              · have hf := ite_f hf k_120
                exact J_127 l2_85j ls (lv_sub hl [1, 3] rfl) hf
              · have hf := ite_t hf k_120
                refine lv_iconst (v := 2) hx hb dX11_faultOf_123 (by decide) ?_
                refine lv_goto (tgt := 128) hx hb dX11_faultOf_124 (by decide) ?_
                exact J_128 l2_85j 2 ls (lv_sub hl [1, 3] rfl) hf
          · have hf := ite_t hf k_95
            refine lv_iload_n hx hb dX11_faultOf_98 rfl (lv_at hl 4 rfl) ?_
            refine lv_bipush (v := 33) hx hb dX11_faultOf_99 (by decide) ?_
            refine lv_icmp_ne (tgt := 108) hx hb dX11_faultOf_101 (by decide) (fun k_101 => ?_) (fun k_101 => ?_)
            · have hf := ite_f hf k_101
              refine lv_iconst (v := 1) hx hb dX11_faultOf_108 (by decide) ?_
              refine lv_goto (tgt := 128) hx hb dX11_faultOf_109 (by decide) ?_
              exact J_128 l2_85j 1 ls (lv_sub hl [1, 3] rfl) hf
            · have hf := ite_t hf k_101
              refine lv_iconst (v := 0) hx hb dX11_faultOf_104 (by decide) ?_
              refine lv_goto (tgt := 128) hx hb dX11_faultOf_105 (by decide) ?_
              exact J_128 l2_85j 0 ls (lv_sub hl [1, 3] rfl) hf
        · have hf := ite_t hf k_89
          refine lv_iload_n hx hb dX11_faultOf_92 rfl (lv_at hl 3 rfl) ?_
          have e_f := (hqb_4 _ (ho2_4 _ (Option.some.inj hf).symm).symm)
          cases e_f
          exact hret rfl dX11_faultOf_93
      have J_80 : ∀ (l1_80j : Int32) (l2_80j : Int32) (l3_80j : Int32) (ls : Array Slot), lv_has ls 5 [(0, .ref h_this), (1, .int l1_80j), (2, .int l2_80j), (3, .int l3_80j)] → f_X11_faultOf_j80 l1_80j l2_80j l3_80j = some o_4 → W p l e rm_X11_faultOf s m args below meth c s.heap [] 0 0 Z (F0 m 80 ls []) := by
        intro l1_80j l2_80j l3_80j ls hl hf
        unfold f_X11_faultOf_j80 at hf
        refine lv_iconst (v := 1) hx hb dX11_faultOf_80 (by decide) ?_
        refine lv_goto (tgt := 85) hx hb dX11_faultOf_81 (by decide) ?_
        exact J_85 l1_80j l2_80j l3_80j 1 ls (lv_sub hl [0, 1, 2, 3] rfl) hf
      have J_36 : ∀ (l1_36j : Int32) (l2_36j : Int32) (l3_36j : Int32) (ls : Array Slot), lv_has ls 5 [(0, .ref h_this), (1, .int l1_36j), (2, .int l2_36j), (3, .int l3_36j)] → f_X11_faultOf_j36 l1_36j l2_36j l3_36j = some o_4 → W p l e rm_X11_faultOf s m args below meth c s.heap [] 0 0 Z (F0 m 36 ls []) := by
        intro l1_36j l2_36j l3_36j ls hl hf
        unfold f_X11_faultOf_j36 at hf
        refine lv_iconst (v := 1) hx hb dX11_faultOf_36 (by decide) ?_
        refine lv_goto (tgt := 85) hx hb dX11_faultOf_37 (by decide) ?_
        exact J_85 l1_36j l2_36j l3_36j 1 ls (lv_sub hl [0, 1, 2, 3] rfl) hf
      refine lv_iload_n hx hb dX11_faultOf_4 rfl (lv_at hl 2 rfl) ?_
      refine lv_aload_n hx hb dX11_faultOf_5 rfl (lv_at hl 0 rfl) ?_
      refine va_get (D := (dC, dI)) (ci := 11) (v := .int c_signs) (C := RX11) (T := TX11) (N := 30) hx hb hts in_X11_faultOf_X11 hown hK hP 0 rfl rfl 11 (by decide) (hts _ m_X11_faultOf_f68) (fun _ h9 => h9) rfl dX11_faultOf_6 ?_
      refine lv_icmp_ge (tgt := 135) hx hb dX11_faultOf_9 (by decide) (fun k_9 => ?_) (fun k_9 => ?_)
      · have hf := ite_t hf k_9
        exact K_4 l1_4 l2_4 (ho2_4 _ (Option.some.inj hf).symm).symm ls (lv_sub hl [0, 1] rfl)
      · have hf := ite_f hf k_9
        refine lv_aload_n hx hb dX11_faultOf_12 rfl (lv_at hl 0 rfl) ?_
        refine va_get (D := (dC, dI)) (ci := 11) (v := .ref h_this_pad) (C := RX11) (T := TX11) (N := 30) hx hb hts in_X11_faultOf_X11 hown hK hP 0 rfl rfl 12 (by decide) (hts _ m_X11_faultOf_f37) (fun _ h9 => h9) rfl dX11_faultOf_13 ?_
        refine lv_iload_n hx hb dX11_faultOf_16 rfl (lv_at hl 2 rfl) ?_
        obtain ⟨g_17, hf⟩ := gd_some hf
        refine va_iald hx hb hK hP 1 0 rfl rfl g_17 dX11_faultOf_17 ?_
        refine lv_istore_n (lv' := [(3, .int (c_pad (Int32.toNatClampNeg l2_4))), (0, .ref h_this), (1, .int l1_4), (2, .int l2_4)]) hx hb dX11_faultOf_18 rfl hl (by decide) rfl (fun ls hl => ?_)
        refine lv_iload_n hx hb dX11_faultOf_19 rfl (lv_at hl 2 rfl) ?_
        refine lv_if_ne (tgt := 44) hx hb dX11_faultOf_20 (by decide) (fun k_20 => ?_) (fun k_20 => ?_)
        · have hf := ite_f hf k_20
          refine lv_iload_n hx hb dX11_faultOf_44 rfl (lv_at hl 2 rfl) ?_
          refine lv_iconst (v := 2) hx hb dX11_faultOf_45 (by decide) ?_
          refine lv_icmp_ne (tgt := 56) hx hb dX11_faultOf_46 (by decide) (fun k_46 => ?_) (fun k_46 => ?_)
          · have hf := ite_f hf k_46
            refine lv_iload_n hx hb dX11_faultOf_56 rfl (lv_at hl 0 rfl) ?_
            refine lv_bipush (v := 100) hx hb dX11_faultOf_57 (by decide) ?_
            refine lv_icmp_eq (tgt := 80) hx hb dX11_faultOf_59 (by decide) (fun k_59 => ?_) (fun k_59 => ?_)
            · have hf := ite_t hf k_59
              exact J_80 l1_4 l2_4 (c_pad (Int32.toNatClampNeg l2_4)) ls (lv_sub hl [1, 2, 3, 0] rfl) hf
            · have hf := ite_f hf k_59
              refine lv_iload_n hx hb dX11_faultOf_62 rfl (lv_at hl 0 rfl) ?_
              refine lv_bipush (v := 117) hx hb dX11_faultOf_63 (by decide) ?_
              refine lv_icmp_eq (tgt := 80) hx hb dX11_faultOf_65 (by decide) (fun k_65 => ?_) (fun k_65 => ?_)
              · have hf := ite_t hf k_65
                exact J_80 l1_4 l2_4 (c_pad (Int32.toNatClampNeg l2_4)) ls (lv_sub hl [1, 2, 3, 0] rfl) hf
              · have hf := ite_f hf k_65
                refine lv_iload_n hx hb dX11_faultOf_68 rfl (lv_at hl 0 rfl) ?_
                refine lv_bipush (v := 45) hx hb dX11_faultOf_69 (by decide) ?_
                refine lv_icmp_eq (tgt := 80) hx hb dX11_faultOf_71 (by decide) (fun k_71 => ?_) (fun k_71 => ?_)
                · have hf := ite_t hf k_71
                  exact J_80 l1_4 l2_4 (c_pad (Int32.toNatClampNeg l2_4)) ls (lv_sub hl [1, 2, 3, 0] rfl) hf
                · have hf := ite_f hf k_71
                  refine lv_iload_n hx hb dX11_faultOf_74 rfl (lv_at hl 0 rfl) ?_
                  refine lv_bipush (v := 120) hx hb dX11_faultOf_75 (by decide) ?_
                  refine lv_icmp_ne (tgt := 84) hx hb dX11_faultOf_77 (by decide) (fun k_77 => ?_) (fun k_77 => ?_)
                  · have hf := ite_f hf k_77
                    refine lv_iconst (v := 0) hx hb dX11_faultOf_84 (by decide) ?_
                    exact J_85 l1_4 l2_4 (c_pad (Int32.toNatClampNeg l2_4)) 0 ls (lv_sub hl [1, 2, 3, 0] rfl) hf
                  · have hf := ite_t hf k_77
                    exact J_80 l1_4 l2_4 (c_pad (Int32.toNatClampNeg l2_4)) ls (lv_sub hl [1, 2, 3, 0] rfl) hf
          · have hf := ite_t hf k_46
            refine lv_iload_n hx hb dX11_faultOf_49 rfl (lv_at hl 0 rfl) ?_
            obtain ⟨r_50, hv_50, hf⟩ := bd1_some hf
            refine kSi (rS [.int (c_pad (Int32.toNatClampNeg l2_4))] [] S (c_X11_isLetter l dC dI cI cJ cZ s.heap.size (c_pad (Int32.toNatClampNeg l2_4)) r_50 hv_50) (va_cwS 1 hts gX11_faultOf_X11_isLetter rfl rfl rfl (by decide +kernel) ⟨Nat.le_of_ble_eq_true rfl, Nat.le_of_ble_eq_true rfl⟩) hP hD hK hN [] rfl (by decide +kernel) rfl hl.1 rfl (Nat.le_of_ble_eq_true rfl) dX11_faultOf_50 ⟨Nat.le_of_ble_eq_true rfl, Nat.le_of_ble_eq_true rfl⟩) ?_
            refine lv_goto (tgt := 85) hx hb dX11_faultOf_53 (by decide) ?_
            exact J_85 l1_4 l2_4 (c_pad (Int32.toNatClampNeg l2_4)) r_50 ls (lv_sub hl [1, 2, 3, 0] rfl) hf
        · have hf := ite_t hf k_20
          refine lv_iload_n hx hb dX11_faultOf_23 rfl (lv_at hl 0 rfl) ?_
          obtain ⟨r_24, hv_24, hf⟩ := bd1_some hf
          refine kSi (rS [.int (c_pad (Int32.toNatClampNeg l2_4))] [] S (c_X11_isLetter l dC dI cI cJ cZ s.heap.size (c_pad (Int32.toNatClampNeg l2_4)) r_24 hv_24) (va_cwS 1 hts gX11_faultOf_X11_isLetter rfl rfl rfl (by decide +kernel) ⟨Nat.le_of_ble_eq_true rfl, Nat.le_of_ble_eq_true rfl⟩) hP hD hK hN [] rfl (by decide +kernel) rfl hl.1 rfl (Nat.le_of_ble_eq_true rfl) dX11_faultOf_24 ⟨Nat.le_of_ble_eq_true rfl, Nat.le_of_ble_eq_true rfl⟩) ?_
          refine lv_if_ne (tgt := 36) hx hb dX11_faultOf_27 (by decide) (fun k_27 => ?_) (fun k_27 => ?_)
          · have hf := ite_f hf k_27
            exact J_36 l1_4 l2_4 (c_pad (Int32.toNatClampNeg l2_4)) ls (lv_sub hl [1, 2, 3, 0] rfl) hf
          · have hf := ite_t hf k_27
            refine lv_iload_n hx hb dX11_faultOf_30 rfl (lv_at hl 0 rfl) ?_
            refine lv_bipush (v := 33) hx hb dX11_faultOf_31 (by decide) ?_
            refine lv_icmp_ne (tgt := 40) hx hb dX11_faultOf_33 (by decide) (fun k_33 => ?_) (fun k_33 => ?_)
            · have hf := ite_f hf k_33
              refine lv_iconst (v := 0) hx hb dX11_faultOf_40 (by decide) ?_
              refine lv_goto (tgt := 85) hx hb dX11_faultOf_41 (by decide) ?_
              exact J_85 l1_4 l2_4 (c_pad (Int32.toNatClampNeg l2_4)) 0 ls (lv_sub hl [1, 2, 3, 0] rfl) hf
            · have hf := ite_t hf k_33
              exact J_36 l1_4 l2_4 (c_pad (Int32.toNatClampNeg l2_4)) ls (lv_sub hl [1, 2, 3, 0] rfl) hf
  exact L_4 FU 0 0 ls (lv_sub hl [2, 1, 0] rfl) hq_4
abbrev w_X11_fault (cI cJ cZ : ClassId) (h_this h_this_pad g_this_book g_this_now g_this_width g_this_key g_this_wide g_this_delay g_this_ahead g_this_after g_this_sight g_this_counts g_this_isOne g_this_ways g_this_image g_this_isKept : Nat) (c_rules : Int32) (c_sights : Int32) (c_signs : Int32) (c_reason : Int32) (c_acts : Int32) (c_meetings : Int32) (c_clashes : Int32) (c_first : Int32) (c_where : Int32) (c_door : Int32) (c_wider : Int32) (c_ordersFound : Int32) (c_firstOrder : Int32) (c_least : Int32) (c_leastOrder : Int32) (c_pad : Nat → Int32) : va_W := [(h_this, .inr (11, [.ref g_this_book, .ref g_this_now, .ref g_this_width, .ref g_this_key, .ref g_this_wide, .ref g_this_delay, .int c_rules, .ref g_this_ahead, .ref g_this_after, .int c_sights, .ref g_this_sight, .int c_signs, .ref h_this_pad, .int c_reason, .int c_acts, .int c_meetings, .int c_clashes, .int c_first, .int c_where, .int c_door, .int c_wider, .int c_ordersFound, .int c_firstOrder, .int c_least, .int c_leastOrder, .ref g_this_counts, .ref g_this_isOne, .ref g_this_ways, .ref g_this_image, .ref g_this_isKept])), (h_this_pad, .inl (cI, 60, .inl c_pad))]
abbrev rm_X11_fault : Room := { frames := 3, cells := 0, slots := 0, locals := 66 }
set_option maxRecDepth 100000 in
set_option maxHeartbeats 4000000 in
theorem c_X11_fault (l : Launch) (dC : Nat → ClassId) (dI : Nat → Nat → Nat) (cI cJ cZ : ClassId) (h_this h_this_pad g_this_book g_this_now g_this_width g_this_key g_this_wide g_this_delay g_this_ahead g_this_after g_this_sight g_this_counts g_this_isOne g_this_ways g_this_image g_this_isKept : Nat) (sz : Nat) (c_rules : Int32) (c_sights : Int32) (c_signs : Int32) (c_reason : Int32) (c_acts : Int32) (c_meetings : Int32) (c_clashes : Int32) (c_first : Int32) (c_where : Int32) (c_door : Int32) (c_wider : Int32) (c_ordersFound : Int32) (c_firstOrder : Int32) (c_least : Int32) (c_leastOrder : Int32) (c_pad : Nat → Int32) (r : Int32) (hf : f_X11_fault c_signs c_pad = some r) : Met l yX11_fault wsX11_fault rm_X11_fault (va_Pc [.ref h_this] (PRE (dC, dI) (TY cI cJ cZ) sz (w_X11_fault cI cJ cZ h_this h_this_pad g_this_book g_this_now g_this_width g_this_key g_this_wide g_this_delay g_this_ahead g_this_after g_this_sight g_this_counts g_this_isOne g_this_ways g_this_image g_this_isKept c_rules c_sights c_signs c_reason c_acts c_meetings c_clashes c_first c_where c_door c_wider c_ordersFound c_firstOrder c_least c_leastOrder c_pad))) (vp_Si (fun r' => r' = r)) 0 0 (fun _ => False) := by
  refine ofSi (ty := .int) (by decide +kernel) rfl (Nat.le_of_ble_eq_true rfl) ?_
  intro p e s m args below meth c Z ls S hP hD hK hN hl hret
  obtain ⟨hx, hb, hml, hown, hts⟩ := id S
  have hown : s.vm.findClass RX11 = some m.cls := hown
  have hl : lv_has ls 1 [(0, .ref h_this)] := hl
  unfold f_X11_fault at hf
  refine lv_aload_n hx hb dX11_fault_0 rfl (lv_at hl 0 rfl) ?_
  obtain ⟨r_1, hv_1, hf⟩ := bd1_some hf
  refine kSi (rV (C := RX11) [] [] S (c_X11_faultOf l dC dI cI cJ cZ h_this h_this_pad g_this_book g_this_now g_this_width g_this_key g_this_wide g_this_delay g_this_ahead g_this_after g_this_sight g_this_counts g_this_isOne g_this_ways g_this_image g_this_isKept s.heap.size c_rules c_sights c_signs c_reason c_acts c_meetings c_clashes c_first c_where c_door c_wider c_ordersFound c_firstOrder c_least c_leastOrder c_pad r_1 hv_1) (cwV 0 hts gX11_fault_X11_faultOf rfl rfl rfl (by decide +kernel) ⟨Nat.le_of_ble_eq_true rfl, Nat.le_of_ble_eq_true rfl⟩) (va_recv hK hP (ci := 11) (q0 := 0) rfl rfl) hP hD hK hN [0, 1] rfl (by decide +kernel) rfl hl.1 rfl (Nat.le_of_ble_eq_true rfl) dX11_fault_1 ⟨Nat.le_of_ble_eq_true rfl, Nat.le_of_ble_eq_true rfl⟩) ?_
  have e_f := Option.some.inj hf
  cases e_f
  exact hret rfl dX11_fault_4
abbrev w_X11_asNow (cI cJ cZ : ClassId) (h_this h_this_book h_this_now g_this_width g_this_key g_this_wide g_this_delay g_this_ahead g_this_after g_this_sight g_this_pad g_this_counts g_this_isOne g_this_ways g_this_image g_this_isKept : Nat) (c_rules : Int32) (c_sights : Int32) (c_signs : Int32) (c_reason : Int32) (c_acts : Int32) (c_meetings : Int32) (c_clashes : Int32) (c_first : Int32) (c_where : Int32) (c_door : Int32) (c_wider : Int32) (c_ordersFound : Int32) (c_firstOrder : Int32) (c_least : Int32) (c_leastOrder : Int32) (c_book : Nat → Int32) (c_now : Nat → Int32) : va_W := [(h_this, .inr (11, [.ref h_this_book, .ref h_this_now, .ref g_this_width, .ref g_this_key, .ref g_this_wide, .ref g_this_delay, .int c_rules, .ref g_this_ahead, .ref g_this_after, .int c_sights, .ref g_this_sight, .int c_signs, .ref g_this_pad, .int c_reason, .int c_acts, .int c_meetings, .int c_clashes, .int c_first, .int c_where, .int c_door, .int c_wider, .int c_ordersFound, .int c_firstOrder, .int c_least, .int c_leastOrder, .ref g_this_counts, .ref g_this_isOne, .ref g_this_ways, .ref g_this_image, .ref g_this_isKept])), (h_this_book, .inl (cI, 15, .inl c_book)), (h_this_now, .inl (cI, 15, .inl c_now))]
abbrev rm_X11_asNow : Room := { frames := 0, cells := 0, slots := 0, locals := 0 }
theorem m_X11_asNow_f13 : (.fieldLink RX11 13 "WovenRowsModel" "now" "[I" : Cond) ∈ wsX11_asNow := by decide +kernel
theorem in_X11_asNow_X11 : ∀ w ∈ u_ws RX11 TX11 30, w ∈ wsX11_asNow := by decide +kernel
theorem m_X11_asNow_f7 : (.fieldLink RX11 7 "WovenRowsModel" "book" "[I" : Cond) ∈ wsX11_asNow := by decide +kernel
set_option maxRecDepth 100000 in
set_option maxHeartbeats 4000000 in
theorem c_X11_asNow (l : Launch) (dC : Nat → ClassId) (dI : Nat → Nat → Nat) (cI cJ cZ : ClassId) (h_this h_this_book h_this_now g_this_width g_this_key g_this_wide g_this_delay g_this_ahead g_this_after g_this_sight g_this_pad g_this_counts g_this_isOne g_this_ways g_this_image g_this_isKept : Nat) (sz : Nat) (c_rules : Int32) (c_sights : Int32) (c_signs : Int32) (c_reason : Int32) (c_acts : Int32) (c_meetings : Int32) (c_clashes : Int32) (c_first : Int32) (c_where : Int32) (c_door : Int32) (c_wider : Int32) (c_ordersFound : Int32) (c_firstOrder : Int32) (c_least : Int32) (c_leastOrder : Int32) (c_book : Nat → Int32) (c_now : Nat → Int32) (z_now : Nat → Int32) (hf : f_X11_asNow c_book c_now = some z_now) : Met l yX11_asNow wsX11_asNow rm_X11_asNow (va_Pc [.ref h_this] (PRE (dC, dI) (TY cI cJ cZ) sz (w_X11_asNow cI cJ cZ h_this h_this_book h_this_now g_this_width g_this_key g_this_wide g_this_delay g_this_ahead g_this_after g_this_sight g_this_pad g_this_counts g_this_isOne g_this_ways g_this_image g_this_isKept c_rules c_sights c_signs c_reason c_acts c_meetings c_clashes c_first c_where c_door c_wider c_ordersFound c_firstOrder c_least c_leastOrder c_book c_now))) (va_Qv (fun _ : Unit => True) (POW (dC, dI) (va_A (w_X11_asNow cI cJ cZ h_this h_this_book h_this_now g_this_width g_this_key g_this_wide g_this_delay g_this_ahead g_this_after g_this_sight g_this_pad g_this_counts g_this_isOne g_this_ways g_this_image g_this_isKept c_rules c_sights c_signs c_reason c_acts c_meetings c_clashes c_first c_where c_door c_wider c_ordersFound c_firstOrder c_least c_leastOrder c_book c_now) sz) (w_X11_asNow cI cJ cZ h_this h_this_book h_this_now g_this_width g_this_key g_this_wide g_this_delay g_this_ahead g_this_after g_this_sight g_this_pad g_this_counts g_this_isOne g_this_ways g_this_image g_this_isKept c_rules c_sights c_signs c_reason c_acts c_meetings c_clashes c_first c_where c_door c_wider c_ordersFound c_firstOrder c_least c_leastOrder c_book z_now)) (va_A (w_X11_asNow cI cJ cZ h_this h_this_book h_this_now g_this_width g_this_key g_this_wide g_this_delay g_this_ahead g_this_after g_this_sight g_this_pad g_this_counts g_this_isOne g_this_ways g_this_image g_this_isKept c_rules c_sights c_signs c_reason c_acts c_meetings c_clashes c_first c_where c_door c_wider c_ordersFound c_firstOrder c_least c_leastOrder c_book c_now) sz)) 0 0 (va_A (w_X11_asNow cI cJ cZ h_this h_this_book h_this_now g_this_width g_this_key g_this_wide g_this_delay g_this_ahead g_this_after g_this_sight g_this_pad g_this_counts g_this_isOne g_this_ways g_this_image g_this_isKept c_rules c_sights c_signs c_reason c_acts c_meetings c_clashes c_first c_where c_door c_wider c_ordersFound c_firstOrder c_least c_leastOrder c_book c_now) sz) := by
  refine ofWv (by decide +kernel) rfl (Nat.le_of_ble_eq_true rfl) ?_
  intro p e s m args below meth c Z A ls S hP hD hK hN hA hl hret
  obtain ⟨hx, hb, hml, hown, hts⟩ := id S
  have hown : s.vm.findClass RX11 = some m.cls := hown
  have hS : va_S A s.heap s.heap [] := va_S.rf
  have hl : lv_has ls 2 [(0, .ref h_this)] := hl
  unfold f_X11_asNow at hf
  refine lv_iconst (v := 0) hx hb dX11_asNow_0 (by decide) ?_
  refine lv_istore_n (lv' := [(1, .int 0), (0, .ref h_this)]) hx hb dX11_asNow_1 rfl hl (by decide) rfl (fun ls hl => ?_)
  obtain ⟨l1_2x, c_now_2x, hq_2, hf⟩ := bd2_some hf
  have K_2 : ∀ (H : Heap) (locs : List Loc) (ls : Array Slot), va_P (dC, dI) vwCl (w_X11_asNow cI cJ cZ h_this h_this_book h_this_now g_this_width g_this_key g_this_wide g_this_delay g_this_ahead g_this_after g_this_sight g_this_pad g_this_counts g_this_isOne g_this_ways g_this_image g_this_isKept c_rules c_sights c_signs c_reason c_acts c_meetings c_clashes c_first c_where c_door c_wider c_ordersFound c_firstOrder c_least c_leastOrder c_book c_now_2x) H → va_D A (w_X11_asNow cI cJ cZ h_this h_this_book h_this_now g_this_width g_this_key g_this_wide g_this_delay g_this_ahead g_this_after g_this_sight g_this_pad g_this_counts g_this_isOne g_this_ways g_this_image g_this_isKept c_rules c_sights c_signs c_reason c_acts c_meetings c_clashes c_first c_where c_door c_wider c_ordersFound c_firstOrder c_least c_leastOrder c_book c_now_2x) → va_S A s.heap H locs → lv_has ls 2 [] → W p l e rm_X11_asNow s m args below meth c H locs 0 0 Z (F0 m 26 ls []) := by
    intro H locs ls hP hD hS hl
    have e_f := Option.some.inj hf
    cases e_f
    exact hret hP hD hS dX11_asNow_26
  have L_2 : ∀ (n : Nat) (l1_2 : Int32) (c_now_2 : Nat → Int32) (H : Heap) (locs : List Loc) (ls : Array Slot), va_P (dC, dI) vwCl (w_X11_asNow cI cJ cZ h_this h_this_book h_this_now g_this_width g_this_key g_this_wide g_this_delay g_this_ahead g_this_after g_this_sight g_this_pad g_this_counts g_this_isOne g_this_ways g_this_image g_this_isKept c_rules c_sights c_signs c_reason c_acts c_meetings c_clashes c_first c_where c_door c_wider c_ordersFound c_firstOrder c_least c_leastOrder c_book c_now_2) H → va_D A (w_X11_asNow cI cJ cZ h_this h_this_book h_this_now g_this_width g_this_key g_this_wide g_this_delay g_this_ahead g_this_after g_this_sight g_this_pad g_this_counts g_this_isOne g_this_ways g_this_image g_this_isKept c_rules c_sights c_signs c_reason c_acts c_meetings c_clashes c_first c_where c_door c_wider c_ordersFound c_firstOrder c_least c_leastOrder c_book c_now_2) → va_S A s.heap H locs → lv_has ls 2 [(0, .ref h_this), (1, .int l1_2)] → loopN (fun (q : Int32 × (Nat → Int32)) => f_X11_asNow_b2 c_book q.1 q.2) n (l1_2, c_now_2) = some (l1_2x, c_now_2x) → W p l e rm_X11_asNow s m args below meth c H locs 0 0 Z (F0 m 2 ls []) := by
    intro n
    induction n with
    | zero => intro l1_2 c_now_2 H locs ls hP hD hS hl hq; exact (loopN_zero hq).elim
    | succ n ih_2 =>
      intro l1_2 c_now_2 H locs ls hP hD hS hl hq
      obtain ⟨o_2, hf, ho1_2, ho2_2⟩ := loopN_step hq
      have hf : f_X11_asNow_b2 c_book l1_2 c_now_2 = some o_2 := hf
      unfold f_X11_asNow_b2 at hf
      refine lv_iload_n hx hb dX11_asNow_2 rfl (lv_at hl 1 rfl) ?_
      refine lv_bipush (v := 15) hx hb dX11_asNow_3 (by decide) ?_
      refine lv_icmp_ge (tgt := 26) hx hb dX11_asNow_5 (by decide) (fun k_5 => ?_) (fun k_5 => ?_)
      · have hf := ite_t hf k_5
        have e_2 := ho2_2 _ (Option.some.inj hf).symm
        cases e_2
        exact K_2 H locs ls hP hD hS (lv_sub hl [] rfl)
      · have hf := ite_f hf k_5
        refine lv_aload_n hx hb dX11_asNow_8 rfl (lv_at hl 0 rfl) ?_
        refine va_get (D := (dC, dI)) (ci := 11) (v := .ref h_this_now) (C := RX11) (T := TX11) (N := 30) hx hb hts in_X11_asNow_X11 hown hK hP 0 rfl rfl 1 (by decide) (hts _ m_X11_asNow_f13) (fun _ h9 => h9) rfl dX11_asNow_9 ?_
        refine lv_iload_n hx hb dX11_asNow_12 rfl (lv_at hl 1 rfl) ?_
        refine lv_aload_n hx hb dX11_asNow_13 rfl (lv_at hl 0 rfl) ?_
        refine va_get (D := (dC, dI)) (ci := 11) (v := .ref h_this_book) (C := RX11) (T := TX11) (N := 30) hx hb hts in_X11_asNow_X11 hown hK hP 0 rfl rfl 0 (by decide) (hts _ m_X11_asNow_f7) (fun _ h9 => h9) rfl dX11_asNow_14 ?_
        refine lv_iload_n hx hb dX11_asNow_17 rfl (lv_at hl 1 rfl) ?_
        obtain ⟨g_18, hf⟩ := gd_some hf
        refine va_iald hx hb hK hP 1 0 rfl rfl g_18 dX11_asNow_18 ?_
        obtain ⟨g_19, hf⟩ := gd_some hf
        refine va_iast hx hb hK hP hD hS 2 0 rfl rfl g_19 dX11_asNow_19 (fun H locs hP hD hS => ?_)
        have hP : va_P (dC, dI) vwCl (w_X11_asNow cI cJ cZ h_this h_this_book h_this_now g_this_width g_this_key g_this_wide g_this_delay g_this_ahead g_this_after g_this_sight g_this_pad g_this_counts g_this_isOne g_this_ways g_this_image g_this_isKept c_rules c_sights c_signs c_reason c_acts c_meetings c_clashes c_first c_where c_door c_wider c_ordersFound c_firstOrder c_least c_leastOrder c_book (upd c_now_2 (Int32.toNatClampNeg l1_2) (c_book (Int32.toNatClampNeg l1_2)))) H := hP
        have hD : va_D A (w_X11_asNow cI cJ cZ h_this h_this_book h_this_now g_this_width g_this_key g_this_wide g_this_delay g_this_ahead g_this_after g_this_sight g_this_pad g_this_counts g_this_isOne g_this_ways g_this_image g_this_isKept c_rules c_sights c_signs c_reason c_acts c_meetings c_clashes c_first c_where c_door c_wider c_ordersFound c_firstOrder c_least c_leastOrder c_book (upd c_now_2 (Int32.toNatClampNeg l1_2) (c_book (Int32.toNatClampNeg l1_2)))) := hD
        refine lv_iinc (v := (l1_2 + 1)) (lv' := [(1, .int (l1_2 + 1)), (0, .ref h_this)]) hx hb dX11_asNow_20 hl (k := 1) rfl rfl (by decide) rfl (fun ls hl => ?_)
        refine lv_goto (tgt := 2) hx hb dX11_asNow_23 (by decide) ?_
        exact ih_2 (l1_2 + 1) (upd c_now_2 (Int32.toNatClampNeg l1_2) (c_book (Int32.toNatClampNeg l1_2))) H locs ls hP hD hS (lv_sub hl [1, 0] rfl) (ho1_2 _ (Option.some.inj hf).symm)
  exact L_2 FU 0 c_now s.heap [] ls hP hD hS (lv_sub hl [1, 0] rfl) hq_2
abbrev w_X11_spotOf (cI cJ cZ : ClassId) (h_this h_this_now g_this_book g_this_width g_this_key g_this_wide g_this_delay g_this_ahead g_this_after g_this_sight g_this_pad g_this_counts g_this_isOne g_this_ways g_this_image g_this_isKept : Nat) (c_rules : Int32) (c_sights : Int32) (c_signs : Int32) (c_reason : Int32) (c_acts : Int32) (c_meetings : Int32) (c_clashes : Int32) (c_first : Int32) (c_where : Int32) (c_door : Int32) (c_wider : Int32) (c_ordersFound : Int32) (c_firstOrder : Int32) (c_least : Int32) (c_leastOrder : Int32) (c_now : Nat → Int32) : va_W := [(h_this, .inr (11, [.ref g_this_book, .ref h_this_now, .ref g_this_width, .ref g_this_key, .ref g_this_wide, .ref g_this_delay, .int c_rules, .ref g_this_ahead, .ref g_this_after, .int c_sights, .ref g_this_sight, .int c_signs, .ref g_this_pad, .int c_reason, .int c_acts, .int c_meetings, .int c_clashes, .int c_first, .int c_where, .int c_door, .int c_wider, .int c_ordersFound, .int c_firstOrder, .int c_least, .int c_leastOrder, .ref g_this_counts, .ref g_this_isOne, .ref g_this_ways, .ref g_this_image, .ref g_this_isKept])), (h_this_now, .inl (cI, 15, .inl c_now))]
abbrev rm_X11_spotOf : Room := { frames := 0, cells := 0, slots := 0, locals := 0 }
theorem m_X11_spotOf_f13 : (.fieldLink RX11 13 "WovenRowsModel" "now" "[I" : Cond) ∈ wsX11_spotOf := by decide +kernel
theorem in_X11_spotOf_X11 : ∀ w ∈ u_ws RX11 TX11 30, w ∈ wsX11_spotOf := by decide +kernel
set_option maxRecDepth 100000 in
set_option maxHeartbeats 4000000 in
theorem c_X11_spotOf (l : Launch) (dC : Nat → ClassId) (dI : Nat → Nat → Nat) (cI cJ cZ : ClassId) (h_this h_this_now g_this_book g_this_width g_this_key g_this_wide g_this_delay g_this_ahead g_this_after g_this_sight g_this_pad g_this_counts g_this_isOne g_this_ways g_this_image g_this_isKept : Nat) (sz : Nat) (c_rules : Int32) (c_sights : Int32) (c_signs : Int32) (c_reason : Int32) (c_acts : Int32) (c_meetings : Int32) (c_clashes : Int32) (c_first : Int32) (c_where : Int32) (c_door : Int32) (c_wider : Int32) (c_ordersFound : Int32) (c_firstOrder : Int32) (c_least : Int32) (c_leastOrder : Int32) (c_now : Nat → Int32) (l1 : Int32) (r : Int32) (hf : f_X11_spotOf c_now l1 = some r) : Met l yX11_spotOf wsX11_spotOf rm_X11_spotOf (va_Pc [.ref h_this, .int l1] (PRE (dC, dI) (TY cI cJ cZ) sz (w_X11_spotOf cI cJ cZ h_this h_this_now g_this_book g_this_width g_this_key g_this_wide g_this_delay g_this_ahead g_this_after g_this_sight g_this_pad g_this_counts g_this_isOne g_this_ways g_this_image g_this_isKept c_rules c_sights c_signs c_reason c_acts c_meetings c_clashes c_first c_where c_door c_wider c_ordersFound c_firstOrder c_least c_leastOrder c_now))) (vp_Si (fun r' => r' = r)) 0 0 (fun _ => False) := by
  refine ofSi (ty := .int) (by decide +kernel) rfl (Nat.le_of_ble_eq_true rfl) ?_
  intro p e s m args below meth c Z ls S hP hD hK hN hl hret
  obtain ⟨hx, hb, hml, hown, hts⟩ := id S
  have hown : s.vm.findClass RX11 = some m.cls := hown
  have hl : lv_has ls 4 [(0, .ref h_this), (1, .int l1)] := hl
  unfold f_X11_spotOf at hf
  refine lv_iconst (v := 0) hx hb dX11_spotOf_0 (by decide) ?_
  refine lv_istore_n (lv' := [(2, .int 0), (0, .ref h_this), (1, .int l1)]) hx hb dX11_spotOf_1 rfl hl (by decide) rfl (fun ls hl => ?_)
  obtain ⟨q_2, hq_2, hqa_2, hqb_2⟩ := bdr_some hf
  have K_2 : ∀ (l2_2x : Int32), q_2 = .inl l2_2x → ∀ (ls : Array Slot), lv_has ls 4 [] → W p l e rm_X11_spotOf s m args below meth c s.heap [] 0 0 Z (F0 m 56 ls []) := by
    intro l2_2x e_2 ls hl
    have hf := hqa_2 _ e_2
    try dsimp only at hf
    refine lv_bipush (v := (-6)) hx hb dX11_spotOf_56 (by decide) ?_
    have e_f := Option.some.inj hf
    cases e_f
    exact hret rfl dX11_spotOf_58
  have L_2 : ∀ (n : Nat) (l2_2 : Int32) (ls : Array Slot), lv_has ls 4 [(0, .ref h_this), (1, .int l1), (2, .int l2_2)] → loopN (fun (q : Int32) => f_X11_spotOf_b2 c_now l1 q) n l2_2 = some q_2 → W p l e rm_X11_spotOf s m args below meth c s.heap [] 0 0 Z (F0 m 2 ls []) := by
    intro n
    induction n with
    | zero => intro l2_2 ls hl hq; exact (loopN_zero hq).elim
    | succ n ih_2 =>
      intro l2_2 ls hl hq
      obtain ⟨o_2, hf, ho1_2, ho2_2⟩ := loopN_step hq
      have hf : f_X11_spotOf_b2 c_now l1 l2_2 = some o_2 := hf
      unfold f_X11_spotOf_b2 at hf
      refine lv_iload_n hx hb dX11_spotOf_2 rfl (lv_at hl 2 rfl) ?_
      refine lv_iconst (v := 2) hx hb dX11_spotOf_3 (by decide) ?_
      refine lv_icmp_ge (tgt := 56) hx hb dX11_spotOf_4 (by decide) (fun k_4 => ?_) (fun k_4 => ?_)
      · have hf := ite_t hf k_4
        exact K_2 l2_2 (ho2_2 _ (Option.some.inj hf).symm).symm ls (lv_sub hl [] rfl)
      · have hf := ite_f hf k_4
        refine lv_iconst (v := 0) hx hb dX11_spotOf_7 (by decide) ?_
        refine lv_istore_n (lv' := [(3, .int 0), (0, .ref h_this), (1, .int l1), (2, .int l2_2)]) hx hb dX11_spotOf_8 rfl hl (by decide) rfl (fun ls hl => ?_)
        obtain ⟨q_9, hq_9, hqa_9, hqb_9⟩ := bdr_some hf
        have K_9 : ∀ (l3_9x : Int32), q_9 = .inl l3_9x → ∀ (ls : Array Slot), lv_has ls 4 [(0, .ref h_this), (1, .int l1), (2, .int l2_2)] → W p l e rm_X11_spotOf s m args below meth c s.heap [] 0 0 Z (F0 m 50 ls []) := by
          intro l3_9x e_9 ls hl
          have hf := hqa_9 _ e_9
          try dsimp only at hf
          refine lv_iinc (v := (l2_2 + 1)) (lv' := [(2, .int (l2_2 + 1)), (0, .ref h_this), (1, .int l1)]) hx hb dX11_spotOf_50 hl (k := 2) rfl rfl (by decide) rfl (fun ls hl => ?_)
          refine lv_goto (tgt := 2) hx hb dX11_spotOf_53 (by decide) ?_
          exact ih_2 (l2_2 + 1) ls (lv_sub hl [1, 2, 0] rfl) (ho1_2 _ (Option.some.inj hf).symm)
        have L_9 : ∀ (n : Nat) (l3_9 : Int32) (ls : Array Slot), lv_has ls 4 [(0, .ref h_this), (1, .int l1), (2, .int l2_2), (3, .int l3_9)] → loopN (fun (q : Int32) => f_X11_spotOf_b9 c_now l1 l2_2 q) n l3_9 = some q_9 → W p l e rm_X11_spotOf s m args below meth c s.heap [] 0 0 Z (F0 m 9 ls []) := by
          intro n
          induction n with
          | zero => intro l3_9 ls hl hq; exact (loopN_zero hq).elim
          | succ n ih_9 =>
            intro l3_9 ls hl hq
            obtain ⟨o_9, hf, ho1_9, ho2_9⟩ := loopN_step hq
            have hf : f_X11_spotOf_b9 c_now l1 l2_2 l3_9 = some o_9 := hf
            unfold f_X11_spotOf_b9 at hf
            refine lv_iload_n hx hb dX11_spotOf_9 rfl (lv_at hl 3 rfl) ?_
            refine lv_aload_n hx hb dX11_spotOf_10 rfl (lv_at hl 0 rfl) ?_
            refine va_get (D := (dC, dI)) (ci := 11) (v := .ref h_this_now) (C := RX11) (T := TX11) (N := 30) hx hb hts in_X11_spotOf_X11 hown hK hP 0 rfl rfl 1 (by decide) (hts _ m_X11_spotOf_f13) (fun _ h9 => h9) rfl dX11_spotOf_11 ?_
            refine lv_bipush (v := 12) hx hb dX11_spotOf_14 (by decide) ?_
            refine lv_iload_n hx hb dX11_spotOf_16 rfl (lv_at hl 2 rfl) ?_
            refine lv_iadd hx hb dX11_spotOf_17 ?_
            obtain ⟨g_18, hf⟩ := gd_some hf
            refine va_iald hx hb hK hP 1 0 rfl rfl g_18 dX11_spotOf_18 ?_
            refine lv_icmp_ge (tgt := 50) hx hb dX11_spotOf_19 (by decide) (fun k_19 => ?_) (fun k_19 => ?_)
            · have hf := ite_t hf k_19
              exact K_9 l3_9 (ho2_9 _ (Option.some.inj hf).symm).symm ls (lv_sub hl [0, 1, 2] rfl)
            · have hf := ite_f hf k_19
              refine lv_aload_n hx hb dX11_spotOf_22 rfl (lv_at hl 0 rfl) ?_
              refine va_get (D := (dC, dI)) (ci := 11) (v := .ref h_this_now) (C := RX11) (T := TX11) (N := 30) hx hb hts in_X11_spotOf_X11 hown hK hP 0 rfl rfl 1 (by decide) (hts _ m_X11_spotOf_f13) (fun _ h9 => h9) rfl dX11_spotOf_23 ?_
              refine lv_bipush (v := 6) hx hb dX11_spotOf_26 (by decide) ?_
              refine lv_iload_n hx hb dX11_spotOf_28 rfl (lv_at hl 2 rfl) ?_
              refine lv_imul hx hb dX11_spotOf_29 ?_
              refine lv_iload_n hx hb dX11_spotOf_30 rfl (lv_at hl 3 rfl) ?_
              refine lv_iadd hx hb dX11_spotOf_31 ?_
              obtain ⟨g_32, hf⟩ := gd_some hf
              refine va_iald hx hb hK hP 1 0 rfl rfl g_32 dX11_spotOf_32 ?_
              refine lv_iload_n hx hb dX11_spotOf_33 rfl (lv_at hl 1 rfl) ?_
              refine lv_icmp_ne (tgt := 44) hx hb dX11_spotOf_34 (by decide) (fun k_34 => ?_) (fun k_34 => ?_)
              · have hf := ite_f hf k_34
                refine lv_iinc (v := (l3_9 + 1)) (lv' := [(3, .int (l3_9 + 1)), (0, .ref h_this), (1, .int l1), (2, .int l2_2)]) hx hb dX11_spotOf_44 hl (k := 3) rfl rfl (by decide) rfl (fun ls hl => ?_)
                refine lv_goto (tgt := 9) hx hb dX11_spotOf_47 (by decide) ?_
                exact ih_9 (l3_9 + 1) ls (lv_sub hl [1, 2, 3, 0] rfl) (ho1_9 _ (Option.some.inj hf).symm)
              · have hf := ite_t hf k_34
                refine lv_bipush (v := 6) hx hb dX11_spotOf_37 (by decide) ?_
                refine lv_iload_n hx hb dX11_spotOf_39 rfl (lv_at hl 2 rfl) ?_
                refine lv_imul hx hb dX11_spotOf_40 ?_
                refine lv_iload_n hx hb dX11_spotOf_41 rfl (lv_at hl 3 rfl) ?_
                refine lv_iadd hx hb dX11_spotOf_42 ?_
                have e_f := (hqb_2 _ (ho2_2 _ ((hqb_9 _ (ho2_9 _ (Option.some.inj hf).symm).symm)).symm).symm)
                cases e_f
                exact hret rfl dX11_spotOf_43
        exact L_9 FU 0 ls (lv_sub hl [1, 2, 3, 0] rfl) hq_9
  exact L_2 FU 0 ls (lv_sub hl [1, 2, 0] rfl) hq_2
abbrev w_X11_join (cI cJ cZ : ClassId) (h_this h_this_now g_this_book g_this_width g_this_key g_this_wide g_this_delay g_this_ahead g_this_after g_this_sight g_this_pad g_this_counts g_this_isOne g_this_ways g_this_image g_this_isKept : Nat) (c_rules : Int32) (c_sights : Int32) (c_signs : Int32) (c_reason : Int32) (c_acts : Int32) (c_meetings : Int32) (c_clashes : Int32) (c_first : Int32) (c_where : Int32) (c_door : Int32) (c_wider : Int32) (c_ordersFound : Int32) (c_firstOrder : Int32) (c_least : Int32) (c_leastOrder : Int32) (c_now : Nat → Int32) : va_W := [(h_this, .inr (11, [.ref g_this_book, .ref h_this_now, .ref g_this_width, .ref g_this_key, .ref g_this_wide, .ref g_this_delay, .int c_rules, .ref g_this_ahead, .ref g_this_after, .int c_sights, .ref g_this_sight, .int c_signs, .ref g_this_pad, .int c_reason, .int c_acts, .int c_meetings, .int c_clashes, .int c_first, .int c_where, .int c_door, .int c_wider, .int c_ordersFound, .int c_firstOrder, .int c_least, .int c_leastOrder, .ref g_this_counts, .ref g_this_isOne, .ref g_this_ways, .ref g_this_image, .ref g_this_isKept])), (h_this_now, .inl (cI, 15, .inl c_now))]
abbrev rm_X11_join : Room := { frames := 1, cells := 0, slots := 0, locals := 23 }
theorem m_X11_join_f13 : (.fieldLink RX11 13 "WovenRowsModel" "now" "[I" : Cond) ∈ wsX11_join := by decide +kernel
theorem in_X11_join_X11 : ∀ w ∈ u_ws RX11 TX11 30, w ∈ wsX11_join := by decide +kernel
set_option maxRecDepth 100000 in
set_option maxHeartbeats 4000000 in
theorem c_X11_join (l : Launch) (dC : Nat → ClassId) (dI : Nat → Nat → Nat) (cI cJ cZ : ClassId) (h_this h_this_now g_this_book g_this_width g_this_key g_this_wide g_this_delay g_this_ahead g_this_after g_this_sight g_this_pad g_this_counts g_this_isOne g_this_ways g_this_image g_this_isKept : Nat) (sz : Nat) (c_rules : Int32) (c_sights : Int32) (c_signs : Int32) (c_reason : Int32) (c_acts : Int32) (c_meetings : Int32) (c_clashes : Int32) (c_first : Int32) (c_where : Int32) (c_door : Int32) (c_wider : Int32) (c_ordersFound : Int32) (c_firstOrder : Int32) (c_least : Int32) (c_leastOrder : Int32) (c_now : Nat → Int32) (l1 : Int32) (l2 : Int32) (r : Int32) (z_now : Nat → Int32) (hf : f_X11_join c_now l1 l2 = some (r, z_now)) : Met l yX11_join wsX11_join rm_X11_join (va_Pc [.ref h_this, .int l1, .int l2] (PRE (dC, dI) (TY cI cJ cZ) sz (w_X11_join cI cJ cZ h_this h_this_now g_this_book g_this_width g_this_key g_this_wide g_this_delay g_this_ahead g_this_after g_this_sight g_this_pad g_this_counts g_this_isOne g_this_ways g_this_image g_this_isKept c_rules c_sights c_signs c_reason c_acts c_meetings c_clashes c_first c_where c_door c_wider c_ordersFound c_firstOrder c_least c_leastOrder c_now))) (va_Qi (fun r' (_ : Unit) => r' = r) (POW (dC, dI) (va_A (w_X11_join cI cJ cZ h_this h_this_now g_this_book g_this_width g_this_key g_this_wide g_this_delay g_this_ahead g_this_after g_this_sight g_this_pad g_this_counts g_this_isOne g_this_ways g_this_image g_this_isKept c_rules c_sights c_signs c_reason c_acts c_meetings c_clashes c_first c_where c_door c_wider c_ordersFound c_firstOrder c_least c_leastOrder c_now) sz) (w_X11_join cI cJ cZ h_this h_this_now g_this_book g_this_width g_this_key g_this_wide g_this_delay g_this_ahead g_this_after g_this_sight g_this_pad g_this_counts g_this_isOne g_this_ways g_this_image g_this_isKept c_rules c_sights c_signs c_reason c_acts c_meetings c_clashes c_first c_where c_door c_wider c_ordersFound c_firstOrder c_least c_leastOrder z_now)) (va_A (w_X11_join cI cJ cZ h_this h_this_now g_this_book g_this_width g_this_key g_this_wide g_this_delay g_this_ahead g_this_after g_this_sight g_this_pad g_this_counts g_this_isOne g_this_ways g_this_image g_this_isKept c_rules c_sights c_signs c_reason c_acts c_meetings c_clashes c_first c_where c_door c_wider c_ordersFound c_firstOrder c_least c_leastOrder c_now) sz)) 0 0 (va_A (w_X11_join cI cJ cZ h_this h_this_now g_this_book g_this_width g_this_key g_this_wide g_this_delay g_this_ahead g_this_after g_this_sight g_this_pad g_this_counts g_this_isOne g_this_ways g_this_image g_this_isKept c_rules c_sights c_signs c_reason c_acts c_meetings c_clashes c_first c_where c_door c_wider c_ordersFound c_firstOrder c_least c_leastOrder c_now) sz) := by
  refine ofWi (ty := .int) (by decide +kernel) rfl (Nat.le_of_ble_eq_true rfl) ?_
  intro p e s m args below meth c Z A ls S hP hD hK hN hA hl hret
  obtain ⟨hx, hb, hml, hown, hts⟩ := id S
  have hown : s.vm.findClass RX11 = some m.cls := hown
  have hS : va_S A s.heap s.heap [] := va_S.rf
  have hl : lv_has ls 3 [(0, .ref h_this), (1, .int l1), (2, .int l2)] := hl
  unfold f_X11_join at hf
  refine lv_aload_n hx hb dX11_join_0 rfl (lv_at hl 0 rfl) ?_
  refine lv_iload_n hx hb dX11_join_1 rfl (lv_at hl 1 rfl) ?_
  obtain ⟨r_2, hv_2, hf⟩ := bd1_some hf
  refine kSi (rV (C := RX11) [.int l1] [] S (c_X11_spotOf l dC dI cI cJ cZ h_this h_this_now g_this_book g_this_width g_this_key g_this_wide g_this_delay g_this_ahead g_this_after g_this_sight g_this_pad g_this_counts g_this_isOne g_this_ways g_this_image g_this_isKept s.heap.size c_rules c_sights c_signs c_reason c_acts c_meetings c_clashes c_first c_where c_door c_wider c_ordersFound c_firstOrder c_least c_leastOrder c_now l1 r_2 hv_2) (cwV 1 hts gX11_join_X11_spotOf rfl rfl rfl (by decide +kernel) ⟨Nat.le_of_ble_eq_true rfl, Nat.le_of_ble_eq_true rfl⟩) (va_recv hK hP (ci := 11) (q0 := 0) rfl rfl) hP hD hK hN [0, 1] rfl (by decide +kernel) rfl hl.1 rfl (Nat.le_of_ble_eq_true rfl) dX11_join_2 ⟨Nat.le_of_ble_eq_true rfl, Nat.le_of_ble_eq_true rfl⟩) ?_
  refine lv_if_lt (tgt := 10) hx hb dX11_join_5 (by decide) (fun k_5 => ?_) (fun k_5 => ?_)
  · have hf := ite_t hf k_5
    refine lv_aload_n hx hb dX11_join_10 rfl (lv_at hl 0 rfl) ?_
    refine va_get (D := (dC, dI)) (ci := 11) (v := .ref h_this_now) (C := RX11) (T := TX11) (N := 30) hx hb hts in_X11_join_X11 hown hK hP 0 rfl rfl 1 (by decide) (hts _ m_X11_join_f13) (fun _ h9 => h9) rfl dX11_join_11 ?_
    refine lv_bipush (v := 12) hx hb dX11_join_14 (by decide) ?_
    refine lv_iload_n hx hb dX11_join_16 rfl (lv_at hl 2 rfl) ?_
    refine lv_iadd hx hb dX11_join_17 ?_
    obtain ⟨g_18, hf⟩ := gd_some hf
    refine va_iald hx hb hK hP 1 0 rfl rfl g_18 dX11_join_18 ?_
    refine lv_bipush (v := 6) hx hb dX11_join_19 (by decide) ?_
    refine lv_icmp_ne (tgt := 26) hx hb dX11_join_21 (by decide) (fun k_21 => ?_) (fun k_21 => ?_)
    · have hf := ite_f hf k_21
      refine lv_aload_n hx hb dX11_join_26 rfl (lv_at hl 0 rfl) ?_
      refine va_get (D := (dC, dI)) (ci := 11) (v := .ref h_this_now) (C := RX11) (T := TX11) (N := 30) hx hb hts in_X11_join_X11 hown hK hP 0 rfl rfl 1 (by decide) (hts _ m_X11_join_f13) (fun _ h9 => h9) rfl dX11_join_27 ?_
      refine lv_bipush (v := 6) hx hb dX11_join_30 (by decide) ?_
      refine lv_iload_n hx hb dX11_join_32 rfl (lv_at hl 2 rfl) ?_
      refine lv_imul hx hb dX11_join_33 ?_
      refine lv_aload_n hx hb dX11_join_34 rfl (lv_at hl 0 rfl) ?_
      refine va_get (D := (dC, dI)) (ci := 11) (v := .ref h_this_now) (C := RX11) (T := TX11) (N := 30) hx hb hts in_X11_join_X11 hown hK hP 0 rfl rfl 1 (by decide) (hts _ m_X11_join_f13) (fun _ h9 => h9) rfl dX11_join_35 ?_
      refine lv_bipush (v := 12) hx hb dX11_join_38 (by decide) ?_
      refine lv_iload_n hx hb dX11_join_40 rfl (lv_at hl 2 rfl) ?_
      refine lv_iadd hx hb dX11_join_41 ?_
      obtain ⟨g_42, hf⟩ := gd_some hf
      refine va_iald hx hb hK hP 1 0 rfl rfl g_42 dX11_join_42 ?_
      refine lv_iadd hx hb dX11_join_43 ?_
      refine lv_iload_n hx hb dX11_join_44 rfl (lv_at hl 1 rfl) ?_
      obtain ⟨g_45, hf⟩ := gd_some hf
      refine va_iast hx hb hK hP hD hS 1 0 rfl rfl g_45 dX11_join_45 (fun H locs hP hD hS => ?_)
      have hP : va_P (dC, dI) vwCl (w_X11_join cI cJ cZ h_this h_this_now g_this_book g_this_width g_this_key g_this_wide g_this_delay g_this_ahead g_this_after g_this_sight g_this_pad g_this_counts g_this_isOne g_this_ways g_this_image g_this_isKept c_rules c_sights c_signs c_reason c_acts c_meetings c_clashes c_first c_where c_door c_wider c_ordersFound c_firstOrder c_least c_leastOrder (upd c_now (Int32.toNatClampNeg ((6 * l2) + (c_now (Int32.toNatClampNeg (12 + l2))))) l1)) H := hP
      have hD : va_D A (w_X11_join cI cJ cZ h_this h_this_now g_this_book g_this_width g_this_key g_this_wide g_this_delay g_this_ahead g_this_after g_this_sight g_this_pad g_this_counts g_this_isOne g_this_ways g_this_image g_this_isKept c_rules c_sights c_signs c_reason c_acts c_meetings c_clashes c_first c_where c_door c_wider c_ordersFound c_firstOrder c_least c_leastOrder (upd c_now (Int32.toNatClampNeg ((6 * l2) + (c_now (Int32.toNatClampNeg (12 + l2))))) l1)) := hD
      refine lv_aload_n hx hb dX11_join_46 rfl (lv_at hl 0 rfl) ?_
      refine va_get (D := (dC, dI)) (ci := 11) (v := .ref h_this_now) (C := RX11) (T := TX11) (N := 30) hx hb hts in_X11_join_X11 hown hK hP 0 rfl rfl 1 (by decide) (hts _ m_X11_join_f13) (fun _ h9 => h9) rfl dX11_join_47 ?_
      refine lv_bipush (v := 12) hx hb dX11_join_50 (by decide) ?_
      refine lv_iload_n hx hb dX11_join_52 rfl (lv_at hl 2 rfl) ?_
      refine lv_iadd hx hb dX11_join_53 ?_
      refine lv_dup2_11 hx hb dX11_join_54 rfl rfl ?_
      obtain ⟨g_55, hf⟩ := gd_some hf
      refine va_iald hx hb hK hP 1 0 rfl rfl g_55 dX11_join_55 ?_
      refine lv_iconst (v := 1) hx hb dX11_join_56 (by decide) ?_
      refine lv_iadd hx hb dX11_join_57 ?_
      obtain ⟨g_58, hf⟩ := gd_some hf
      refine va_iast hx hb hK hP hD hS 1 0 rfl rfl g_58 dX11_join_58 (fun H locs hP hD hS => ?_)
      have hP : va_P (dC, dI) vwCl (w_X11_join cI cJ cZ h_this h_this_now g_this_book g_this_width g_this_key g_this_wide g_this_delay g_this_ahead g_this_after g_this_sight g_this_pad g_this_counts g_this_isOne g_this_ways g_this_image g_this_isKept c_rules c_sights c_signs c_reason c_acts c_meetings c_clashes c_first c_where c_door c_wider c_ordersFound c_firstOrder c_least c_leastOrder (upd (upd c_now (Int32.toNatClampNeg ((6 * l2) + (c_now (Int32.toNatClampNeg (12 + l2))))) l1) (Int32.toNatClampNeg (12 + l2)) (((upd c_now (Int32.toNatClampNeg ((6 * l2) + (c_now (Int32.toNatClampNeg (12 + l2))))) l1) (Int32.toNatClampNeg (12 + l2))) + 1))) H := hP
      have hD : va_D A (w_X11_join cI cJ cZ h_this h_this_now g_this_book g_this_width g_this_key g_this_wide g_this_delay g_this_ahead g_this_after g_this_sight g_this_pad g_this_counts g_this_isOne g_this_ways g_this_image g_this_isKept c_rules c_sights c_signs c_reason c_acts c_meetings c_clashes c_first c_where c_door c_wider c_ordersFound c_firstOrder c_least c_leastOrder (upd (upd c_now (Int32.toNatClampNeg ((6 * l2) + (c_now (Int32.toNatClampNeg (12 + l2))))) l1) (Int32.toNatClampNeg (12 + l2)) (((upd c_now (Int32.toNatClampNeg ((6 * l2) + (c_now (Int32.toNatClampNeg (12 + l2))))) l1) (Int32.toNatClampNeg (12 + l2))) + 1))) := hD
      refine lv_iconst (v := 0) hx hb dX11_join_59 (by decide) ?_
      have e_f := Option.some.inj hf
      cases e_f
      exact hret rfl hP hD hS dX11_join_60
    · have hf := ite_t hf k_21
      refine lv_iconst (v := 2) hx hb dX11_join_24 (by decide) ?_
      have e_f := Option.some.inj hf
      cases e_f
      exact hret rfl hP hD hS dX11_join_25
  · have hf := ite_f hf k_5
    refine lv_iconst (v := 1) hx hb dX11_join_8 (by decide) ?_
    have e_f := Option.some.inj hf
    cases e_f
    exact hret rfl hP hD hS dX11_join_9
abbrev w_X11_goHome (cI cJ cZ : ClassId) (h_this h_this_now g_this_book g_this_width g_this_key g_this_wide g_this_delay g_this_ahead g_this_after g_this_sight g_this_pad g_this_counts g_this_isOne g_this_ways g_this_image g_this_isKept : Nat) (c_rules : Int32) (c_sights : Int32) (c_signs : Int32) (c_reason : Int32) (c_acts : Int32) (c_meetings : Int32) (c_clashes : Int32) (c_first : Int32) (c_where : Int32) (c_door : Int32) (c_wider : Int32) (c_ordersFound : Int32) (c_firstOrder : Int32) (c_least : Int32) (c_leastOrder : Int32) (c_now : Nat → Int32) : va_W := [(h_this, .inr (11, [.ref g_this_book, .ref h_this_now, .ref g_this_width, .ref g_this_key, .ref g_this_wide, .ref g_this_delay, .int c_rules, .ref g_this_ahead, .ref g_this_after, .int c_sights, .ref g_this_sight, .int c_signs, .ref g_this_pad, .int c_reason, .int c_acts, .int c_meetings, .int c_clashes, .int c_first, .int c_where, .int c_door, .int c_wider, .int c_ordersFound, .int c_firstOrder, .int c_least, .int c_leastOrder, .ref g_this_counts, .ref g_this_isOne, .ref g_this_ways, .ref g_this_image, .ref g_this_isKept])), (h_this_now, .inl (cI, 15, .inl c_now))]
abbrev rm_X11_goHome : Room := { frames := 1, cells := 0, slots := 0, locals := 23 }
theorem m_X11_goHome_f13 : (.fieldLink RX11 13 "WovenRowsModel" "now" "[I" : Cond) ∈ wsX11_goHome := by decide +kernel
theorem in_X11_goHome_X11 : ∀ w ∈ u_ws RX11 TX11 30, w ∈ wsX11_goHome := by decide +kernel
set_option maxRecDepth 100000 in
set_option maxHeartbeats 4000000 in
theorem c_X11_goHome (l : Launch) (dC : Nat → ClassId) (dI : Nat → Nat → Nat) (cI cJ cZ : ClassId) (h_this h_this_now g_this_book g_this_width g_this_key g_this_wide g_this_delay g_this_ahead g_this_after g_this_sight g_this_pad g_this_counts g_this_isOne g_this_ways g_this_image g_this_isKept : Nat) (sz : Nat) (c_rules : Int32) (c_sights : Int32) (c_signs : Int32) (c_reason : Int32) (c_acts : Int32) (c_meetings : Int32) (c_clashes : Int32) (c_first : Int32) (c_where : Int32) (c_door : Int32) (c_wider : Int32) (c_ordersFound : Int32) (c_firstOrder : Int32) (c_least : Int32) (c_leastOrder : Int32) (c_now : Nat → Int32) (l1 : Int32) (r : Int32) (z_now : Nat → Int32) (hf : f_X11_goHome c_now l1 = some (r, z_now)) : Met l yX11_goHome wsX11_goHome rm_X11_goHome (va_Pc [.ref h_this, .int l1] (PRE (dC, dI) (TY cI cJ cZ) sz (w_X11_goHome cI cJ cZ h_this h_this_now g_this_book g_this_width g_this_key g_this_wide g_this_delay g_this_ahead g_this_after g_this_sight g_this_pad g_this_counts g_this_isOne g_this_ways g_this_image g_this_isKept c_rules c_sights c_signs c_reason c_acts c_meetings c_clashes c_first c_where c_door c_wider c_ordersFound c_firstOrder c_least c_leastOrder c_now))) (va_Qi (fun r' (_ : Unit) => r' = r) (POW (dC, dI) (va_A (w_X11_goHome cI cJ cZ h_this h_this_now g_this_book g_this_width g_this_key g_this_wide g_this_delay g_this_ahead g_this_after g_this_sight g_this_pad g_this_counts g_this_isOne g_this_ways g_this_image g_this_isKept c_rules c_sights c_signs c_reason c_acts c_meetings c_clashes c_first c_where c_door c_wider c_ordersFound c_firstOrder c_least c_leastOrder c_now) sz) (w_X11_goHome cI cJ cZ h_this h_this_now g_this_book g_this_width g_this_key g_this_wide g_this_delay g_this_ahead g_this_after g_this_sight g_this_pad g_this_counts g_this_isOne g_this_ways g_this_image g_this_isKept c_rules c_sights c_signs c_reason c_acts c_meetings c_clashes c_first c_where c_door c_wider c_ordersFound c_firstOrder c_least c_leastOrder z_now)) (va_A (w_X11_goHome cI cJ cZ h_this h_this_now g_this_book g_this_width g_this_key g_this_wide g_this_delay g_this_ahead g_this_after g_this_sight g_this_pad g_this_counts g_this_isOne g_this_ways g_this_image g_this_isKept c_rules c_sights c_signs c_reason c_acts c_meetings c_clashes c_first c_where c_door c_wider c_ordersFound c_firstOrder c_least c_leastOrder c_now) sz)) 0 0 (va_A (w_X11_goHome cI cJ cZ h_this h_this_now g_this_book g_this_width g_this_key g_this_wide g_this_delay g_this_ahead g_this_after g_this_sight g_this_pad g_this_counts g_this_isOne g_this_ways g_this_image g_this_isKept c_rules c_sights c_signs c_reason c_acts c_meetings c_clashes c_first c_where c_door c_wider c_ordersFound c_firstOrder c_least c_leastOrder c_now) sz) := by
  refine ofWi (ty := .int) (by decide +kernel) rfl (Nat.le_of_ble_eq_true rfl) ?_
  intro p e s m args below meth c Z A ls S hP hD hK hN hA hl hret
  obtain ⟨hx, hb, hml, hown, hts⟩ := id S
  have hown : s.vm.findClass RX11 = some m.cls := hown
  have hS : va_S A s.heap s.heap [] := va_S.rf
  have hl : lv_has ls 5 [(0, .ref h_this), (1, .int l1)] := hl
  unfold f_X11_goHome at hf
  refine lv_aload_n hx hb dX11_goHome_0 rfl (lv_at hl 0 rfl) ?_
  refine lv_iload_n hx hb dX11_goHome_1 rfl (lv_at hl 1 rfl) ?_
  obtain ⟨r_2, hv_2, hf⟩ := bd1_some hf
  refine kSi (rV (C := RX11) [.int l1] [] S (c_X11_spotOf l dC dI cI cJ cZ h_this h_this_now g_this_book g_this_width g_this_key g_this_wide g_this_delay g_this_ahead g_this_after g_this_sight g_this_pad g_this_counts g_this_isOne g_this_ways g_this_image g_this_isKept s.heap.size c_rules c_sights c_signs c_reason c_acts c_meetings c_clashes c_first c_where c_door c_wider c_ordersFound c_firstOrder c_least c_leastOrder c_now l1 r_2 hv_2) (cwV 1 hts gX11_goHome_X11_spotOf rfl rfl rfl (by decide +kernel) ⟨Nat.le_of_ble_eq_true rfl, Nat.le_of_ble_eq_true rfl⟩) (va_recv hK hP (ci := 11) (q0 := 0) rfl rfl) hP hD hK hN [0, 1] rfl (by decide +kernel) rfl hl.1 rfl (Nat.le_of_ble_eq_true rfl) dX11_goHome_2 ⟨Nat.le_of_ble_eq_true rfl, Nat.le_of_ble_eq_true rfl⟩) ?_
  refine lv_istore_n (lv' := [(2, .int r_2), (0, .ref h_this), (1, .int l1)]) hx hb dX11_goHome_5 rfl hl (by decide) rfl (fun ls hl => ?_)
  refine lv_iload_n hx hb dX11_goHome_6 rfl (lv_at hl 0 rfl) ?_
  refine lv_if_ge (tgt := 12) hx hb dX11_goHome_7 (by decide) (fun k_7 => ?_) (fun k_7 => ?_)
  · have hf := ite_t hf k_7
    refine lv_iload_n hx hb dX11_goHome_12 rfl (lv_at hl 0 rfl) ?_
    refine lv_bipush (v := 6) hx hb dX11_goHome_13 (by decide) ?_
    refine lv_idiv hx hb dX11_goHome_15 (by decide) ?_
    refine lv_istore_n (lv' := [(3, .int (r_2 / 6)), (2, .int r_2), (0, .ref h_this), (1, .int l1)]) hx hb dX11_goHome_16 rfl hl (by decide) rfl (fun ls hl => ?_)
    refine lv_aload_n hx hb dX11_goHome_17 rfl (lv_at hl 2 rfl) ?_
    refine va_get (D := (dC, dI)) (ci := 11) (v := .ref h_this_now) (C := RX11) (T := TX11) (N := 30) hx hb hts in_X11_goHome_X11 hown hK hP 0 rfl rfl 1 (by decide) (hts _ m_X11_goHome_f13) (fun _ h9 => h9) rfl dX11_goHome_18 ?_
    refine lv_bipush (v := 12) hx hb dX11_goHome_21 (by decide) ?_
    refine lv_iload_n hx hb dX11_goHome_23 rfl (lv_at hl 0 rfl) ?_
    refine lv_iadd hx hb dX11_goHome_24 ?_
    refine lv_dup2_11 hx hb dX11_goHome_25 rfl rfl ?_
    obtain ⟨g_26, hf⟩ := gd_some hf
    refine va_iald hx hb hK hP 1 0 rfl rfl g_26 dX11_goHome_26 ?_
    refine lv_iconst (v := 1) hx hb dX11_goHome_27 (by decide) ?_
    refine lv_isub hx hb dX11_goHome_28 ?_
    obtain ⟨g_29, hf⟩ := gd_some hf
    refine va_iast hx hb hK hP hD hS 1 0 rfl rfl g_29 dX11_goHome_29 (fun H locs hP hD hS => ?_)
    have hP : va_P (dC, dI) vwCl (w_X11_goHome cI cJ cZ h_this h_this_now g_this_book g_this_width g_this_key g_this_wide g_this_delay g_this_ahead g_this_after g_this_sight g_this_pad g_this_counts g_this_isOne g_this_ways g_this_image g_this_isKept c_rules c_sights c_signs c_reason c_acts c_meetings c_clashes c_first c_where c_door c_wider c_ordersFound c_firstOrder c_least c_leastOrder (upd c_now (Int32.toNatClampNeg (12 + (r_2 / 6))) ((c_now (Int32.toNatClampNeg (12 + (r_2 / 6)))) - 1))) H := hP
    have hD : va_D A (w_X11_goHome cI cJ cZ h_this h_this_now g_this_book g_this_width g_this_key g_this_wide g_this_delay g_this_ahead g_this_after g_this_sight g_this_pad g_this_counts g_this_isOne g_this_ways g_this_image g_this_isKept c_rules c_sights c_signs c_reason c_acts c_meetings c_clashes c_first c_where c_door c_wider c_ordersFound c_firstOrder c_least c_leastOrder (upd c_now (Int32.toNatClampNeg (12 + (r_2 / 6))) ((c_now (Int32.toNatClampNeg (12 + (r_2 / 6)))) - 1))) := hD
    refine lv_iload_n hx hb dX11_goHome_30 rfl (lv_at hl 1 rfl) ?_
    refine lv_bipush (v := 6) hx hb dX11_goHome_31 (by decide) ?_
    refine lv_irem hx hb dX11_goHome_33 (by decide) ?_
    refine lv_istore (lv' := [(4, .int (r_2 - (r_2 / 6) * 6)), (3, .int (r_2 / 6)), (2, .int r_2), (0, .ref h_this), (1, .int l1)]) hx hb dX11_goHome_34 hl (by decide) rfl (fun ls hl => ?_)
    obtain ⟨l4_36x, c_now_36x, hq_36, hf⟩ := bd2_some hf
    have K_36 : ∀ (H : Heap) (locs : List Loc) (ls : Array Slot), va_P (dC, dI) vwCl (w_X11_goHome cI cJ cZ h_this h_this_now g_this_book g_this_width g_this_key g_this_wide g_this_delay g_this_ahead g_this_after g_this_sight g_this_pad g_this_counts g_this_isOne g_this_ways g_this_image g_this_isKept c_rules c_sights c_signs c_reason c_acts c_meetings c_clashes c_first c_where c_door c_wider c_ordersFound c_firstOrder c_least c_leastOrder c_now_36x) H → va_D A (w_X11_goHome cI cJ cZ h_this h_this_now g_this_book g_this_width g_this_key g_this_wide g_this_delay g_this_ahead g_this_after g_this_sight g_this_pad g_this_counts g_this_isOne g_this_ways g_this_image g_this_isKept c_rules c_sights c_signs c_reason c_acts c_meetings c_clashes c_first c_where c_door c_wider c_ordersFound c_firstOrder c_least c_leastOrder c_now_36x) → va_S A s.heap H locs → lv_has ls 5 [] → W p l e rm_X11_goHome s m args below meth c H locs 0 0 Z (F0 m 82 ls []) := by
      intro H locs ls hP hD hS hl
      refine lv_iconst (v := 0) hx hb dX11_goHome_82 (by decide) ?_
      have e_f := Option.some.inj hf
      cases e_f
      exact hret rfl hP hD hS dX11_goHome_83
    have L_36 : ∀ (n : Nat) (l4_36 : Int32) (c_now_36 : Nat → Int32) (H : Heap) (locs : List Loc) (ls : Array Slot), va_P (dC, dI) vwCl (w_X11_goHome cI cJ cZ h_this h_this_now g_this_book g_this_width g_this_key g_this_wide g_this_delay g_this_ahead g_this_after g_this_sight g_this_pad g_this_counts g_this_isOne g_this_ways g_this_image g_this_isKept c_rules c_sights c_signs c_reason c_acts c_meetings c_clashes c_first c_where c_door c_wider c_ordersFound c_firstOrder c_least c_leastOrder c_now_36) H → va_D A (w_X11_goHome cI cJ cZ h_this h_this_now g_this_book g_this_width g_this_key g_this_wide g_this_delay g_this_ahead g_this_after g_this_sight g_this_pad g_this_counts g_this_isOne g_this_ways g_this_image g_this_isKept c_rules c_sights c_signs c_reason c_acts c_meetings c_clashes c_first c_where c_door c_wider c_ordersFound c_firstOrder c_least c_leastOrder c_now_36) → va_S A s.heap H locs → lv_has ls 5 [(0, .ref h_this), (3, .int (r_2 / 6)), (4, .int l4_36)] → loopN (fun (q : Int32 × (Nat → Int32)) => f_X11_goHome_b36 q.1 q.2 (r_2 / 6)) n (l4_36, c_now_36) = some (l4_36x, c_now_36x) → W p l e rm_X11_goHome s m args below meth c H locs 0 0 Z (F0 m 36 ls []) := by
      intro n
      induction n with
      | zero => intro l4_36 c_now_36 H locs ls hP hD hS hl hq; exact (loopN_zero hq).elim
      | succ n ih_36 =>
        intro l4_36 c_now_36 H locs ls hP hD hS hl hq
        obtain ⟨o_36, hf, ho1_36, ho2_36⟩ := loopN_step hq
        have hf : f_X11_goHome_b36 l4_36 c_now_36 (r_2 / 6) = some o_36 := hf
        unfold f_X11_goHome_b36 at hf
        refine lv_iload hx hb dX11_goHome_36 (lv_at hl 2 rfl) ?_
        refine lv_aload_n hx hb dX11_goHome_38 rfl (lv_at hl 0 rfl) ?_
        refine va_get (D := (dC, dI)) (ci := 11) (v := .ref h_this_now) (C := RX11) (T := TX11) (N := 30) hx hb hts in_X11_goHome_X11 hown hK hP 0 rfl rfl 1 (by decide) (hts _ m_X11_goHome_f13) (fun _ h9 => h9) rfl dX11_goHome_39 ?_
        refine lv_bipush (v := 12) hx hb dX11_goHome_42 (by decide) ?_
        refine lv_iload_n hx hb dX11_goHome_44 rfl (lv_at hl 1 rfl) ?_
        refine lv_iadd hx hb dX11_goHome_45 ?_
        obtain ⟨g_46, hf⟩ := gd_some hf
        refine va_iald hx hb hK hP 1 0 rfl rfl g_46 dX11_goHome_46 ?_
        refine lv_icmp_ge (tgt := 82) hx hb dX11_goHome_47 (by decide) (fun k_47 => ?_) (fun k_47 => ?_)
        · have hf := ite_t hf k_47
          have e_36 := ho2_36 _ (Option.some.inj hf).symm
          cases e_36
          exact K_36 H locs ls hP hD hS (lv_sub hl [] rfl)
        · have hf := ite_f hf k_47
          refine lv_aload_n hx hb dX11_goHome_50 rfl (lv_at hl 0 rfl) ?_
          refine va_get (D := (dC, dI)) (ci := 11) (v := .ref h_this_now) (C := RX11) (T := TX11) (N := 30) hx hb hts in_X11_goHome_X11 hown hK hP 0 rfl rfl 1 (by decide) (hts _ m_X11_goHome_f13) (fun _ h9 => h9) rfl dX11_goHome_51 ?_
          refine lv_bipush (v := 6) hx hb dX11_goHome_54 (by decide) ?_
          refine lv_iload_n hx hb dX11_goHome_56 rfl (lv_at hl 1 rfl) ?_
          refine lv_imul hx hb dX11_goHome_57 ?_
          refine lv_iload hx hb dX11_goHome_58 (lv_at hl 2 rfl) ?_
          refine lv_iadd hx hb dX11_goHome_60 ?_
          refine lv_aload_n hx hb dX11_goHome_61 rfl (lv_at hl 0 rfl) ?_
          refine va_get (D := (dC, dI)) (ci := 11) (v := .ref h_this_now) (C := RX11) (T := TX11) (N := 30) hx hb hts in_X11_goHome_X11 hown hK hP 0 rfl rfl 1 (by decide) (hts _ m_X11_goHome_f13) (fun _ h9 => h9) rfl dX11_goHome_62 ?_
          refine lv_bipush (v := 6) hx hb dX11_goHome_65 (by decide) ?_
          refine lv_iload_n hx hb dX11_goHome_67 rfl (lv_at hl 1 rfl) ?_
          refine lv_imul hx hb dX11_goHome_68 ?_
          refine lv_iload hx hb dX11_goHome_69 (lv_at hl 2 rfl) ?_
          refine lv_iadd hx hb dX11_goHome_71 ?_
          refine lv_iconst (v := 1) hx hb dX11_goHome_72 (by decide) ?_
          refine lv_iadd hx hb dX11_goHome_73 ?_
          obtain ⟨g_74, hf⟩ := gd_some hf
          refine va_iald hx hb hK hP 1 0 rfl rfl g_74 dX11_goHome_74 ?_
          obtain ⟨g_75, hf⟩ := gd_some hf
          refine va_iast hx hb hK hP hD hS 1 0 rfl rfl g_75 dX11_goHome_75 (fun H locs hP hD hS => ?_)
          have hP : va_P (dC, dI) vwCl (w_X11_goHome cI cJ cZ h_this h_this_now g_this_book g_this_width g_this_key g_this_wide g_this_delay g_this_ahead g_this_after g_this_sight g_this_pad g_this_counts g_this_isOne g_this_ways g_this_image g_this_isKept c_rules c_sights c_signs c_reason c_acts c_meetings c_clashes c_first c_where c_door c_wider c_ordersFound c_firstOrder c_least c_leastOrder (upd c_now_36 (Int32.toNatClampNeg ((6 * (r_2 / 6)) + l4_36)) (c_now_36 (Int32.toNatClampNeg (((6 * (r_2 / 6)) + l4_36) + 1))))) H := hP
          have hD : va_D A (w_X11_goHome cI cJ cZ h_this h_this_now g_this_book g_this_width g_this_key g_this_wide g_this_delay g_this_ahead g_this_after g_this_sight g_this_pad g_this_counts g_this_isOne g_this_ways g_this_image g_this_isKept c_rules c_sights c_signs c_reason c_acts c_meetings c_clashes c_first c_where c_door c_wider c_ordersFound c_firstOrder c_least c_leastOrder (upd c_now_36 (Int32.toNatClampNeg ((6 * (r_2 / 6)) + l4_36)) (c_now_36 (Int32.toNatClampNeg (((6 * (r_2 / 6)) + l4_36) + 1))))) := hD
          refine lv_iinc (v := (l4_36 + 1)) (lv' := [(4, .int (l4_36 + 1)), (0, .ref h_this), (3, .int (r_2 / 6))]) hx hb dX11_goHome_76 hl (k := 2) rfl rfl (by decide) rfl (fun ls hl => ?_)
          refine lv_goto (tgt := 36) hx hb dX11_goHome_79 (by decide) ?_
          exact ih_36 (l4_36 + 1) (upd c_now_36 (Int32.toNatClampNeg ((6 * (r_2 / 6)) + l4_36)) (c_now_36 (Int32.toNatClampNeg (((6 * (r_2 / 6)) + l4_36) + 1)))) H locs ls hP hD hS (lv_sub hl [1, 2, 0] rfl) (ho1_36 _ (Option.some.inj hf).symm)
    exact L_36 FU (r_2 - (r_2 / 6) * 6) (upd c_now (Int32.toNatClampNeg (12 + (r_2 / 6))) ((c_now (Int32.toNatClampNeg (12 + (r_2 / 6)))) - 1)) H locs ls hP hD hS (lv_sub hl [3, 1, 0] rfl) hq_36
  · have hf := ite_f hf k_7
    refine lv_iconst (v := 1) hx hb dX11_goHome_10 (by decide) ?_
    have e_f := Option.some.inj hf
    cases e_f
    exact hret rfl hP hD hS dX11_goHome_11
abbrev w_X11_change (cI cJ cZ : ClassId) (h_this h_this_now g_this_book g_this_width g_this_key g_this_wide g_this_delay g_this_ahead g_this_after g_this_sight g_this_pad g_this_counts g_this_isOne g_this_ways g_this_image g_this_isKept : Nat) (c_rules : Int32) (c_sights : Int32) (c_signs : Int32) (c_reason : Int32) (c_acts : Int32) (c_meetings : Int32) (c_clashes : Int32) (c_first : Int32) (c_where : Int32) (c_door : Int32) (c_wider : Int32) (c_ordersFound : Int32) (c_firstOrder : Int32) (c_least : Int32) (c_leastOrder : Int32) (c_now : Nat → Int32) : va_W := [(h_this, .inr (11, [.ref g_this_book, .ref h_this_now, .ref g_this_width, .ref g_this_key, .ref g_this_wide, .ref g_this_delay, .int c_rules, .ref g_this_ahead, .ref g_this_after, .int c_sights, .ref g_this_sight, .int c_signs, .ref g_this_pad, .int c_reason, .int c_acts, .int c_meetings, .int c_clashes, .int c_first, .int c_where, .int c_door, .int c_wider, .int c_ordersFound, .int c_firstOrder, .int c_least, .int c_leastOrder, .ref g_this_counts, .ref g_this_isOne, .ref g_this_ways, .ref g_this_image, .ref g_this_isKept])), (h_this_now, .inl (cI, 15, .inl c_now))]
abbrev rm_X11_change : Room := { frames := 1, cells := 0, slots := 0, locals := 23 }
theorem m_X11_change_f13 : (.fieldLink RX11 13 "WovenRowsModel" "now" "[I" : Cond) ∈ wsX11_change := by decide +kernel
theorem in_X11_change_X11 : ∀ w ∈ u_ws RX11 TX11 30, w ∈ wsX11_change := by decide +kernel
set_option maxRecDepth 100000 in
set_option maxHeartbeats 4000000 in
theorem c_X11_change (l : Launch) (dC : Nat → ClassId) (dI : Nat → Nat → Nat) (cI cJ cZ : ClassId) (h_this h_this_now g_this_book g_this_width g_this_key g_this_wide g_this_delay g_this_ahead g_this_after g_this_sight g_this_pad g_this_counts g_this_isOne g_this_ways g_this_image g_this_isKept : Nat) (sz : Nat) (c_rules : Int32) (c_sights : Int32) (c_signs : Int32) (c_reason : Int32) (c_acts : Int32) (c_meetings : Int32) (c_clashes : Int32) (c_first : Int32) (c_where : Int32) (c_door : Int32) (c_wider : Int32) (c_ordersFound : Int32) (c_firstOrder : Int32) (c_least : Int32) (c_leastOrder : Int32) (c_now : Nat → Int32) (l1 : Int32) (l2 : Int32) (r : Int32) (z_now : Nat → Int32) (hf : f_X11_change c_now l1 l2 = some (r, z_now)) : Met l yX11_change wsX11_change rm_X11_change (va_Pc [.ref h_this, .int l1, .int l2] (PRE (dC, dI) (TY cI cJ cZ) sz (w_X11_change cI cJ cZ h_this h_this_now g_this_book g_this_width g_this_key g_this_wide g_this_delay g_this_ahead g_this_after g_this_sight g_this_pad g_this_counts g_this_isOne g_this_ways g_this_image g_this_isKept c_rules c_sights c_signs c_reason c_acts c_meetings c_clashes c_first c_where c_door c_wider c_ordersFound c_firstOrder c_least c_leastOrder c_now))) (va_Qi (fun r' (_ : Unit) => r' = r) (POW (dC, dI) (va_A (w_X11_change cI cJ cZ h_this h_this_now g_this_book g_this_width g_this_key g_this_wide g_this_delay g_this_ahead g_this_after g_this_sight g_this_pad g_this_counts g_this_isOne g_this_ways g_this_image g_this_isKept c_rules c_sights c_signs c_reason c_acts c_meetings c_clashes c_first c_where c_door c_wider c_ordersFound c_firstOrder c_least c_leastOrder c_now) sz) (w_X11_change cI cJ cZ h_this h_this_now g_this_book g_this_width g_this_key g_this_wide g_this_delay g_this_ahead g_this_after g_this_sight g_this_pad g_this_counts g_this_isOne g_this_ways g_this_image g_this_isKept c_rules c_sights c_signs c_reason c_acts c_meetings c_clashes c_first c_where c_door c_wider c_ordersFound c_firstOrder c_least c_leastOrder z_now)) (va_A (w_X11_change cI cJ cZ h_this h_this_now g_this_book g_this_width g_this_key g_this_wide g_this_delay g_this_ahead g_this_after g_this_sight g_this_pad g_this_counts g_this_isOne g_this_ways g_this_image g_this_isKept c_rules c_sights c_signs c_reason c_acts c_meetings c_clashes c_first c_where c_door c_wider c_ordersFound c_firstOrder c_least c_leastOrder c_now) sz)) 0 0 (va_A (w_X11_change cI cJ cZ h_this h_this_now g_this_book g_this_width g_this_key g_this_wide g_this_delay g_this_ahead g_this_after g_this_sight g_this_pad g_this_counts g_this_isOne g_this_ways g_this_image g_this_isKept c_rules c_sights c_signs c_reason c_acts c_meetings c_clashes c_first c_where c_door c_wider c_ordersFound c_firstOrder c_least c_leastOrder c_now) sz) := by
  refine ofWi (ty := .int) (by decide +kernel) rfl (Nat.le_of_ble_eq_true rfl) ?_
  intro p e s m args below meth c Z A ls S hP hD hK hN hA hl hret
  obtain ⟨hx, hb, hml, hown, hts⟩ := id S
  have hown : s.vm.findClass RX11 = some m.cls := hown
  have hS : va_S A s.heap s.heap [] := va_S.rf
  have hl : lv_has ls 5 [(0, .ref h_this), (1, .int l1), (2, .int l2)] := hl
  unfold f_X11_change at hf
  refine lv_aload_n hx hb dX11_change_0 rfl (lv_at hl 0 rfl) ?_
  refine lv_iload_n hx hb dX11_change_1 rfl (lv_at hl 1 rfl) ?_
  obtain ⟨r_2, hv_2, hf⟩ := bd1_some hf
  refine kSi (rV (C := RX11) [.int l1] [] S (c_X11_spotOf l dC dI cI cJ cZ h_this h_this_now g_this_book g_this_width g_this_key g_this_wide g_this_delay g_this_ahead g_this_after g_this_sight g_this_pad g_this_counts g_this_isOne g_this_ways g_this_image g_this_isKept s.heap.size c_rules c_sights c_signs c_reason c_acts c_meetings c_clashes c_first c_where c_door c_wider c_ordersFound c_firstOrder c_least c_leastOrder c_now l1 r_2 hv_2) (cwV 1 hts gX11_change_X11_spotOf rfl rfl rfl (by decide +kernel) ⟨Nat.le_of_ble_eq_true rfl, Nat.le_of_ble_eq_true rfl⟩) (va_recv hK hP (ci := 11) (q0 := 0) rfl rfl) hP hD hK hN [0, 1] rfl (by decide +kernel) rfl hl.1 rfl (Nat.le_of_ble_eq_true rfl) dX11_change_2 ⟨Nat.le_of_ble_eq_true rfl, Nat.le_of_ble_eq_true rfl⟩) ?_
  refine lv_istore_n (lv' := [(3, .int r_2), (0, .ref h_this), (1, .int l1), (2, .int l2)]) hx hb dX11_change_5 rfl hl (by decide) rfl (fun ls hl => ?_)
  refine lv_aload_n hx hb dX11_change_6 rfl (lv_at hl 1 rfl) ?_
  refine lv_iload_n hx hb dX11_change_7 rfl (lv_at hl 3 rfl) ?_
  obtain ⟨r_8, hv_8, hf⟩ := bd1_some hf
  refine kSi (rV (C := RX11) [.int l2] [] S (c_X11_spotOf l dC dI cI cJ cZ h_this h_this_now g_this_book g_this_width g_this_key g_this_wide g_this_delay g_this_ahead g_this_after g_this_sight g_this_pad g_this_counts g_this_isOne g_this_ways g_this_image g_this_isKept s.heap.size c_rules c_sights c_signs c_reason c_acts c_meetings c_clashes c_first c_where c_door c_wider c_ordersFound c_firstOrder c_least c_leastOrder c_now l2 r_8 hv_8) (cwV 1 hts gX11_change_X11_spotOf rfl rfl rfl (by decide +kernel) ⟨Nat.le_of_ble_eq_true rfl, Nat.le_of_ble_eq_true rfl⟩) (va_recv hK hP (ci := 11) (q0 := 0) rfl rfl) hP hD hK hN [0, 1] rfl (by decide +kernel) rfl hl.1 rfl (Nat.le_of_ble_eq_true rfl) dX11_change_8 ⟨Nat.le_of_ble_eq_true rfl, Nat.le_of_ble_eq_true rfl⟩) ?_
  refine lv_istore (lv' := [(4, .int r_8), (3, .int r_2), (0, .ref h_this), (1, .int l1), (2, .int l2)]) hx hb dX11_change_11 hl (by decide) rfl (fun ls hl => ?_)
  refine lv_iload_n hx hb dX11_change_13 rfl (lv_at hl 1 rfl) ?_
  refine lv_if_lt (tgt := 22) hx hb dX11_change_14 (by decide) (fun k_14 => ?_) (fun k_14 => ?_)
  · have hf := ite_t hf k_14
    refine lv_iconst (v := 1) hx hb dX11_change_22 (by decide) ?_
    have e_f := Option.some.inj hf
    cases e_f
    exact hret rfl hP hD hS dX11_change_23
  · have hf := ite_f hf k_14
    refine lv_iload hx hb dX11_change_17 (lv_at hl 0 rfl) ?_
    refine lv_if_ge (tgt := 24) hx hb dX11_change_19 (by decide) (fun k_19 => ?_) (fun k_19 => ?_)
    · have hf := ite_t hf k_19
      refine lv_iload_n hx hb dX11_change_24 rfl (lv_at hl 3 rfl) ?_
      refine lv_iload_n hx hb dX11_change_25 rfl (lv_at hl 4 rfl) ?_
      refine lv_icmp_ne (tgt := 31) hx hb dX11_change_26 (by decide) (fun k_26 => ?_) (fun k_26 => ?_)
      · have hf := ite_f hf k_26
        refine lv_aload_n hx hb dX11_change_31 rfl (lv_at hl 2 rfl) ?_
        refine va_get (D := (dC, dI)) (ci := 11) (v := .ref h_this_now) (C := RX11) (T := TX11) (N := 30) hx hb hts in_X11_change_X11 hown hK hP 0 rfl rfl 1 (by decide) (hts _ m_X11_change_f13) (fun _ h9 => h9) rfl dX11_change_32 ?_
        refine lv_iload_n hx hb dX11_change_35 rfl (lv_at hl 1 rfl) ?_
        refine lv_iload_n hx hb dX11_change_36 rfl (lv_at hl 4 rfl) ?_
        obtain ⟨g_37, hf⟩ := gd_some hf
        refine va_iast hx hb hK hP hD hS 1 0 rfl rfl g_37 dX11_change_37 (fun H locs hP hD hS => ?_)
        have hP : va_P (dC, dI) vwCl (w_X11_change cI cJ cZ h_this h_this_now g_this_book g_this_width g_this_key g_this_wide g_this_delay g_this_ahead g_this_after g_this_sight g_this_pad g_this_counts g_this_isOne g_this_ways g_this_image g_this_isKept c_rules c_sights c_signs c_reason c_acts c_meetings c_clashes c_first c_where c_door c_wider c_ordersFound c_firstOrder c_least c_leastOrder (upd c_now (Int32.toNatClampNeg r_2) l2)) H := hP
        have hD : va_D A (w_X11_change cI cJ cZ h_this h_this_now g_this_book g_this_width g_this_key g_this_wide g_this_delay g_this_ahead g_this_after g_this_sight g_this_pad g_this_counts g_this_isOne g_this_ways g_this_image g_this_isKept c_rules c_sights c_signs c_reason c_acts c_meetings c_clashes c_first c_where c_door c_wider c_ordersFound c_firstOrder c_least c_leastOrder (upd c_now (Int32.toNatClampNeg r_2) l2)) := hD
        refine lv_aload_n hx hb dX11_change_38 rfl (lv_at hl 2 rfl) ?_
        refine va_get (D := (dC, dI)) (ci := 11) (v := .ref h_this_now) (C := RX11) (T := TX11) (N := 30) hx hb hts in_X11_change_X11 hown hK hP 0 rfl rfl 1 (by decide) (hts _ m_X11_change_f13) (fun _ h9 => h9) rfl dX11_change_39 ?_
        refine lv_iload hx hb dX11_change_42 (lv_at hl 0 rfl) ?_
        refine lv_iload_n hx hb dX11_change_44 rfl (lv_at hl 3 rfl) ?_
        obtain ⟨g_45, hf⟩ := gd_some hf
        refine va_iast hx hb hK hP hD hS 1 0 rfl rfl g_45 dX11_change_45 (fun H locs hP hD hS => ?_)
        have hP : va_P (dC, dI) vwCl (w_X11_change cI cJ cZ h_this h_this_now g_this_book g_this_width g_this_key g_this_wide g_this_delay g_this_ahead g_this_after g_this_sight g_this_pad g_this_counts g_this_isOne g_this_ways g_this_image g_this_isKept c_rules c_sights c_signs c_reason c_acts c_meetings c_clashes c_first c_where c_door c_wider c_ordersFound c_firstOrder c_least c_leastOrder (upd (upd c_now (Int32.toNatClampNeg r_2) l2) (Int32.toNatClampNeg r_8) l1)) H := hP
        have hD : va_D A (w_X11_change cI cJ cZ h_this h_this_now g_this_book g_this_width g_this_key g_this_wide g_this_delay g_this_ahead g_this_after g_this_sight g_this_pad g_this_counts g_this_isOne g_this_ways g_this_image g_this_isKept c_rules c_sights c_signs c_reason c_acts c_meetings c_clashes c_first c_where c_door c_wider c_ordersFound c_firstOrder c_least c_leastOrder (upd (upd c_now (Int32.toNatClampNeg r_2) l2) (Int32.toNatClampNeg r_8) l1)) := hD
        refine lv_iconst (v := 0) hx hb dX11_change_46 (by decide) ?_
        have e_f := Option.some.inj hf
        cases e_f
        exact hret rfl hP hD hS dX11_change_47
      · have hf := ite_t hf k_26
        refine lv_iconst (v := 3) hx hb dX11_change_29 (by decide) ?_
        have e_f := Option.some.inj hf
        cases e_f
        exact hret rfl hP hD hS dX11_change_30
    · have hf := ite_f hf k_19
      refine lv_iconst (v := 1) hx hb dX11_change_22 (by decide) ?_
      have e_f := Option.some.inj hf
      cases e_f
      exact hret rfl hP hD hS dX11_change_23
abbrev w_X11_ring (cI cJ cZ : ClassId) (h_this h_this_now g_this_book g_this_width g_this_key g_this_wide g_this_delay g_this_ahead g_this_after g_this_sight g_this_pad g_this_counts g_this_isOne g_this_ways g_this_image g_this_isKept : Nat) (c_rules : Int32) (c_sights : Int32) (c_signs : Int32) (c_reason : Int32) (c_acts : Int32) (c_meetings : Int32) (c_clashes : Int32) (c_first : Int32) (c_where : Int32) (c_door : Int32) (c_wider : Int32) (c_ordersFound : Int32) (c_firstOrder : Int32) (c_least : Int32) (c_leastOrder : Int32) (c_now : Nat → Int32) : va_W := [(h_this, .inr (11, [.ref g_this_book, .ref h_this_now, .ref g_this_width, .ref g_this_key, .ref g_this_wide, .ref g_this_delay, .int c_rules, .ref g_this_ahead, .ref g_this_after, .int c_sights, .ref g_this_sight, .int c_signs, .ref g_this_pad, .int c_reason, .int c_acts, .int c_meetings, .int c_clashes, .int c_first, .int c_where, .int c_door, .int c_wider, .int c_ordersFound, .int c_firstOrder, .int c_least, .int c_leastOrder, .ref g_this_counts, .ref g_this_isOne, .ref g_this_ways, .ref g_this_image, .ref g_this_isKept])), (h_this_now, .inl (cI, 15, .inl c_now))]
abbrev rm_X11_ring : Room := { frames := 0, cells := 0, slots := 0, locals := 0 }
theorem m_X11_ring_f13 : (.fieldLink RX11 13 "WovenRowsModel" "now" "[I" : Cond) ∈ wsX11_ring := by decide +kernel
theorem in_X11_ring_X11 : ∀ w ∈ u_ws RX11 TX11 30, w ∈ wsX11_ring := by decide +kernel
set_option maxRecDepth 100000 in
set_option maxHeartbeats 4000000 in
theorem c_X11_ring (l : Launch) (dC : Nat → ClassId) (dI : Nat → Nat → Nat) (cI cJ cZ : ClassId) (h_this h_this_now g_this_book g_this_width g_this_key g_this_wide g_this_delay g_this_ahead g_this_after g_this_sight g_this_pad g_this_counts g_this_isOne g_this_ways g_this_image g_this_isKept : Nat) (sz : Nat) (c_rules : Int32) (c_sights : Int32) (c_signs : Int32) (c_reason : Int32) (c_acts : Int32) (c_meetings : Int32) (c_clashes : Int32) (c_first : Int32) (c_where : Int32) (c_door : Int32) (c_wider : Int32) (c_ordersFound : Int32) (c_firstOrder : Int32) (c_least : Int32) (c_leastOrder : Int32) (c_now : Nat → Int32) (r : Int32) (z_now : Nat → Int32) (hf : f_X11_ring c_now = some (r, z_now)) : Met l yX11_ring wsX11_ring rm_X11_ring (va_Pc [.ref h_this] (PRE (dC, dI) (TY cI cJ cZ) sz (w_X11_ring cI cJ cZ h_this h_this_now g_this_book g_this_width g_this_key g_this_wide g_this_delay g_this_ahead g_this_after g_this_sight g_this_pad g_this_counts g_this_isOne g_this_ways g_this_image g_this_isKept c_rules c_sights c_signs c_reason c_acts c_meetings c_clashes c_first c_where c_door c_wider c_ordersFound c_firstOrder c_least c_leastOrder c_now))) (va_Qi (fun r' (_ : Unit) => r' = r) (POW (dC, dI) (va_A (w_X11_ring cI cJ cZ h_this h_this_now g_this_book g_this_width g_this_key g_this_wide g_this_delay g_this_ahead g_this_after g_this_sight g_this_pad g_this_counts g_this_isOne g_this_ways g_this_image g_this_isKept c_rules c_sights c_signs c_reason c_acts c_meetings c_clashes c_first c_where c_door c_wider c_ordersFound c_firstOrder c_least c_leastOrder c_now) sz) (w_X11_ring cI cJ cZ h_this h_this_now g_this_book g_this_width g_this_key g_this_wide g_this_delay g_this_ahead g_this_after g_this_sight g_this_pad g_this_counts g_this_isOne g_this_ways g_this_image g_this_isKept c_rules c_sights c_signs c_reason c_acts c_meetings c_clashes c_first c_where c_door c_wider c_ordersFound c_firstOrder c_least c_leastOrder z_now)) (va_A (w_X11_ring cI cJ cZ h_this h_this_now g_this_book g_this_width g_this_key g_this_wide g_this_delay g_this_ahead g_this_after g_this_sight g_this_pad g_this_counts g_this_isOne g_this_ways g_this_image g_this_isKept c_rules c_sights c_signs c_reason c_acts c_meetings c_clashes c_first c_where c_door c_wider c_ordersFound c_firstOrder c_least c_leastOrder c_now) sz)) 0 0 (va_A (w_X11_ring cI cJ cZ h_this h_this_now g_this_book g_this_width g_this_key g_this_wide g_this_delay g_this_ahead g_this_after g_this_sight g_this_pad g_this_counts g_this_isOne g_this_ways g_this_image g_this_isKept c_rules c_sights c_signs c_reason c_acts c_meetings c_clashes c_first c_where c_door c_wider c_ordersFound c_firstOrder c_least c_leastOrder c_now) sz) := by
  refine ofWi (ty := .int) (by decide +kernel) rfl (Nat.le_of_ble_eq_true rfl) ?_
  intro p e s m args below meth c Z A ls S hP hD hK hN hA hl hret
  obtain ⟨hx, hb, hml, hown, hts⟩ := id S
  have hown : s.vm.findClass RX11 = some m.cls := hown
  have hS : va_S A s.heap s.heap [] := va_S.rf
  have hl : lv_has ls 1 [(0, .ref h_this)] := hl
  unfold f_X11_ring at hf
  refine lv_aload_n hx hb dX11_ring_0 rfl (lv_at hl 0 rfl) ?_
  refine va_get (D := (dC, dI)) (ci := 11) (v := .ref h_this_now) (C := RX11) (T := TX11) (N := 30) hx hb hts in_X11_ring_X11 hown hK hP 0 rfl rfl 1 (by decide) (hts _ m_X11_ring_f13) (fun _ h9 => h9) rfl dX11_ring_1 ?_
  refine lv_bipush (v := 14) hx hb dX11_ring_4 (by decide) ?_
  obtain ⟨g_6, hf⟩ := gd_some hf
  refine va_iald hx hb hK hP 1 0 rfl rfl g_6 dX11_ring_6 ?_
  refine lv_bipush (v := 99) hx hb dX11_ring_7 (by decide) ?_
  refine lv_icmp_ne (tgt := 14) hx hb dX11_ring_9 (by decide) (fun k_9 => ?_) (fun k_9 => ?_)
  · have hf := ite_f hf k_9
    refine lv_aload_n hx hb dX11_ring_14 rfl (lv_at hl 0 rfl) ?_
    refine va_get (D := (dC, dI)) (ci := 11) (v := .ref h_this_now) (C := RX11) (T := TX11) (N := 30) hx hb hts in_X11_ring_X11 hown hK hP 0 rfl rfl 1 (by decide) (hts _ m_X11_ring_f13) (fun _ h9 => h9) rfl dX11_ring_15 ?_
    refine lv_bipush (v := 14) hx hb dX11_ring_18 (by decide) ?_
    refine lv_dup2_11 hx hb dX11_ring_20 rfl rfl ?_
    obtain ⟨g_21, hf⟩ := gd_some hf
    refine va_iald hx hb hK hP 1 0 rfl rfl g_21 dX11_ring_21 ?_
    refine lv_iconst (v := 1) hx hb dX11_ring_22 (by decide) ?_
    refine lv_iadd hx hb dX11_ring_23 ?_
    obtain ⟨g_24, hf⟩ := gd_some hf
    refine va_iast hx hb hK hP hD hS 1 0 rfl rfl g_24 dX11_ring_24 (fun H locs hP hD hS => ?_)
    have hP : va_P (dC, dI) vwCl (w_X11_ring cI cJ cZ h_this h_this_now g_this_book g_this_width g_this_key g_this_wide g_this_delay g_this_ahead g_this_after g_this_sight g_this_pad g_this_counts g_this_isOne g_this_ways g_this_image g_this_isKept c_rules c_sights c_signs c_reason c_acts c_meetings c_clashes c_first c_where c_door c_wider c_ordersFound c_firstOrder c_least c_leastOrder (upd c_now (Int32.toNatClampNeg 14) ((c_now (Int32.toNatClampNeg 14)) + 1))) H := hP
    have hD : va_D A (w_X11_ring cI cJ cZ h_this h_this_now g_this_book g_this_width g_this_key g_this_wide g_this_delay g_this_ahead g_this_after g_this_sight g_this_pad g_this_counts g_this_isOne g_this_ways g_this_image g_this_isKept c_rules c_sights c_signs c_reason c_acts c_meetings c_clashes c_first c_where c_door c_wider c_ordersFound c_firstOrder c_least c_leastOrder (upd c_now (Int32.toNatClampNeg 14) ((c_now (Int32.toNatClampNeg 14)) + 1))) := hD
    refine lv_iconst (v := 0) hx hb dX11_ring_25 (by decide) ?_
    have e_f := Option.some.inj hf
    cases e_f
    exact hret rfl hP hD hS dX11_ring_26
  · have hf := ite_t hf k_9
    refine lv_iconst (v := 4) hx hb dX11_ring_12 (by decide) ?_
    have e_f := Option.some.inj hf
    cases e_f
    exact hret rfl hP hD hS dX11_ring_13
abbrev w_X11_goDays (cI cJ cZ : ClassId) (h_this h_this_book h_this_now h_this_pad g_this_width g_this_key g_this_wide g_this_delay g_this_ahead g_this_after g_this_sight g_this_counts g_this_isOne g_this_ways g_this_image g_this_isKept : Nat) (c_rules : Int32) (c_sights : Int32) (c_signs : Int32) (c_reason : Int32) (c_acts : Int32) (c_meetings : Int32) (c_clashes : Int32) (c_first : Int32) (c_where : Int32) (c_door : Int32) (c_wider : Int32) (c_ordersFound : Int32) (c_firstOrder : Int32) (c_least : Int32) (c_leastOrder : Int32) (c_book : Nat → Int32) (c_now : Nat → Int32) (c_pad : Nat → Int32) : va_W := [(h_this, .inr (11, [.ref h_this_book, .ref h_this_now, .ref g_this_width, .ref g_this_key, .ref g_this_wide, .ref g_this_delay, .int c_rules, .ref g_this_ahead, .ref g_this_after, .int c_sights, .ref g_this_sight, .int c_signs, .ref h_this_pad, .int c_reason, .int c_acts, .int c_meetings, .int c_clashes, .int c_first, .int c_where, .int c_door, .int c_wider, .int c_ordersFound, .int c_firstOrder, .int c_least, .int c_leastOrder, .ref g_this_counts, .ref g_this_isOne, .ref g_this_ways, .ref g_this_image, .ref g_this_isKept])), (h_this_book, .inl (cI, 15, .inl c_book)), (h_this_now, .inl (cI, 15, .inl c_now)), (h_this_pad, .inl (cI, 60, .inl c_pad))]
abbrev rm_X11_goDays : Room := { frames := 2, cells := 0, slots := 0, locals := 47 }
theorem m_X11_goDays_f86 : (.fieldLink RX11 86 "WovenRowsModel" "acts" "I" : Cond) ∈ wsX11_goDays := by decide +kernel
theorem in_X11_goDays_X11 : ∀ w ∈ u_ws RX11 TX11 30, w ∈ wsX11_goDays := by decide +kernel
theorem m_X11_goDays_f92 : (.fieldLink RX11 92 "WovenRowsModel" "reason" "I" : Cond) ∈ wsX11_goDays := by decide +kernel
theorem m_X11_goDays_f68 : (.fieldLink RX11 68 "WovenRowsModel" "signs" "I" : Cond) ∈ wsX11_goDays := by decide +kernel
theorem m_X11_goDays_f37 : (.fieldLink RX11 37 "WovenRowsModel" "pad" "[I" : Cond) ∈ wsX11_goDays := by decide +kernel
set_option maxRecDepth 100000 in
set_option maxHeartbeats 4000000 in
theorem c_X11_goDays (l : Launch) (dC : Nat → ClassId) (dI : Nat → Nat → Nat) (cI cJ cZ : ClassId) (h_this h_this_book h_this_now h_this_pad g_this_width g_this_key g_this_wide g_this_delay g_this_ahead g_this_after g_this_sight g_this_counts g_this_isOne g_this_ways g_this_image g_this_isKept : Nat) (sz : Nat) (c_rules : Int32) (c_sights : Int32) (c_signs : Int32) (c_reason : Int32) (c_acts : Int32) (c_meetings : Int32) (c_clashes : Int32) (c_first : Int32) (c_where : Int32) (c_door : Int32) (c_wider : Int32) (c_ordersFound : Int32) (c_firstOrder : Int32) (c_least : Int32) (c_leastOrder : Int32) (c_book : Nat → Int32) (c_now : Nat → Int32) (c_pad : Nat → Int32) (r : Int32) (z_reason : Int32) (z_acts : Int32) (z_now : Nat → Int32) (hf : f_X11_goDays c_signs c_reason c_book c_now c_pad = some (r, z_reason, z_acts, z_now)) : Met l yX11_goDays wsX11_goDays rm_X11_goDays (va_Pc [.ref h_this] (PRE (dC, dI) (TY cI cJ cZ) sz (w_X11_goDays cI cJ cZ h_this h_this_book h_this_now h_this_pad g_this_width g_this_key g_this_wide g_this_delay g_this_ahead g_this_after g_this_sight g_this_counts g_this_isOne g_this_ways g_this_image g_this_isKept c_rules c_sights c_signs c_reason c_acts c_meetings c_clashes c_first c_where c_door c_wider c_ordersFound c_firstOrder c_least c_leastOrder c_book c_now c_pad))) (va_Qi (fun r' (_ : Unit) => r' = r) (POW (dC, dI) (va_A (w_X11_goDays cI cJ cZ h_this h_this_book h_this_now h_this_pad g_this_width g_this_key g_this_wide g_this_delay g_this_ahead g_this_after g_this_sight g_this_counts g_this_isOne g_this_ways g_this_image g_this_isKept c_rules c_sights c_signs c_reason c_acts c_meetings c_clashes c_first c_where c_door c_wider c_ordersFound c_firstOrder c_least c_leastOrder c_book c_now c_pad) sz) (w_X11_goDays cI cJ cZ h_this h_this_book h_this_now h_this_pad g_this_width g_this_key g_this_wide g_this_delay g_this_ahead g_this_after g_this_sight g_this_counts g_this_isOne g_this_ways g_this_image g_this_isKept c_rules c_sights c_signs z_reason z_acts c_meetings c_clashes c_first c_where c_door c_wider c_ordersFound c_firstOrder c_least c_leastOrder c_book z_now c_pad)) (va_A (w_X11_goDays cI cJ cZ h_this h_this_book h_this_now h_this_pad g_this_width g_this_key g_this_wide g_this_delay g_this_ahead g_this_after g_this_sight g_this_counts g_this_isOne g_this_ways g_this_image g_this_isKept c_rules c_sights c_signs c_reason c_acts c_meetings c_clashes c_first c_where c_door c_wider c_ordersFound c_firstOrder c_least c_leastOrder c_book c_now c_pad) sz)) 0 0 (va_A (w_X11_goDays cI cJ cZ h_this h_this_book h_this_now h_this_pad g_this_width g_this_key g_this_wide g_this_delay g_this_ahead g_this_after g_this_sight g_this_counts g_this_isOne g_this_ways g_this_image g_this_isKept c_rules c_sights c_signs c_reason c_acts c_meetings c_clashes c_first c_where c_door c_wider c_ordersFound c_firstOrder c_least c_leastOrder c_book c_now c_pad) sz) := by
  refine ofWi (ty := .int) (by decide +kernel) rfl (Nat.le_of_ble_eq_true rfl) ?_
  intro p e s m args below meth c Z A ls S hP hD hK hN hA hl hret
  obtain ⟨hx, hb, hml, hown, hts⟩ := id S
  have hown : s.vm.findClass RX11 = some m.cls := hown
  have hS : va_S A s.heap s.heap [] := va_S.rf
  have hl : lv_has ls 4 [(0, .ref h_this)] := hl
  unfold f_X11_goDays at hf
  refine lv_aload_n hx hb dX11_goDays_0 rfl (lv_at hl 0 rfl) ?_
  obtain ⟨c_now_1, hv_1, hf⟩ := bd1_some hf
  refine kWv (rV (C := RX11) [] [] S (c_X11_asNow l dC dI cI cJ cZ h_this h_this_book h_this_now g_this_width g_this_key g_this_wide g_this_delay g_this_ahead g_this_after g_this_sight h_this_pad g_this_counts g_this_isOne g_this_ways g_this_image g_this_isKept s.heap.size c_rules c_sights c_signs c_reason c_acts c_meetings c_clashes c_first c_where c_door c_wider c_ordersFound c_firstOrder c_least c_leastOrder c_book c_now c_now_1 hv_1) (cwV 0 hts gX11_goDays_X11_asNow rfl rfl rfl (by decide +kernel) ⟨Nat.le_of_ble_eq_true rfl, Nat.le_of_ble_eq_true rfl⟩) (va_recv hK hP (ci := 11) (q0 := 0) rfl rfl) hP hD hK hN [0, 1, 2] rfl (by decide +kernel) rfl hl.1 rfl (Nat.le_of_ble_eq_true rfl) dX11_goDays_1 ⟨Nat.le_of_ble_eq_true rfl, Nat.le_of_ble_eq_true rfl⟩) hP hD hS hA [0, 1, 2] rfl rfl [some 0, some 1, some 2, none] (by decide +kernel) rfl (fun H locs hP hD hS => ?_)
  have hP : va_P (dC, dI) vwCl (w_X11_goDays cI cJ cZ h_this h_this_book h_this_now h_this_pad g_this_width g_this_key g_this_wide g_this_delay g_this_ahead g_this_after g_this_sight g_this_counts g_this_isOne g_this_ways g_this_image g_this_isKept c_rules c_sights c_signs c_reason c_acts c_meetings c_clashes c_first c_where c_door c_wider c_ordersFound c_firstOrder c_least c_leastOrder c_book c_now_1 c_pad) H := hP
  have hD : va_D A (w_X11_goDays cI cJ cZ h_this h_this_book h_this_now h_this_pad g_this_width g_this_key g_this_wide g_this_delay g_this_ahead g_this_after g_this_sight g_this_counts g_this_isOne g_this_ways g_this_image g_this_isKept c_rules c_sights c_signs c_reason c_acts c_meetings c_clashes c_first c_where c_door c_wider c_ordersFound c_firstOrder c_least c_leastOrder c_book c_now_1 c_pad) := hD
  refine lv_aload_n hx hb dX11_goDays_4 rfl (lv_at hl 0 rfl) ?_
  refine lv_iconst (v := 0) hx hb dX11_goDays_5 (by decide) ?_
  refine va_put (D := (dC, dI)) (ci := 11) (v := .int 0) (ty := .int) (C := RX11) (T := TX11) (N := 30) hx hb hts in_X11_goDays_X11 tyX11 tyX11_ok nmX11 hown hK hP hD hS 0 rfl rfl 14 (by decide) (hts _ m_X11_goDays_f86) (fun _ h9 => h9) rfl (by decide +kernel) rfl rfl (Nat.le_of_ble_eq_true rfl) dX11_goDays_6 (fun H locs hP hD hS => ?_)
  have hP : va_P (dC, dI) vwCl (w_X11_goDays cI cJ cZ h_this h_this_book h_this_now h_this_pad g_this_width g_this_key g_this_wide g_this_delay g_this_ahead g_this_after g_this_sight g_this_counts g_this_isOne g_this_ways g_this_image g_this_isKept c_rules c_sights c_signs c_reason 0 c_meetings c_clashes c_first c_where c_door c_wider c_ordersFound c_firstOrder c_least c_leastOrder c_book c_now_1 c_pad) H := hP
  have hD : va_D A (w_X11_goDays cI cJ cZ h_this h_this_book h_this_now h_this_pad g_this_width g_this_key g_this_wide g_this_delay g_this_ahead g_this_after g_this_sight g_this_counts g_this_isOne g_this_ways g_this_image g_this_isKept c_rules c_sights c_signs c_reason 0 c_meetings c_clashes c_first c_where c_door c_wider c_ordersFound c_firstOrder c_least c_leastOrder c_book c_now_1 c_pad) := hD
  refine lv_iconst (v := 0) hx hb dX11_goDays_9 (by decide) ?_
  refine lv_istore_n (lv' := [(1, .int 0), (0, .ref h_this)]) hx hb dX11_goDays_10 rfl hl (by decide) rfl (fun ls hl => ?_)
  obtain ⟨q_11, hq_11, hqa_11, hqb_11⟩ := bdr_some hf
  have K_11 : ∀ (l1_11x : Int32) (c_reason_11x : Int32) (c_acts_11x : Int32) (c_now_11x : Nat → Int32), q_11 = .inl (l1_11x, c_reason_11x, c_acts_11x, c_now_11x) → ∀ (H : Heap) (locs : List Loc) (ls : Array Slot), va_P (dC, dI) vwCl (w_X11_goDays cI cJ cZ h_this h_this_book h_this_now h_this_pad g_this_width g_this_key g_this_wide g_this_delay g_this_ahead g_this_after g_this_sight g_this_counts g_this_isOne g_this_ways g_this_image g_this_isKept c_rules c_sights c_signs c_reason_11x c_acts_11x c_meetings c_clashes c_first c_where c_door c_wider c_ordersFound c_firstOrder c_least c_leastOrder c_book c_now_11x c_pad) H → va_D A (w_X11_goDays cI cJ cZ h_this h_this_book h_this_now h_this_pad g_this_width g_this_key g_this_wide g_this_delay g_this_ahead g_this_after g_this_sight g_this_counts g_this_isOne g_this_ways g_this_image g_this_isKept c_rules c_sights c_signs c_reason_11x c_acts_11x c_meetings c_clashes c_first c_where c_door c_wider c_ordersFound c_firstOrder c_least c_leastOrder c_book c_now_11x c_pad) → va_S A s.heap H locs → lv_has ls 4 [] → W p l e rm_X11_goDays s m args below meth c H locs 0 0 Z (F0 m 157 ls []) := by
    intro l1_11x c_reason_11x c_acts_11x c_now_11x e_11 H locs ls hP hD hS hl
    have hf := hqa_11 _ e_11
    try dsimp only at hf
    refine lv_bipush (v := (-6)) hx hb dX11_goDays_157 (by decide) ?_
    have e_f := Option.some.inj hf
    cases e_f
    exact hret rfl hP hD hS dX11_goDays_159
  have L_11 : ∀ (n : Nat) (l1_11 : Int32) (c_reason_11 : Int32) (c_acts_11 : Int32) (c_now_11 : Nat → Int32) (H : Heap) (locs : List Loc) (ls : Array Slot), va_P (dC, dI) vwCl (w_X11_goDays cI cJ cZ h_this h_this_book h_this_now h_this_pad g_this_width g_this_key g_this_wide g_this_delay g_this_ahead g_this_after g_this_sight g_this_counts g_this_isOne g_this_ways g_this_image g_this_isKept c_rules c_sights c_signs c_reason_11 c_acts_11 c_meetings c_clashes c_first c_where c_door c_wider c_ordersFound c_firstOrder c_least c_leastOrder c_book c_now_11 c_pad) H → va_D A (w_X11_goDays cI cJ cZ h_this h_this_book h_this_now h_this_pad g_this_width g_this_key g_this_wide g_this_delay g_this_ahead g_this_after g_this_sight g_this_counts g_this_isOne g_this_ways g_this_image g_this_isKept c_rules c_sights c_signs c_reason_11 c_acts_11 c_meetings c_clashes c_first c_where c_door c_wider c_ordersFound c_firstOrder c_least c_leastOrder c_book c_now_11 c_pad) → va_S A s.heap H locs → lv_has ls 4 [(0, .ref h_this), (1, .int l1_11)] → loopN (fun (q : Int32 × Int32 × Int32 × (Nat → Int32)) => f_X11_goDays_b11 c_signs c_pad q.1 q.2.1 q.2.2.1 q.2.2.2) n (l1_11, c_reason_11, c_acts_11, c_now_11) = some q_11 → W p l e rm_X11_goDays s m args below meth c H locs 0 0 Z (F0 m 11 ls []) := by
    intro n
    induction n with
    | zero => intro l1_11 c_reason_11 c_acts_11 c_now_11 H locs ls hP hD hS hl hq; exact (loopN_zero hq).elim
    | succ n ih_11 =>
      intro l1_11 c_reason_11 c_acts_11 c_now_11 H locs ls hP hD hS hl hq
      obtain ⟨o_11, hf, ho1_11, ho2_11⟩ := loopN_step hq
      have hf : f_X11_goDays_b11 c_signs c_pad l1_11 c_reason_11 c_acts_11 c_now_11 = some o_11 := hf
      unfold f_X11_goDays_b11 at hf
      have J_132 : ∀ (l1_132j : Int32) (c_reason_132j : Int32) (c_acts_132j : Int32) (c_now_132j : Nat → Int32) (H : Heap) (locs : List Loc) (ls : Array Slot), va_P (dC, dI) vwCl (w_X11_goDays cI cJ cZ h_this h_this_book h_this_now h_this_pad g_this_width g_this_key g_this_wide g_this_delay g_this_ahead g_this_after g_this_sight g_this_counts g_this_isOne g_this_ways g_this_image g_this_isKept c_rules c_sights c_signs c_reason_132j c_acts_132j c_meetings c_clashes c_first c_where c_door c_wider c_ordersFound c_firstOrder c_least c_leastOrder c_book c_now_132j c_pad) H → va_D A (w_X11_goDays cI cJ cZ h_this h_this_book h_this_now h_this_pad g_this_width g_this_key g_this_wide g_this_delay g_this_ahead g_this_after g_this_sight g_this_counts g_this_isOne g_this_ways g_this_image g_this_isKept c_rules c_sights c_signs c_reason_132j c_acts_132j c_meetings c_clashes c_first c_where c_door c_wider c_ordersFound c_firstOrder c_least c_leastOrder c_book c_now_132j c_pad) → va_S A s.heap H locs → lv_has ls 4 [(0, .ref h_this), (1, .int l1_132j)] → f_X11_goDays_j132 l1_132j c_reason_132j c_acts_132j c_now_132j = some o_11 → W p l e rm_X11_goDays s m args below meth c H locs 0 0 Z (F0 m 132 ls []) := by
        intro l1_132j c_reason_132j c_acts_132j c_now_132j H locs ls hP hD hS hl hf
        unfold f_X11_goDays_j132 at hf
        refine lv_aload_n hx hb dX11_goDays_132 rfl (lv_at hl 0 rfl) ?_
        refine va_get (D := (dC, dI)) (ci := 11) (v := .int c_reason_132j) (C := RX11) (T := TX11) (N := 30) hx hb hts in_X11_goDays_X11 hown hK hP 0 rfl rfl 13 (by decide) (hts _ m_X11_goDays_f92) (fun _ h9 => h9) rfl dX11_goDays_133 ?_
        refine lv_if_le (tgt := 144) hx hb dX11_goDays_136 (by decide) (fun k_136 => ?_) (fun k_136 => ?_)
        · have hf := ite_t hf k_136
          refine lv_aload_n hx hb dX11_goDays_144 rfl (lv_at hl 0 rfl) ?_
          refine lv_dup hx hb dX11_goDays_145 rfl ?_
          refine va_get (D := (dC, dI)) (ci := 11) (v := .int c_acts_132j) (C := RX11) (T := TX11) (N := 30) hx hb hts in_X11_goDays_X11 hown hK hP 0 rfl rfl 14 (by decide) (hts _ m_X11_goDays_f86) (fun _ h9 => h9) rfl dX11_goDays_146 ?_
          refine lv_iconst (v := 1) hx hb dX11_goDays_149 (by decide) ?_
          refine lv_iadd hx hb dX11_goDays_150 ?_
          refine va_put (D := (dC, dI)) (ci := 11) (v := .int (c_acts_132j + 1)) (ty := .int) (C := RX11) (T := TX11) (N := 30) hx hb hts in_X11_goDays_X11 tyX11 tyX11_ok nmX11 hown hK hP hD hS 0 rfl rfl 14 (by decide) (hts _ m_X11_goDays_f86) (fun _ h9 => h9) rfl (by decide +kernel) rfl rfl (Nat.le_of_ble_eq_true rfl) dX11_goDays_151 (fun H locs hP hD hS => ?_)
          have hP : va_P (dC, dI) vwCl (w_X11_goDays cI cJ cZ h_this h_this_book h_this_now h_this_pad g_this_width g_this_key g_this_wide g_this_delay g_this_ahead g_this_after g_this_sight g_this_counts g_this_isOne g_this_ways g_this_image g_this_isKept c_rules c_sights c_signs c_reason_132j (c_acts_132j + 1) c_meetings c_clashes c_first c_where c_door c_wider c_ordersFound c_firstOrder c_least c_leastOrder c_book c_now_132j c_pad) H := hP
          have hD : va_D A (w_X11_goDays cI cJ cZ h_this h_this_book h_this_now h_this_pad g_this_width g_this_key g_this_wide g_this_delay g_this_ahead g_this_after g_this_sight g_this_counts g_this_isOne g_this_ways g_this_image g_this_isKept c_rules c_sights c_signs c_reason_132j (c_acts_132j + 1) c_meetings c_clashes c_first c_where c_door c_wider c_ordersFound c_firstOrder c_least c_leastOrder c_book c_now_132j c_pad) := hD
          refine lv_goto (tgt := 11) hx hb dX11_goDays_154 (by decide) ?_
          exact ih_11 l1_132j c_reason_132j (c_acts_132j + 1) c_now_132j H locs ls hP hD hS (lv_sub hl [0, 1] rfl) (ho1_11 _ (Option.some.inj hf).symm)
        · have hf := ite_f hf k_136
          refine lv_aload_n hx hb dX11_goDays_139 rfl (lv_at hl 0 rfl) ?_
          refine va_get (D := (dC, dI)) (ci := 11) (v := .int c_acts_132j) (C := RX11) (T := TX11) (N := 30) hx hb hts in_X11_goDays_X11 hown hK hP 0 rfl rfl 14 (by decide) (hts _ m_X11_goDays_f86) (fun _ h9 => h9) rfl dX11_goDays_140 ?_
          have e_f := (hqb_11 _ (ho2_11 _ (Option.some.inj hf).symm).symm)
          cases e_f
          exact hret rfl hP hD hS dX11_goDays_143
      have J_126 : ∀ (l1_126j : Int32) (s1_126j : Int32) (c_reason_126j : Int32) (c_acts_126j : Int32) (c_now_126j : Nat → Int32) (H : Heap) (locs : List Loc) (ls : Array Slot), va_P (dC, dI) vwCl (w_X11_goDays cI cJ cZ h_this h_this_book h_this_now h_this_pad g_this_width g_this_key g_this_wide g_this_delay g_this_ahead g_this_after g_this_sight g_this_counts g_this_isOne g_this_ways g_this_image g_this_isKept c_rules c_sights c_signs c_reason_126j c_acts_126j c_meetings c_clashes c_first c_where c_door c_wider c_ordersFound c_firstOrder c_least c_leastOrder c_book c_now_126j c_pad) H → va_D A (w_X11_goDays cI cJ cZ h_this h_this_book h_this_now h_this_pad g_this_width g_this_key g_this_wide g_this_delay g_this_ahead g_this_after g_this_sight g_this_counts g_this_isOne g_this_ways g_this_image g_this_isKept c_rules c_sights c_signs c_reason_126j c_acts_126j c_meetings c_clashes c_first c_where c_door c_wider c_ordersFound c_firstOrder c_least c_leastOrder c_book c_now_126j c_pad) → va_S A s.heap H locs → lv_has ls 4 [(0, .ref h_this), (1, .int l1_126j)] → f_X11_goDays_j126 l1_126j c_acts_126j c_now_126j s1_126j = some o_11 → W p l e rm_X11_goDays s m args below meth c H locs 0 0 Z (F0 m 126 ls [.int s1_126j, .ref h_this]) := by
        intro l1_126j s1_126j c_reason_126j c_acts_126j c_now_126j H locs ls hP hD hS hl hf
        unfold f_X11_goDays_j126 at hf
        refine va_put (D := (dC, dI)) (ci := 11) (v := .int s1_126j) (ty := .int) (C := RX11) (T := TX11) (N := 30) hx hb hts in_X11_goDays_X11 tyX11 tyX11_ok nmX11 hown hK hP hD hS 0 rfl rfl 13 (by decide) (hts _ m_X11_goDays_f92) (fun _ h9 => h9) rfl (by decide +kernel) rfl rfl (Nat.le_of_ble_eq_true rfl) dX11_goDays_126 (fun H locs hP hD hS => ?_)
        have hP : va_P (dC, dI) vwCl (w_X11_goDays cI cJ cZ h_this h_this_book h_this_now h_this_pad g_this_width g_this_key g_this_wide g_this_delay g_this_ahead g_this_after g_this_sight g_this_counts g_this_isOne g_this_ways g_this_image g_this_isKept c_rules c_sights c_signs s1_126j c_acts_126j c_meetings c_clashes c_first c_where c_door c_wider c_ordersFound c_firstOrder c_least c_leastOrder c_book c_now_126j c_pad) H := hP
        have hD : va_D A (w_X11_goDays cI cJ cZ h_this h_this_book h_this_now h_this_pad g_this_width g_this_key g_this_wide g_this_delay g_this_ahead g_this_after g_this_sight g_this_counts g_this_isOne g_this_ways g_this_image g_this_isKept c_rules c_sights c_signs s1_126j c_acts_126j c_meetings c_clashes c_first c_where c_door c_wider c_ordersFound c_firstOrder c_least c_leastOrder c_book c_now_126j c_pad) := hD
        refine lv_iinc (v := (l1_126j + 2)) (lv' := [(1, .int (l1_126j + 2)), (0, .ref h_this)]) hx hb dX11_goDays_129 hl (k := 1) rfl rfl (by decide) rfl (fun ls hl => ?_)
        exact J_132 (l1_126j + 2) s1_126j c_acts_126j c_now_126j H locs ls hP hD hS (lv_sub hl [1, 0] rfl) hf
      have J_123 : ∀ (l1_123j : Int32) (s2_123j : Int32) (s3_123j : Int32) (c_reason_123j : Int32) (c_acts_123j : Int32) (c_now_123j : Nat → Int32) (H : Heap) (locs : List Loc) (ls : Array Slot), va_P (dC, dI) vwCl (w_X11_goDays cI cJ cZ h_this h_this_book h_this_now h_this_pad g_this_width g_this_key g_this_wide g_this_delay g_this_ahead g_this_after g_this_sight g_this_counts g_this_isOne g_this_ways g_this_image g_this_isKept c_rules c_sights c_signs c_reason_123j c_acts_123j c_meetings c_clashes c_first c_where c_door c_wider c_ordersFound c_firstOrder c_least c_leastOrder c_book c_now_123j c_pad) H → va_D A (w_X11_goDays cI cJ cZ h_this h_this_book h_this_now h_this_pad g_this_width g_this_key g_this_wide g_this_delay g_this_ahead g_this_after g_this_sight g_this_counts g_this_isOne g_this_ways g_this_image g_this_isKept c_rules c_sights c_signs c_reason_123j c_acts_123j c_meetings c_clashes c_first c_where c_door c_wider c_ordersFound c_firstOrder c_least c_leastOrder c_book c_now_123j c_pad) → va_S A s.heap H locs → lv_has ls 4 [(0, .ref h_this), (1, .int l1_123j)] → f_X11_goDays_j123 l1_123j c_acts_123j c_now_123j s2_123j s3_123j = some o_11 → W p l e rm_X11_goDays s m args below meth c H locs 0 0 Z (F0 m 123 ls [.int s3_123j, .int s2_123j, .ref h_this, .ref h_this]) := by
        intro l1_123j s2_123j s3_123j c_reason_123j c_acts_123j c_now_123j H locs ls hP hD hS hl hf
        unfold f_X11_goDays_j123 at hf
        obtain ⟨r_123, c_now_123, hv_123, hf⟩ := bd2_some hf
        refine kWi (rV (C := RX11) [.int s2_123j, .int s3_123j] [.ref h_this] S (c_X11_join l dC dI cI cJ cZ h_this h_this_now h_this_book g_this_width g_this_key g_this_wide g_this_delay g_this_ahead g_this_after g_this_sight h_this_pad g_this_counts g_this_isOne g_this_ways g_this_image g_this_isKept H.size c_rules c_sights c_signs c_reason_123j c_acts_123j c_meetings c_clashes c_first c_where c_door c_wider c_ordersFound c_firstOrder c_least c_leastOrder c_now_123j s2_123j s3_123j r_123 c_now_123 hv_123) (cwV 2 hts gX11_goDays_X11_join rfl rfl rfl (by decide +kernel) ⟨Nat.le_of_ble_eq_true rfl, Nat.le_of_ble_eq_true rfl⟩) (va_recv hK hP (ci := 11) (q0 := 0) rfl rfl) hP hD hK hN [0, 2] rfl (by decide +kernel) rfl hl.1 rfl (Nat.le_of_ble_eq_true rfl) dX11_goDays_123 ⟨Nat.le_of_ble_eq_true rfl, Nat.le_of_ble_eq_true rfl⟩) hP hD hS hA [0, 2] rfl rfl [some 0, none, some 1, none] (by decide +kernel) rfl (fun H locs hP hD hS => ?_)
        have hP : va_P (dC, dI) vwCl (w_X11_goDays cI cJ cZ h_this h_this_book h_this_now h_this_pad g_this_width g_this_key g_this_wide g_this_delay g_this_ahead g_this_after g_this_sight g_this_counts g_this_isOne g_this_ways g_this_image g_this_isKept c_rules c_sights c_signs c_reason_123j c_acts_123j c_meetings c_clashes c_first c_where c_door c_wider c_ordersFound c_firstOrder c_least c_leastOrder c_book c_now_123 c_pad) H := hP
        have hD : va_D A (w_X11_goDays cI cJ cZ h_this h_this_book h_this_now h_this_pad g_this_width g_this_key g_this_wide g_this_delay g_this_ahead g_this_after g_this_sight g_this_counts g_this_isOne g_this_ways g_this_image g_this_isKept c_rules c_sights c_signs c_reason_123j c_acts_123j c_meetings c_clashes c_first c_where c_door c_wider c_ordersFound c_firstOrder c_least c_leastOrder c_book c_now_123 c_pad) := hD
        exact J_126 l1_123j r_123 c_reason_123j c_acts_123j c_now_123 H locs ls hP hD hS (lv_sub hl [0, 1] rfl) hf
      refine lv_iload_n hx hb dX11_goDays_11 rfl (lv_at hl 1 rfl) ?_
      refine lv_aload_n hx hb dX11_goDays_12 rfl (lv_at hl 0 rfl) ?_
      refine va_get (D := (dC, dI)) (ci := 11) (v := .int c_signs) (C := RX11) (T := TX11) (N := 30) hx hb hts in_X11_goDays_X11 hown hK hP 0 rfl rfl 11 (by decide) (hts _ m_X11_goDays_f68) (fun _ h9 => h9) rfl dX11_goDays_13 ?_
      refine lv_icmp_ge (tgt := 157) hx hb dX11_goDays_16 (by decide) (fun k_16 => ?_) (fun k_16 => ?_)
      · have hf := ite_t hf k_16
        exact K_11 l1_11 c_reason_11 c_acts_11 c_now_11 (ho2_11 _ (Option.some.inj hf).symm).symm H locs ls hP hD hS (lv_sub hl [] rfl)
      · have hf := ite_f hf k_16
        refine lv_aload_n hx hb dX11_goDays_19 rfl (lv_at hl 0 rfl) ?_
        refine va_get (D := (dC, dI)) (ci := 11) (v := .ref h_this_pad) (C := RX11) (T := TX11) (N := 30) hx hb hts in_X11_goDays_X11 hown hK hP 0 rfl rfl 12 (by decide) (hts _ m_X11_goDays_f37) (fun _ h9 => h9) rfl dX11_goDays_20 ?_
        refine lv_iload_n hx hb dX11_goDays_23 rfl (lv_at hl 1 rfl) ?_
        obtain ⟨g_24, hf⟩ := gd_some hf
        refine va_iald hx hb hK hP 3 0 rfl rfl g_24 dX11_goDays_24 ?_
        refine lv_bipush (v := 33) hx hb dX11_goDays_25 (by decide) ?_
        refine lv_icmp_ne (tgt := 44) hx hb dX11_goDays_27 (by decide) (fun k_27 => ?_) (fun k_27 => ?_)
        · have hf := ite_f hf k_27
          refine lv_aload_n hx hb dX11_goDays_44 rfl (lv_at hl 0 rfl) ?_
          refine va_get (D := (dC, dI)) (ci := 11) (v := .ref h_this_pad) (C := RX11) (T := TX11) (N := 30) hx hb hts in_X11_goDays_X11 hown hK hP 0 rfl rfl 12 (by decide) (hts _ m_X11_goDays_f37) (fun _ h9 => h9) rfl dX11_goDays_45 ?_
          refine lv_iload_n hx hb dX11_goDays_48 rfl (lv_at hl 1 rfl) ?_
          obtain ⟨g_49, hf⟩ := gd_some hf
          refine va_iald hx hb hK hP 3 0 rfl rfl g_49 dX11_goDays_49 ?_
          refine lv_bipush (v := 65) hx hb dX11_goDays_50 (by decide) ?_
          refine lv_isub hx hb dX11_goDays_52 ?_
          obtain ⟨l2_53s, e_l2_53s, hf⟩ := nmv_some hf
          refine tpi e_l2_53s ?_
          refine lv_istore_n (lv' := [(2, .int l2_53s), (0, .ref h_this), (1, .int l1_11)]) hx hb dX11_goDays_53 rfl hl (by decide) rfl (fun ls hl => ?_)
          refine lv_aload_n hx hb dX11_goDays_54 rfl (lv_at hl 1 rfl) ?_
          refine va_get (D := (dC, dI)) (ci := 11) (v := .ref h_this_pad) (C := RX11) (T := TX11) (N := 30) hx hb hts in_X11_goDays_X11 hown hK hP 0 rfl rfl 12 (by decide) (hts _ m_X11_goDays_f37) (fun _ h9 => h9) rfl dX11_goDays_55 ?_
          refine lv_iload_n hx hb dX11_goDays_58 rfl (lv_at hl 2 rfl) ?_
          refine lv_iconst (v := 1) hx hb dX11_goDays_59 (by decide) ?_
          refine lv_iadd hx hb dX11_goDays_60 ?_
          obtain ⟨g_61, hf⟩ := gd_some hf
          refine va_iald hx hb hK hP 3 0 rfl rfl g_61 dX11_goDays_61 ?_
          obtain ⟨l3_62s, e_l3_62s, hf⟩ := nmv_some hf
          refine tpi e_l3_62s ?_
          refine lv_istore_n (lv' := [(3, .int l3_62s), (2, .int l2_53s), (0, .ref h_this), (1, .int l1_11)]) hx hb dX11_goDays_62 rfl hl (by decide) rfl (fun ls hl => ?_)
          refine lv_iload_n hx hb dX11_goDays_63 rfl (lv_at hl 0 rfl) ?_
          refine lv_bipush (v := 120) hx hb dX11_goDays_64 (by decide) ?_
          refine lv_icmp_ne (tgt := 95) hx hb dX11_goDays_66 (by decide) (fun k_66 => ?_) (fun k_66 => ?_)
          · have hf := ite_f hf k_66
            refine lv_aload_n hx hb dX11_goDays_95 rfl (lv_at hl 2 rfl) ?_
            refine lv_iload_n hx hb dX11_goDays_96 rfl (lv_at hl 0 rfl) ?_
            refine lv_bipush (v := 45) hx hb dX11_goDays_97 (by decide) ?_
            refine lv_icmp_ne (tgt := 110) hx hb dX11_goDays_99 (by decide) (fun k_99 => ?_) (fun k_99 => ?_)
            · have hf := ite_f hf k_99
              refine lv_aload_n hx hb dX11_goDays_110 rfl (lv_at hl 2 rfl) ?_
              refine lv_iload_n hx hb dX11_goDays_111 rfl (lv_at hl 1 rfl) ?_
              refine lv_iload_n hx hb dX11_goDays_112 rfl (lv_at hl 0 rfl) ?_
              refine lv_bipush (v := 100) hx hb dX11_goDays_113 (by decide) ?_
              refine lv_icmp_ne (tgt := 122) hx hb dX11_goDays_115 (by decide) (fun k_115 => ?_) (fun k_115 => ?_)
              · have hf := ite_f hf k_115
                refine lv_iconst (v := 1) hx hb dX11_goDays_122 (by decide) ?_
                exact J_123 l1_11 l2_53s 1 c_reason_11 c_acts_11 c_now_11 H locs ls hP hD hS (lv_sub hl [2, 3] rfl) hf
              · have hf := ite_t hf k_115
                refine lv_iconst (v := 0) hx hb dX11_goDays_118 (by decide) ?_
                refine lv_goto (tgt := 123) hx hb dX11_goDays_119 (by decide) ?_
                exact J_123 l1_11 l2_53s 0 c_reason_11 c_acts_11 c_now_11 H locs ls hP hD hS (lv_sub hl [2, 3] rfl) hf
            · have hf := ite_t hf k_99
              refine lv_aload_n hx hb dX11_goDays_102 rfl (lv_at hl 2 rfl) ?_
              refine lv_iload_n hx hb dX11_goDays_103 rfl (lv_at hl 1 rfl) ?_
              obtain ⟨r_104, c_now_104, hv_104, hf⟩ := bd2_some hf
              refine kWi (rV (C := RX11) [.int l2_53s] [.ref h_this] S (c_X11_goHome l dC dI cI cJ cZ h_this h_this_now h_this_book g_this_width g_this_key g_this_wide g_this_delay g_this_ahead g_this_after g_this_sight h_this_pad g_this_counts g_this_isOne g_this_ways g_this_image g_this_isKept H.size c_rules c_sights c_signs c_reason_11 c_acts_11 c_meetings c_clashes c_first c_where c_door c_wider c_ordersFound c_firstOrder c_least c_leastOrder c_now_11 l2_53s r_104 c_now_104 hv_104) (cwV 1 hts gX11_goDays_X11_goHome rfl rfl rfl (by decide +kernel) ⟨Nat.le_of_ble_eq_true rfl, Nat.le_of_ble_eq_true rfl⟩) (va_recv hK hP (ci := 11) (q0 := 0) rfl rfl) hP hD hK hN [0, 2] rfl (by decide +kernel) rfl hl.1 rfl (Nat.le_of_ble_eq_true rfl) dX11_goDays_104 ⟨Nat.le_of_ble_eq_true rfl, Nat.le_of_ble_eq_true rfl⟩) hP hD hS hA [0, 2] rfl rfl [some 0, none, some 1, none] (by decide +kernel) rfl (fun H locs hP hD hS => ?_)
              have hP : va_P (dC, dI) vwCl (w_X11_goDays cI cJ cZ h_this h_this_book h_this_now h_this_pad g_this_width g_this_key g_this_wide g_this_delay g_this_ahead g_this_after g_this_sight g_this_counts g_this_isOne g_this_ways g_this_image g_this_isKept c_rules c_sights c_signs c_reason_11 c_acts_11 c_meetings c_clashes c_first c_where c_door c_wider c_ordersFound c_firstOrder c_least c_leastOrder c_book c_now_104 c_pad) H := hP
              have hD : va_D A (w_X11_goDays cI cJ cZ h_this h_this_book h_this_now h_this_pad g_this_width g_this_key g_this_wide g_this_delay g_this_ahead g_this_after g_this_sight g_this_counts g_this_isOne g_this_ways g_this_image g_this_isKept c_rules c_sights c_signs c_reason_11 c_acts_11 c_meetings c_clashes c_first c_where c_door c_wider c_ordersFound c_firstOrder c_least c_leastOrder c_book c_now_104 c_pad) := hD
              refine lv_goto (tgt := 126) hx hb dX11_goDays_107 (by decide) ?_
              exact J_126 l1_11 r_104 c_reason_11 c_acts_11 c_now_104 H locs ls hP hD hS (lv_sub hl [2, 3] rfl) hf
          · have hf := ite_t hf k_66
            refine lv_aload_n hx hb dX11_goDays_69 rfl (lv_at hl 2 rfl) ?_
            refine lv_aload_n hx hb dX11_goDays_70 rfl (lv_at hl 2 rfl) ?_
            refine lv_iload_n hx hb dX11_goDays_71 rfl (lv_at hl 1 rfl) ?_
            refine lv_aload_n hx hb dX11_goDays_72 rfl (lv_at hl 2 rfl) ?_
            refine va_get (D := (dC, dI)) (ci := 11) (v := .ref h_this_pad) (C := RX11) (T := TX11) (N := 30) hx hb hts in_X11_goDays_X11 hown hK hP 0 rfl rfl 12 (by decide) (hts _ m_X11_goDays_f37) (fun _ h9 => h9) rfl dX11_goDays_73 ?_
            refine lv_iload_n hx hb dX11_goDays_76 rfl (lv_at hl 3 rfl) ?_
            refine lv_iconst (v := 2) hx hb dX11_goDays_77 (by decide) ?_
            refine lv_iadd hx hb dX11_goDays_78 ?_
            obtain ⟨g_79, hf⟩ := gd_some hf
            refine va_iald hx hb hK hP 3 0 rfl rfl g_79 dX11_goDays_79 ?_
            refine lv_bipush (v := 65) hx hb dX11_goDays_80 (by decide) ?_
            refine lv_isub hx hb dX11_goDays_82 ?_
            obtain ⟨r_83, c_now_83, hv_83, hf⟩ := bd2_some hf
            refine kWi (rV (C := RX11) [.int l2_53s, .int ((c_pad (Int32.toNatClampNeg (l1_11 + 2))) - 65)] [.ref h_this] S (c_X11_change l dC dI cI cJ cZ h_this h_this_now h_this_book g_this_width g_this_key g_this_wide g_this_delay g_this_ahead g_this_after g_this_sight h_this_pad g_this_counts g_this_isOne g_this_ways g_this_image g_this_isKept H.size c_rules c_sights c_signs c_reason_11 c_acts_11 c_meetings c_clashes c_first c_where c_door c_wider c_ordersFound c_firstOrder c_least c_leastOrder c_now_11 l2_53s ((c_pad (Int32.toNatClampNeg (l1_11 + 2))) - 65) r_83 c_now_83 hv_83) (cwV 2 hts gX11_goDays_X11_change rfl rfl rfl (by decide +kernel) ⟨Nat.le_of_ble_eq_true rfl, Nat.le_of_ble_eq_true rfl⟩) (va_recv hK hP (ci := 11) (q0 := 0) rfl rfl) hP hD hK hN [0, 2] rfl (by decide +kernel) rfl hl.1 rfl (Nat.le_of_ble_eq_true rfl) dX11_goDays_83 ⟨Nat.le_of_ble_eq_true rfl, Nat.le_of_ble_eq_true rfl⟩) hP hD hS hA [0, 2] rfl rfl [some 0, none, some 1, none] (by decide +kernel) rfl (fun H locs hP hD hS => ?_)
            have hP : va_P (dC, dI) vwCl (w_X11_goDays cI cJ cZ h_this h_this_book h_this_now h_this_pad g_this_width g_this_key g_this_wide g_this_delay g_this_ahead g_this_after g_this_sight g_this_counts g_this_isOne g_this_ways g_this_image g_this_isKept c_rules c_sights c_signs c_reason_11 c_acts_11 c_meetings c_clashes c_first c_where c_door c_wider c_ordersFound c_firstOrder c_least c_leastOrder c_book c_now_83 c_pad) H := hP
            have hD : va_D A (w_X11_goDays cI cJ cZ h_this h_this_book h_this_now h_this_pad g_this_width g_this_key g_this_wide g_this_delay g_this_ahead g_this_after g_this_sight g_this_counts g_this_isOne g_this_ways g_this_image g_this_isKept c_rules c_sights c_signs c_reason_11 c_acts_11 c_meetings c_clashes c_first c_where c_door c_wider c_ordersFound c_firstOrder c_least c_leastOrder c_book c_now_83 c_pad) := hD
            refine va_put (D := (dC, dI)) (ci := 11) (v := .int r_83) (ty := .int) (C := RX11) (T := TX11) (N := 30) hx hb hts in_X11_goDays_X11 tyX11 tyX11_ok nmX11 hown hK hP hD hS 0 rfl rfl 13 (by decide) (hts _ m_X11_goDays_f92) (fun _ h9 => h9) rfl (by decide +kernel) rfl rfl (Nat.le_of_ble_eq_true rfl) dX11_goDays_86 (fun H locs hP hD hS => ?_)
            have hP : va_P (dC, dI) vwCl (w_X11_goDays cI cJ cZ h_this h_this_book h_this_now h_this_pad g_this_width g_this_key g_this_wide g_this_delay g_this_ahead g_this_after g_this_sight g_this_counts g_this_isOne g_this_ways g_this_image g_this_isKept c_rules c_sights c_signs r_83 c_acts_11 c_meetings c_clashes c_first c_where c_door c_wider c_ordersFound c_firstOrder c_least c_leastOrder c_book c_now_83 c_pad) H := hP
            have hD : va_D A (w_X11_goDays cI cJ cZ h_this h_this_book h_this_now h_this_pad g_this_width g_this_key g_this_wide g_this_delay g_this_ahead g_this_after g_this_sight g_this_counts g_this_isOne g_this_ways g_this_image g_this_isKept c_rules c_sights c_signs r_83 c_acts_11 c_meetings c_clashes c_first c_where c_door c_wider c_ordersFound c_firstOrder c_least c_leastOrder c_book c_now_83 c_pad) := hD
            refine lv_iinc (v := (l1_11 + 3)) (lv' := [(1, .int (l1_11 + 3)), (3, .int l3_62s), (2, .int l2_53s), (0, .ref h_this)]) hx hb dX11_goDays_89 hl (k := 3) rfl rfl (by decide) rfl (fun ls hl => ?_)
            refine lv_goto (tgt := 132) hx hb dX11_goDays_92 (by decide) ?_
            exact J_132 (l1_11 + 3) r_83 c_acts_11 c_now_83 H locs ls hP hD hS (lv_sub hl [3, 0] rfl) hf
        · have hf := ite_t hf k_27
          refine lv_aload_n hx hb dX11_goDays_30 rfl (lv_at hl 0 rfl) ?_
          refine lv_aload_n hx hb dX11_goDays_31 rfl (lv_at hl 0 rfl) ?_
          obtain ⟨r_32, c_now_32, hv_32, hf⟩ := bd2_some hf
          refine kWi (rV (C := RX11) [] [.ref h_this] S (c_X11_ring l dC dI cI cJ cZ h_this h_this_now h_this_book g_this_width g_this_key g_this_wide g_this_delay g_this_ahead g_this_after g_this_sight h_this_pad g_this_counts g_this_isOne g_this_ways g_this_image g_this_isKept H.size c_rules c_sights c_signs c_reason_11 c_acts_11 c_meetings c_clashes c_first c_where c_door c_wider c_ordersFound c_firstOrder c_least c_leastOrder c_now_11 r_32 c_now_32 hv_32) (cwV 0 hts gX11_goDays_X11_ring rfl rfl rfl (by decide +kernel) ⟨Nat.le_of_ble_eq_true rfl, Nat.le_of_ble_eq_true rfl⟩) (va_recv hK hP (ci := 11) (q0 := 0) rfl rfl) hP hD hK hN [0, 2] rfl (by decide +kernel) rfl hl.1 rfl (Nat.le_of_ble_eq_true rfl) dX11_goDays_32 ⟨Nat.le_of_ble_eq_true rfl, Nat.le_of_ble_eq_true rfl⟩) hP hD hS hA [0, 2] rfl rfl [some 0, none, some 1, none] (by decide +kernel) rfl (fun H locs hP hD hS => ?_)
          have hP : va_P (dC, dI) vwCl (w_X11_goDays cI cJ cZ h_this h_this_book h_this_now h_this_pad g_this_width g_this_key g_this_wide g_this_delay g_this_ahead g_this_after g_this_sight g_this_counts g_this_isOne g_this_ways g_this_image g_this_isKept c_rules c_sights c_signs c_reason_11 c_acts_11 c_meetings c_clashes c_first c_where c_door c_wider c_ordersFound c_firstOrder c_least c_leastOrder c_book c_now_32 c_pad) H := hP
          have hD : va_D A (w_X11_goDays cI cJ cZ h_this h_this_book h_this_now h_this_pad g_this_width g_this_key g_this_wide g_this_delay g_this_ahead g_this_after g_this_sight g_this_counts g_this_isOne g_this_ways g_this_image g_this_isKept c_rules c_sights c_signs c_reason_11 c_acts_11 c_meetings c_clashes c_first c_where c_door c_wider c_ordersFound c_firstOrder c_least c_leastOrder c_book c_now_32 c_pad) := hD
          refine va_put (D := (dC, dI)) (ci := 11) (v := .int r_32) (ty := .int) (C := RX11) (T := TX11) (N := 30) hx hb hts in_X11_goDays_X11 tyX11 tyX11_ok nmX11 hown hK hP hD hS 0 rfl rfl 13 (by decide) (hts _ m_X11_goDays_f92) (fun _ h9 => h9) rfl (by decide +kernel) rfl rfl (Nat.le_of_ble_eq_true rfl) dX11_goDays_35 (fun H locs hP hD hS => ?_)
          have hP : va_P (dC, dI) vwCl (w_X11_goDays cI cJ cZ h_this h_this_book h_this_now h_this_pad g_this_width g_this_key g_this_wide g_this_delay g_this_ahead g_this_after g_this_sight g_this_counts g_this_isOne g_this_ways g_this_image g_this_isKept c_rules c_sights c_signs r_32 c_acts_11 c_meetings c_clashes c_first c_where c_door c_wider c_ordersFound c_firstOrder c_least c_leastOrder c_book c_now_32 c_pad) H := hP
          have hD : va_D A (w_X11_goDays cI cJ cZ h_this h_this_book h_this_now h_this_pad g_this_width g_this_key g_this_wide g_this_delay g_this_ahead g_this_after g_this_sight g_this_counts g_this_isOne g_this_ways g_this_image g_this_isKept c_rules c_sights c_signs r_32 c_acts_11 c_meetings c_clashes c_first c_where c_door c_wider c_ordersFound c_firstOrder c_least c_leastOrder c_book c_now_32 c_pad) := hD
          refine lv_iinc (v := (l1_11 + 1)) (lv' := [(1, .int (l1_11 + 1)), (0, .ref h_this)]) hx hb dX11_goDays_38 hl (k := 1) rfl rfl (by decide) rfl (fun ls hl => ?_)
          refine lv_goto (tgt := 132) hx hb dX11_goDays_41 (by decide) ?_
          exact J_132 (l1_11 + 1) r_32 c_acts_11 c_now_32 H locs ls hP hD hS (lv_sub hl [1, 0] rfl) hf
  exact L_11 FU 0 c_reason 0 c_now_1 H locs ls hP hD hS (lv_sub hl [1, 0] rfl) hq_11
abbrev w_X11_judge (cI cJ cZ : ClassId) (h_this h_this_book h_this_now h_this_pad g_this_width g_this_key g_this_wide g_this_delay g_this_ahead g_this_after g_this_sight g_this_counts g_this_isOne g_this_ways g_this_image g_this_isKept : Nat) (c_rules : Int32) (c_sights : Int32) (c_signs : Int32) (c_reason : Int32) (c_acts : Int32) (c_meetings : Int32) (c_clashes : Int32) (c_first : Int32) (c_where : Int32) (c_door : Int32) (c_wider : Int32) (c_ordersFound : Int32) (c_firstOrder : Int32) (c_least : Int32) (c_leastOrder : Int32) (c_book : Nat → Int32) (c_now : Nat → Int32) (c_pad : Nat → Int32) : va_W := [(h_this, .inr (11, [.ref h_this_book, .ref h_this_now, .ref g_this_width, .ref g_this_key, .ref g_this_wide, .ref g_this_delay, .int c_rules, .ref g_this_ahead, .ref g_this_after, .int c_sights, .ref g_this_sight, .int c_signs, .ref h_this_pad, .int c_reason, .int c_acts, .int c_meetings, .int c_clashes, .int c_first, .int c_where, .int c_door, .int c_wider, .int c_ordersFound, .int c_firstOrder, .int c_least, .int c_leastOrder, .ref g_this_counts, .ref g_this_isOne, .ref g_this_ways, .ref g_this_image, .ref g_this_isKept])), (h_this_book, .inl (cI, 15, .inl c_book)), (h_this_now, .inl (cI, 15, .inl c_now)), (h_this_pad, .inl (cI, 60, .inl c_pad))]
abbrev rm_X11_judge : Room := { frames := 3, cells := 0, slots := 0, locals := 70 }
theorem m_X11_judge_f92 : (.fieldLink RX11 92 "WovenRowsModel" "reason" "I" : Cond) ∈ wsX11_judge := by decide +kernel
theorem in_X11_judge_X11 : ∀ w ∈ u_ws RX11 TX11 30, w ∈ wsX11_judge := by decide +kernel
set_option maxRecDepth 100000 in
set_option maxHeartbeats 4000000 in
theorem c_X11_judge (l : Launch) (dC : Nat → ClassId) (dI : Nat → Nat → Nat) (cI cJ cZ : ClassId) (h_this h_this_book h_this_now h_this_pad g_this_width g_this_key g_this_wide g_this_delay g_this_ahead g_this_after g_this_sight g_this_counts g_this_isOne g_this_ways g_this_image g_this_isKept : Nat) (sz : Nat) (c_rules : Int32) (c_sights : Int32) (c_signs : Int32) (c_reason : Int32) (c_acts : Int32) (c_meetings : Int32) (c_clashes : Int32) (c_first : Int32) (c_where : Int32) (c_door : Int32) (c_wider : Int32) (c_ordersFound : Int32) (c_firstOrder : Int32) (c_least : Int32) (c_leastOrder : Int32) (c_book : Nat → Int32) (c_now : Nat → Int32) (c_pad : Nat → Int32) (l1 : Int32) (r : Int32) (z_reason : Int32) (z_acts : Int32) (z_now : Nat → Int32) (hf : f_X11_judge c_signs c_reason c_acts c_book c_now c_pad l1 = some (r, z_reason, z_acts, z_now)) : Met l yX11_judge wsX11_judge rm_X11_judge (va_Pc [.ref h_this, .int l1] (PRE (dC, dI) (TY cI cJ cZ) sz (w_X11_judge cI cJ cZ h_this h_this_book h_this_now h_this_pad g_this_width g_this_key g_this_wide g_this_delay g_this_ahead g_this_after g_this_sight g_this_counts g_this_isOne g_this_ways g_this_image g_this_isKept c_rules c_sights c_signs c_reason c_acts c_meetings c_clashes c_first c_where c_door c_wider c_ordersFound c_firstOrder c_least c_leastOrder c_book c_now c_pad))) (va_Qi (fun r' (_ : Unit) => r' = r) (POW (dC, dI) (va_A (w_X11_judge cI cJ cZ h_this h_this_book h_this_now h_this_pad g_this_width g_this_key g_this_wide g_this_delay g_this_ahead g_this_after g_this_sight g_this_counts g_this_isOne g_this_ways g_this_image g_this_isKept c_rules c_sights c_signs c_reason c_acts c_meetings c_clashes c_first c_where c_door c_wider c_ordersFound c_firstOrder c_least c_leastOrder c_book c_now c_pad) sz) (w_X11_judge cI cJ cZ h_this h_this_book h_this_now h_this_pad g_this_width g_this_key g_this_wide g_this_delay g_this_ahead g_this_after g_this_sight g_this_counts g_this_isOne g_this_ways g_this_image g_this_isKept c_rules c_sights c_signs z_reason z_acts c_meetings c_clashes c_first c_where c_door c_wider c_ordersFound c_firstOrder c_least c_leastOrder c_book z_now c_pad)) (va_A (w_X11_judge cI cJ cZ h_this h_this_book h_this_now h_this_pad g_this_width g_this_key g_this_wide g_this_delay g_this_ahead g_this_after g_this_sight g_this_counts g_this_isOne g_this_ways g_this_image g_this_isKept c_rules c_sights c_signs c_reason c_acts c_meetings c_clashes c_first c_where c_door c_wider c_ordersFound c_firstOrder c_least c_leastOrder c_book c_now c_pad) sz)) 0 0 (va_A (w_X11_judge cI cJ cZ h_this h_this_book h_this_now h_this_pad g_this_width g_this_key g_this_wide g_this_delay g_this_ahead g_this_after g_this_sight g_this_counts g_this_isOne g_this_ways g_this_image g_this_isKept c_rules c_sights c_signs c_reason c_acts c_meetings c_clashes c_first c_where c_door c_wider c_ordersFound c_firstOrder c_least c_leastOrder c_book c_now c_pad) sz) := by
  refine ofWi (ty := .int) (by decide +kernel) rfl (Nat.le_of_ble_eq_true rfl) ?_
  intro p e s m args below meth c Z A ls S hP hD hK hN hA hl hret
  obtain ⟨hx, hb, hml, hown, hts⟩ := id S
  have hown : s.vm.findClass RX11 = some m.cls := hown
  have hS : va_S A s.heap s.heap [] := va_S.rf
  have hl : lv_has ls 3 [(0, .ref h_this), (1, .int l1)] := hl
  unfold f_X11_judge at hf
  have J_35 : ∀ (l2_35j : Int32) (c_reason_35j : Int32) (c_acts_35j : Int32) (c_now_35j : Nat → Int32) (H : Heap) (locs : List Loc) (ls : Array Slot), va_P (dC, dI) vwCl (w_X11_judge cI cJ cZ h_this h_this_book h_this_now h_this_pad g_this_width g_this_key g_this_wide g_this_delay g_this_ahead g_this_after g_this_sight g_this_counts g_this_isOne g_this_ways g_this_image g_this_isKept c_rules c_sights c_signs c_reason_35j c_acts_35j c_meetings c_clashes c_first c_where c_door c_wider c_ordersFound c_firstOrder c_least c_leastOrder c_book c_now_35j c_pad) H → va_D A (w_X11_judge cI cJ cZ h_this h_this_book h_this_now h_this_pad g_this_width g_this_key g_this_wide g_this_delay g_this_ahead g_this_after g_this_sight g_this_counts g_this_isOne g_this_ways g_this_image g_this_isKept c_rules c_sights c_signs c_reason_35j c_acts_35j c_meetings c_clashes c_first c_where c_door c_wider c_ordersFound c_firstOrder c_least c_leastOrder c_book c_now_35j c_pad) → va_S A s.heap H locs → lv_has ls 3 [(2, .int l2_35j)] → f_X11_judge_j35 l2_35j c_reason_35j c_acts_35j c_now_35j = some (r, z_reason, z_acts, z_now) → W p l e rm_X11_judge s m args below meth c H locs 0 0 Z (F0 m 35 ls []) := by
    intro l2_35j c_reason_35j c_acts_35j c_now_35j H locs ls hP hD hS hl hf
    unfold f_X11_judge_j35 at hf
    refine lv_iload_n hx hb dX11_judge_35 rfl (lv_at hl 0 rfl) ?_
    refine lv_goto (tgt := 43) hx hb dX11_judge_36 (by decide) ?_
    have e_f := Option.some.inj hf
    cases e_f
    exact hret rfl hP hD hS dX11_judge_43
  refine lv_iload_n hx hb dX11_judge_0 rfl (lv_at hl 1 rfl) ?_
  refine lv_iconst (v := 0) hx hb dX11_judge_1 (by decide) ?_
  refine lv_iconst (v := 1) hx hb dX11_judge_2 (by decide) ?_
  obtain ⟨r_3, hv_3, hf⟩ := bd1_some hf
  refine kSi (rS [.int l1, .int 0, .int 1] [] S (c_X11_in l dC dI cI cJ cZ s.heap.size l1 0 1 r_3 hv_3) (va_cwS 3 hts gX11_judge_X11_in rfl rfl rfl (by decide +kernel) ⟨Nat.le_of_ble_eq_true rfl, Nat.le_of_ble_eq_true rfl⟩) hP hD hK hN [] rfl (by decide +kernel) rfl hl.1 rfl (Nat.le_of_ble_eq_true rfl) dX11_judge_3 ⟨Nat.le_of_ble_eq_true rfl, Nat.le_of_ble_eq_true rfl⟩) ?_
  refine lv_if_ne (tgt := 12) hx hb dX11_judge_6 (by decide) (fun k_6 => ?_) (fun k_6 => ?_)
  · have hf := ite_f hf k_6
    refine lv_aload_n hx hb dX11_judge_12 rfl (lv_at hl 0 rfl) ?_
    obtain ⟨r_13, hv_13, hf⟩ := bd1_some hf
    refine kSi (rV (C := RX11) [] [] S (c_X11_faultOf l dC dI cI cJ cZ h_this h_this_pad h_this_book h_this_now g_this_width g_this_key g_this_wide g_this_delay g_this_ahead g_this_after g_this_sight g_this_counts g_this_isOne g_this_ways g_this_image g_this_isKept s.heap.size c_rules c_sights c_signs c_reason c_acts c_meetings c_clashes c_first c_where c_door c_wider c_ordersFound c_firstOrder c_least c_leastOrder c_pad r_13 hv_13) (cwV 0 hts gX11_judge_X11_faultOf rfl rfl rfl (by decide +kernel) ⟨Nat.le_of_ble_eq_true rfl, Nat.le_of_ble_eq_true rfl⟩) (va_recv hK hP (ci := 11) (q0 := 0) rfl rfl) hP hD hK hN [0, 3] rfl (by decide +kernel) rfl hl.1 rfl (Nat.le_of_ble_eq_true rfl) dX11_judge_13 ⟨Nat.le_of_ble_eq_true rfl, Nat.le_of_ble_eq_true rfl⟩) ?_
    refine lv_if_lt (tgt := 22) hx hb dX11_judge_16 (by decide) (fun k_16 => ?_) (fun k_16 => ?_)
    · have hf := ite_t hf k_16
      refine lv_aload_n hx hb dX11_judge_22 rfl (lv_at hl 0 rfl) ?_
      obtain ⟨r_23, c_reason_23, c_acts_23, c_now_23, hv_23, hf⟩ := bd4_some hf
      refine kWi (rV (C := RX11) [] [] S (c_X11_goDays l dC dI cI cJ cZ h_this h_this_book h_this_now h_this_pad g_this_width g_this_key g_this_wide g_this_delay g_this_ahead g_this_after g_this_sight g_this_counts g_this_isOne g_this_ways g_this_image g_this_isKept s.heap.size c_rules c_sights c_signs c_reason c_acts c_meetings c_clashes c_first c_where c_door c_wider c_ordersFound c_firstOrder c_least c_leastOrder c_book c_now c_pad r_23 c_reason_23 c_acts_23 c_now_23 hv_23) (cwV 0 hts gX11_judge_X11_goDays rfl rfl rfl (by decide +kernel) ⟨Nat.le_of_ble_eq_true rfl, Nat.le_of_ble_eq_true rfl⟩) (va_recv hK hP (ci := 11) (q0 := 0) rfl rfl) hP hD hK hN [0, 1, 2, 3] rfl (by decide +kernel) rfl hl.1 rfl (Nat.le_of_ble_eq_true rfl) dX11_judge_23 ⟨Nat.le_of_ble_eq_true rfl, Nat.le_of_ble_eq_true rfl⟩) hP hD hS hA [0, 1, 2, 3] rfl rfl [some 0, some 1, some 2, some 3] (by decide +kernel) rfl (fun H locs hP hD hS => ?_)
      have hP : va_P (dC, dI) vwCl (w_X11_judge cI cJ cZ h_this h_this_book h_this_now h_this_pad g_this_width g_this_key g_this_wide g_this_delay g_this_ahead g_this_after g_this_sight g_this_counts g_this_isOne g_this_ways g_this_image g_this_isKept c_rules c_sights c_signs c_reason_23 c_acts_23 c_meetings c_clashes c_first c_where c_door c_wider c_ordersFound c_firstOrder c_least c_leastOrder c_book c_now_23 c_pad) H := hP
      have hD : va_D A (w_X11_judge cI cJ cZ h_this h_this_book h_this_now h_this_pad g_this_width g_this_key g_this_wide g_this_delay g_this_ahead g_this_after g_this_sight g_this_counts g_this_isOne g_this_ways g_this_image g_this_isKept c_rules c_sights c_signs c_reason_23 c_acts_23 c_meetings c_clashes c_first c_where c_door c_wider c_ordersFound c_firstOrder c_least c_leastOrder c_book c_now_23 c_pad) := hD
      refine lv_istore_n (lv' := [(2, .int r_23), (0, .ref h_this), (1, .int l1)]) hx hb dX11_judge_26 rfl hl (by decide) rfl (fun ls hl => ?_)
      refine lv_iload_n hx hb dX11_judge_27 rfl (lv_at hl 0 rfl) ?_
      refine lv_if_lt (tgt := 35) hx hb dX11_judge_28 (by decide) (fun k_28 => ?_) (fun k_28 => ?_)
      · have hf := ite_t hf k_28
        exact J_35 r_23 c_reason_23 c_acts_23 c_now_23 H locs ls hP hD hS (lv_sub hl [0] rfl) hf
      · have hf := ite_f hf k_28
        refine lv_iload_n hx hb dX11_judge_31 rfl (lv_at hl 2 rfl) ?_
        refine lv_if_ne (tgt := 39) hx hb dX11_judge_32 (by decide) (fun k_32 => ?_) (fun k_32 => ?_)
        · have hf := ite_f hf k_32
          refine lv_aload_n hx hb dX11_judge_39 rfl (lv_at hl 1 rfl) ?_
          refine va_get (D := (dC, dI)) (ci := 11) (v := .int c_reason_23) (C := RX11) (T := TX11) (N := 30) hx hb hts in_X11_judge_X11 hown hK hP 0 rfl rfl 13 (by decide) (hts _ m_X11_judge_f92) (fun _ h9 => h9) rfl dX11_judge_40 ?_
          have e_f := Option.some.inj hf
          cases e_f
          exact hret rfl hP hD hS dX11_judge_43
        · have hf := ite_t hf k_32
          exact J_35 r_23 c_reason_23 c_acts_23 c_now_23 H locs ls hP hD hS (lv_sub hl [0] rfl) hf
    · have hf := ite_f hf k_16
      refine lv_bipush (v := (-5)) hx hb dX11_judge_19 (by decide) ?_
      have e_f := Option.some.inj hf
      cases e_f
      exact hret rfl hP hD hS dX11_judge_21
  · have hf := ite_t hf k_6
    refine lv_bipush (v := (-2)) hx hb dX11_judge_9 (by decide) ?_
    have e_f := Option.some.inj hf
    cases e_f
    exact hret rfl hP hD hS dX11_judge_11
abbrev w_X11_barOfDays (cI cJ cZ : ClassId) (h_this h_this_book h_this_now h_this_pad g_this_width g_this_key g_this_wide g_this_delay g_this_ahead g_this_after g_this_sight g_this_counts g_this_isOne g_this_ways g_this_image g_this_isKept : Nat) (c_rules : Int32) (c_sights : Int32) (c_signs : Int32) (c_reason : Int32) (c_acts : Int32) (c_meetings : Int32) (c_clashes : Int32) (c_first : Int32) (c_where : Int32) (c_door : Int32) (c_wider : Int32) (c_ordersFound : Int32) (c_firstOrder : Int32) (c_least : Int32) (c_leastOrder : Int32) (c_book : Nat → Int32) (c_now : Nat → Int32) (c_pad : Nat → Int32) : va_W := [(h_this, .inr (11, [.ref h_this_book, .ref h_this_now, .ref g_this_width, .ref g_this_key, .ref g_this_wide, .ref g_this_delay, .int c_rules, .ref g_this_ahead, .ref g_this_after, .int c_sights, .ref g_this_sight, .int c_signs, .ref h_this_pad, .int c_reason, .int c_acts, .int c_meetings, .int c_clashes, .int c_first, .int c_where, .int c_door, .int c_wider, .int c_ordersFound, .int c_firstOrder, .int c_least, .int c_leastOrder, .ref g_this_counts, .ref g_this_isOne, .ref g_this_ways, .ref g_this_image, .ref g_this_isKept])), (h_this_book, .inl (cI, 15, .inl c_book)), (h_this_now, .inl (cI, 15, .inl c_now)), (h_this_pad, .inl (cI, 60, .inl c_pad))]
abbrev rm_X11_barOfDays : Room := { frames := 3, cells := 0, slots := 0, locals := 70 }
set_option maxRecDepth 100000 in
set_option maxHeartbeats 4000000 in
theorem c_X11_barOfDays (l : Launch) (dC : Nat → ClassId) (dI : Nat → Nat → Nat) (cI cJ cZ : ClassId) (h_this h_this_book h_this_now h_this_pad g_this_width g_this_key g_this_wide g_this_delay g_this_ahead g_this_after g_this_sight g_this_counts g_this_isOne g_this_ways g_this_image g_this_isKept : Nat) (sz : Nat) (c_rules : Int32) (c_sights : Int32) (c_signs : Int32) (c_reason : Int32) (c_acts : Int32) (c_meetings : Int32) (c_clashes : Int32) (c_first : Int32) (c_where : Int32) (c_door : Int32) (c_wider : Int32) (c_ordersFound : Int32) (c_firstOrder : Int32) (c_least : Int32) (c_leastOrder : Int32) (c_book : Nat → Int32) (c_now : Nat → Int32) (c_pad : Nat → Int32) (r : Int32) (z_reason : Int32) (z_acts : Int32) (z_now : Nat → Int32) (hf : f_X11_barOfDays c_signs c_reason c_acts c_book c_now c_pad = some (r, z_reason, z_acts, z_now)) : Met l yX11_barOfDays wsX11_barOfDays rm_X11_barOfDays (va_Pc [.ref h_this] (PRE (dC, dI) (TY cI cJ cZ) sz (w_X11_barOfDays cI cJ cZ h_this h_this_book h_this_now h_this_pad g_this_width g_this_key g_this_wide g_this_delay g_this_ahead g_this_after g_this_sight g_this_counts g_this_isOne g_this_ways g_this_image g_this_isKept c_rules c_sights c_signs c_reason c_acts c_meetings c_clashes c_first c_where c_door c_wider c_ordersFound c_firstOrder c_least c_leastOrder c_book c_now c_pad))) (va_Qi (fun r' (_ : Unit) => r' = r) (POW (dC, dI) (va_A (w_X11_barOfDays cI cJ cZ h_this h_this_book h_this_now h_this_pad g_this_width g_this_key g_this_wide g_this_delay g_this_ahead g_this_after g_this_sight g_this_counts g_this_isOne g_this_ways g_this_image g_this_isKept c_rules c_sights c_signs c_reason c_acts c_meetings c_clashes c_first c_where c_door c_wider c_ordersFound c_firstOrder c_least c_leastOrder c_book c_now c_pad) sz) (w_X11_barOfDays cI cJ cZ h_this h_this_book h_this_now h_this_pad g_this_width g_this_key g_this_wide g_this_delay g_this_ahead g_this_after g_this_sight g_this_counts g_this_isOne g_this_ways g_this_image g_this_isKept c_rules c_sights c_signs z_reason z_acts c_meetings c_clashes c_first c_where c_door c_wider c_ordersFound c_firstOrder c_least c_leastOrder c_book z_now c_pad)) (va_A (w_X11_barOfDays cI cJ cZ h_this h_this_book h_this_now h_this_pad g_this_width g_this_key g_this_wide g_this_delay g_this_ahead g_this_after g_this_sight g_this_counts g_this_isOne g_this_ways g_this_image g_this_isKept c_rules c_sights c_signs c_reason c_acts c_meetings c_clashes c_first c_where c_door c_wider c_ordersFound c_firstOrder c_least c_leastOrder c_book c_now c_pad) sz)) 0 0 (va_A (w_X11_barOfDays cI cJ cZ h_this h_this_book h_this_now h_this_pad g_this_width g_this_key g_this_wide g_this_delay g_this_ahead g_this_after g_this_sight g_this_counts g_this_isOne g_this_ways g_this_image g_this_isKept c_rules c_sights c_signs c_reason c_acts c_meetings c_clashes c_first c_where c_door c_wider c_ordersFound c_firstOrder c_least c_leastOrder c_book c_now c_pad) sz) := by
  refine ofWi (ty := .int) (by decide +kernel) rfl (Nat.le_of_ble_eq_true rfl) ?_
  intro p e s m args below meth c Z A ls S hP hD hK hN hA hl hret
  obtain ⟨hx, hb, hml, hown, hts⟩ := id S
  have hown : s.vm.findClass RX11 = some m.cls := hown
  have hS : va_S A s.heap s.heap [] := va_S.rf
  have hl : lv_has ls 1 [(0, .ref h_this)] := hl
  unfold f_X11_barOfDays at hf
  have J_14 : ∀ (c_reason_14j : Int32) (c_acts_14j : Int32) (c_now_14j : Nat → Int32) (H : Heap) (locs : List Loc) (ls : Array Slot), va_P (dC, dI) vwCl (w_X11_barOfDays cI cJ cZ h_this h_this_book h_this_now h_this_pad g_this_width g_this_key g_this_wide g_this_delay g_this_ahead g_this_after g_this_sight g_this_counts g_this_isOne g_this_ways g_this_image g_this_isKept c_rules c_sights c_signs c_reason_14j c_acts_14j c_meetings c_clashes c_first c_where c_door c_wider c_ordersFound c_firstOrder c_least c_leastOrder c_book c_now_14j c_pad) H → va_D A (w_X11_barOfDays cI cJ cZ h_this h_this_book h_this_now h_this_pad g_this_width g_this_key g_this_wide g_this_delay g_this_ahead g_this_after g_this_sight g_this_counts g_this_isOne g_this_ways g_this_image g_this_isKept c_rules c_sights c_signs c_reason_14j c_acts_14j c_meetings c_clashes c_first c_where c_door c_wider c_ordersFound c_firstOrder c_least c_leastOrder c_book c_now_14j c_pad) → va_S A s.heap H locs → lv_has ls 1 [] → f_X11_barOfDays_j14 c_reason_14j c_acts_14j c_now_14j = some (r, z_reason, z_acts, z_now) → W p l e rm_X11_barOfDays s m args below meth c H locs 0 0 Z (F0 m 14 ls []) := by
    intro c_reason_14j c_acts_14j c_now_14j H locs ls hP hD hS hl hf
    unfold f_X11_barOfDays_j14 at hf
    refine lv_bipush (v := (-5)) hx hb dX11_barOfDays_14 (by decide) ?_
    refine lv_goto (tgt := 20) hx hb dX11_barOfDays_16 (by decide) ?_
    have e_f := Option.some.inj hf
    cases e_f
    exact hret rfl hP hD hS dX11_barOfDays_20
  refine lv_aload_n hx hb dX11_barOfDays_0 rfl (lv_at hl 0 rfl) ?_
  obtain ⟨r_1, hv_1, hf⟩ := bd1_some hf
  refine kSi (rV (C := RX11) [] [] S (c_X11_faultOf l dC dI cI cJ cZ h_this h_this_pad h_this_book h_this_now g_this_width g_this_key g_this_wide g_this_delay g_this_ahead g_this_after g_this_sight g_this_counts g_this_isOne g_this_ways g_this_image g_this_isKept s.heap.size c_rules c_sights c_signs c_reason c_acts c_meetings c_clashes c_first c_where c_door c_wider c_ordersFound c_firstOrder c_least c_leastOrder c_pad r_1 hv_1) (cwV 0 hts gX11_barOfDays_X11_faultOf rfl rfl rfl (by decide +kernel) ⟨Nat.le_of_ble_eq_true rfl, Nat.le_of_ble_eq_true rfl⟩) (va_recv hK hP (ci := 11) (q0 := 0) rfl rfl) hP hD hK hN [0, 3] rfl (by decide +kernel) rfl hl.1 rfl (Nat.le_of_ble_eq_true rfl) dX11_barOfDays_1 ⟨Nat.le_of_ble_eq_true rfl, Nat.le_of_ble_eq_true rfl⟩) ?_
  refine lv_if_ge (tgt := 14) hx hb dX11_barOfDays_4 (by decide) (fun k_4 => ?_) (fun k_4 => ?_)
  · have hf := ite_t hf k_4
    exact J_14 c_reason c_acts c_now s.heap [] ls hP hD hS (lv_sub hl [] rfl) hf
  · have hf := ite_f hf k_4
    refine lv_aload_n hx hb dX11_barOfDays_7 rfl (lv_at hl 0 rfl) ?_
    obtain ⟨r_8, c_reason_8, c_acts_8, c_now_8, hv_8, hf⟩ := bd4_some hf
    refine kWi (rV (C := RX11) [] [] S (c_X11_goDays l dC dI cI cJ cZ h_this h_this_book h_this_now h_this_pad g_this_width g_this_key g_this_wide g_this_delay g_this_ahead g_this_after g_this_sight g_this_counts g_this_isOne g_this_ways g_this_image g_this_isKept s.heap.size c_rules c_sights c_signs c_reason c_acts c_meetings c_clashes c_first c_where c_door c_wider c_ordersFound c_firstOrder c_least c_leastOrder c_book c_now c_pad r_8 c_reason_8 c_acts_8 c_now_8 hv_8) (cwV 0 hts gX11_barOfDays_X11_goDays rfl rfl rfl (by decide +kernel) ⟨Nat.le_of_ble_eq_true rfl, Nat.le_of_ble_eq_true rfl⟩) (va_recv hK hP (ci := 11) (q0 := 0) rfl rfl) hP hD hK hN [0, 1, 2, 3] rfl (by decide +kernel) rfl hl.1 rfl (Nat.le_of_ble_eq_true rfl) dX11_barOfDays_8 ⟨Nat.le_of_ble_eq_true rfl, Nat.le_of_ble_eq_true rfl⟩) hP hD hS hA [0, 1, 2, 3] rfl rfl [some 0, some 1, some 2, some 3] (by decide +kernel) rfl (fun H locs hP hD hS => ?_)
    have hP : va_P (dC, dI) vwCl (w_X11_barOfDays cI cJ cZ h_this h_this_book h_this_now h_this_pad g_this_width g_this_key g_this_wide g_this_delay g_this_ahead g_this_after g_this_sight g_this_counts g_this_isOne g_this_ways g_this_image g_this_isKept c_rules c_sights c_signs c_reason_8 c_acts_8 c_meetings c_clashes c_first c_where c_door c_wider c_ordersFound c_firstOrder c_least c_leastOrder c_book c_now_8 c_pad) H := hP
    have hD : va_D A (w_X11_barOfDays cI cJ cZ h_this h_this_book h_this_now h_this_pad g_this_width g_this_key g_this_wide g_this_delay g_this_ahead g_this_after g_this_sight g_this_counts g_this_isOne g_this_ways g_this_image g_this_isKept c_rules c_sights c_signs c_reason_8 c_acts_8 c_meetings c_clashes c_first c_where c_door c_wider c_ordersFound c_firstOrder c_least c_leastOrder c_book c_now_8 c_pad) := hD
    refine lv_if_lt (tgt := 19) hx hb dX11_barOfDays_11 (by decide) (fun k_11 => ?_) (fun k_11 => ?_)
    · have hf := ite_t hf k_11
      refine lv_iconst (v := 0) hx hb dX11_barOfDays_19 (by decide) ?_
      have e_f := Option.some.inj hf
      cases e_f
      exact hret rfl hP hD hS dX11_barOfDays_20
    · have hf := ite_f hf k_11
      exact J_14 c_reason_8 c_acts_8 c_now_8 H locs ls hP hD hS (lv_sub hl [] rfl) hf
abbrev w_X11_done (cI cJ cZ : ClassId) (h_this h_this_book h_this_now h_this_pad g_this_width g_this_key g_this_wide g_this_delay g_this_ahead g_this_after g_this_sight g_this_counts g_this_isOne g_this_ways g_this_image g_this_isKept : Nat) (c_rules : Int32) (c_sights : Int32) (c_signs : Int32) (c_reason : Int32) (c_acts : Int32) (c_meetings : Int32) (c_clashes : Int32) (c_first : Int32) (c_where : Int32) (c_door : Int32) (c_wider : Int32) (c_ordersFound : Int32) (c_firstOrder : Int32) (c_least : Int32) (c_leastOrder : Int32) (c_book : Nat → Int32) (c_now : Nat → Int32) (c_pad : Nat → Int32) : va_W := [(h_this, .inr (11, [.ref h_this_book, .ref h_this_now, .ref g_this_width, .ref g_this_key, .ref g_this_wide, .ref g_this_delay, .int c_rules, .ref g_this_ahead, .ref g_this_after, .int c_sights, .ref g_this_sight, .int c_signs, .ref h_this_pad, .int c_reason, .int c_acts, .int c_meetings, .int c_clashes, .int c_first, .int c_where, .int c_door, .int c_wider, .int c_ordersFound, .int c_firstOrder, .int c_least, .int c_leastOrder, .ref g_this_counts, .ref g_this_isOne, .ref g_this_ways, .ref g_this_image, .ref g_this_isKept])), (h_this_book, .inl (cI, 15, .inl c_book)), (h_this_now, .inl (cI, 15, .inl c_now)), (h_this_pad, .inl (cI, 60, .inl c_pad))]
abbrev rm_X11_done : Room := { frames := 4, cells := 0, slots := 0, locals := 90 }
theorem m_X11_done_f7 : (.fieldLink RX11 7 "WovenRowsModel" "book" "[I" : Cond) ∈ wsX11_done := by decide +kernel
theorem in_X11_done_X11 : ∀ w ∈ u_ws RX11 TX11 30, w ∈ wsX11_done := by decide +kernel
theorem m_X11_done_f13 : (.fieldLink RX11 13 "WovenRowsModel" "now" "[I" : Cond) ∈ wsX11_done := by decide +kernel
theorem m_X11_done_f68 : (.fieldLink RX11 68 "WovenRowsModel" "signs" "I" : Cond) ∈ wsX11_done := by decide +kernel
theorem m_X11_done_f86 : (.fieldLink RX11 86 "WovenRowsModel" "acts" "I" : Cond) ∈ wsX11_done := by decide +kernel
set_option maxRecDepth 100000 in
set_option maxHeartbeats 4000000 in
theorem c_X11_done (l : Launch) (dC : Nat → ClassId) (dI : Nat → Nat → Nat) (cI cJ cZ : ClassId) (h_this h_this_book h_this_now h_this_pad g_this_width g_this_key g_this_wide g_this_delay g_this_ahead g_this_after g_this_sight g_this_counts g_this_isOne g_this_ways g_this_image g_this_isKept : Nat) (sz : Nat) (c_rules : Int32) (c_sights : Int32) (c_signs : Int32) (c_reason : Int32) (c_acts : Int32) (c_meetings : Int32) (c_clashes : Int32) (c_first : Int32) (c_where : Int32) (c_door : Int32) (c_wider : Int32) (c_ordersFound : Int32) (c_firstOrder : Int32) (c_least : Int32) (c_leastOrder : Int32) (c_book : Nat → Int32) (c_now : Nat → Int32) (c_pad : Nat → Int32) (r : Int32) (z_signs : Int32) (z_reason : Int32) (z_acts : Int32) (z_book : Nat → Int32) (z_now : Nat → Int32) (hf : f_X11_done c_signs c_reason c_acts c_book c_now c_pad = some (r, z_signs, z_reason, z_acts, z_book, z_now)) : Met l yX11_done wsX11_done rm_X11_done (va_Pc [.ref h_this] (PRE (dC, dI) (TY cI cJ cZ) sz (w_X11_done cI cJ cZ h_this h_this_book h_this_now h_this_pad g_this_width g_this_key g_this_wide g_this_delay g_this_ahead g_this_after g_this_sight g_this_counts g_this_isOne g_this_ways g_this_image g_this_isKept c_rules c_sights c_signs c_reason c_acts c_meetings c_clashes c_first c_where c_door c_wider c_ordersFound c_firstOrder c_least c_leastOrder c_book c_now c_pad))) (va_Qi (fun r' (_ : Unit) => r' = r) (POW (dC, dI) (va_A (w_X11_done cI cJ cZ h_this h_this_book h_this_now h_this_pad g_this_width g_this_key g_this_wide g_this_delay g_this_ahead g_this_after g_this_sight g_this_counts g_this_isOne g_this_ways g_this_image g_this_isKept c_rules c_sights c_signs c_reason c_acts c_meetings c_clashes c_first c_where c_door c_wider c_ordersFound c_firstOrder c_least c_leastOrder c_book c_now c_pad) sz) (w_X11_done cI cJ cZ h_this h_this_book h_this_now h_this_pad g_this_width g_this_key g_this_wide g_this_delay g_this_ahead g_this_after g_this_sight g_this_counts g_this_isOne g_this_ways g_this_image g_this_isKept c_rules c_sights z_signs z_reason z_acts c_meetings c_clashes c_first c_where c_door c_wider c_ordersFound c_firstOrder c_least c_leastOrder z_book z_now c_pad)) (va_A (w_X11_done cI cJ cZ h_this h_this_book h_this_now h_this_pad g_this_width g_this_key g_this_wide g_this_delay g_this_ahead g_this_after g_this_sight g_this_counts g_this_isOne g_this_ways g_this_image g_this_isKept c_rules c_sights c_signs c_reason c_acts c_meetings c_clashes c_first c_where c_door c_wider c_ordersFound c_firstOrder c_least c_leastOrder c_book c_now c_pad) sz)) 0 0 (va_A (w_X11_done cI cJ cZ h_this h_this_book h_this_now h_this_pad g_this_width g_this_key g_this_wide g_this_delay g_this_ahead g_this_after g_this_sight g_this_counts g_this_isOne g_this_ways g_this_image g_this_isKept c_rules c_sights c_signs c_reason c_acts c_meetings c_clashes c_first c_where c_door c_wider c_ordersFound c_firstOrder c_least c_leastOrder c_book c_now c_pad) sz) := by
  refine ofWi (ty := .int) (by decide +kernel) rfl (Nat.le_of_ble_eq_true rfl) ?_
  intro p e s m args below meth c Z A ls S hP hD hK hN hA hl hret
  obtain ⟨hx, hb, hml, hown, hts⟩ := id S
  have hown : s.vm.findClass RX11 = some m.cls := hown
  have hS : va_S A s.heap s.heap [] := va_S.rf
  have hl : lv_has ls 2 [(0, .ref h_this)] := hl
  unfold f_X11_done at hf
  refine lv_aload_n hx hb dX11_done_0 rfl (lv_at hl 0 rfl) ?_
  obtain ⟨r_1, c_reason_1, c_acts_1, c_now_1, hv_1, hf⟩ := bd4_some hf
  refine kWi (rV (C := RX11) [] [] S (c_X11_barOfDays l dC dI cI cJ cZ h_this h_this_book h_this_now h_this_pad g_this_width g_this_key g_this_wide g_this_delay g_this_ahead g_this_after g_this_sight g_this_counts g_this_isOne g_this_ways g_this_image g_this_isKept s.heap.size c_rules c_sights c_signs c_reason c_acts c_meetings c_clashes c_first c_where c_door c_wider c_ordersFound c_firstOrder c_least c_leastOrder c_book c_now c_pad r_1 c_reason_1 c_acts_1 c_now_1 hv_1) (cwV 0 hts gX11_done_X11_barOfDays rfl rfl rfl (by decide +kernel) ⟨Nat.le_of_ble_eq_true rfl, Nat.le_of_ble_eq_true rfl⟩) (va_recv hK hP (ci := 11) (q0 := 0) rfl rfl) hP hD hK hN [0, 1, 2, 3] rfl (by decide +kernel) rfl hl.1 rfl (Nat.le_of_ble_eq_true rfl) dX11_done_1 ⟨Nat.le_of_ble_eq_true rfl, Nat.le_of_ble_eq_true rfl⟩) hP hD hS hA [0, 1, 2, 3] rfl rfl [some 0, some 1, some 2, some 3] (by decide +kernel) rfl (fun H locs hP hD hS => ?_)
  have hP : va_P (dC, dI) vwCl (w_X11_done cI cJ cZ h_this h_this_book h_this_now h_this_pad g_this_width g_this_key g_this_wide g_this_delay g_this_ahead g_this_after g_this_sight g_this_counts g_this_isOne g_this_ways g_this_image g_this_isKept c_rules c_sights c_signs c_reason_1 c_acts_1 c_meetings c_clashes c_first c_where c_door c_wider c_ordersFound c_firstOrder c_least c_leastOrder c_book c_now_1 c_pad) H := hP
  have hD : va_D A (w_X11_done cI cJ cZ h_this h_this_book h_this_now h_this_pad g_this_width g_this_key g_this_wide g_this_delay g_this_ahead g_this_after g_this_sight g_this_counts g_this_isOne g_this_ways g_this_image g_this_isKept c_rules c_sights c_signs c_reason_1 c_acts_1 c_meetings c_clashes c_first c_where c_door c_wider c_ordersFound c_firstOrder c_least c_leastOrder c_book c_now_1 c_pad) := hD
  refine lv_if_ge (tgt := 10) hx hb dX11_done_4 (by decide) (fun k_4 => ?_) (fun k_4 => ?_)
  · have hf := ite_t hf k_4
    refine lv_iconst (v := 0) hx hb dX11_done_10 (by decide) ?_
    refine lv_istore_n (lv' := [(1, .int 0), (0, .ref h_this)]) hx hb dX11_done_11 rfl hl (by decide) rfl (fun ls hl => ?_)
    obtain ⟨l1_12x, c_book_12x, hq_12, hf⟩ := bd2_some hf
    have K_12 : ∀ (H : Heap) (locs : List Loc) (ls : Array Slot), va_P (dC, dI) vwCl (w_X11_done cI cJ cZ h_this h_this_book h_this_now h_this_pad g_this_width g_this_key g_this_wide g_this_delay g_this_ahead g_this_after g_this_sight g_this_counts g_this_isOne g_this_ways g_this_image g_this_isKept c_rules c_sights c_signs c_reason_1 c_acts_1 c_meetings c_clashes c_first c_where c_door c_wider c_ordersFound c_firstOrder c_least c_leastOrder c_book_12x c_now_1 c_pad) H → va_D A (w_X11_done cI cJ cZ h_this h_this_book h_this_now h_this_pad g_this_width g_this_key g_this_wide g_this_delay g_this_ahead g_this_after g_this_sight g_this_counts g_this_isOne g_this_ways g_this_image g_this_isKept c_rules c_sights c_signs c_reason_1 c_acts_1 c_meetings c_clashes c_first c_where c_door c_wider c_ordersFound c_firstOrder c_least c_leastOrder c_book_12x c_now_1 c_pad) → va_S A s.heap H locs → lv_has ls 2 [(0, .ref h_this)] → W p l e rm_X11_done s m args below meth c H locs 0 0 Z (F0 m 36 ls []) := by
      intro H locs ls hP hD hS hl
      refine lv_aload_n hx hb dX11_done_36 rfl (lv_at hl 0 rfl) ?_
      refine lv_iconst (v := 0) hx hb dX11_done_37 (by decide) ?_
      refine va_put (D := (dC, dI)) (ci := 11) (v := .int 0) (ty := .int) (C := RX11) (T := TX11) (N := 30) hx hb hts in_X11_done_X11 tyX11 tyX11_ok nmX11 hown hK hP hD hS 0 rfl rfl 11 (by decide) (hts _ m_X11_done_f68) (fun _ h9 => h9) rfl (by decide +kernel) rfl rfl (Nat.le_of_ble_eq_true rfl) dX11_done_38 (fun H locs hP hD hS => ?_)
      have hP : va_P (dC, dI) vwCl (w_X11_done cI cJ cZ h_this h_this_book h_this_now h_this_pad g_this_width g_this_key g_this_wide g_this_delay g_this_ahead g_this_after g_this_sight g_this_counts g_this_isOne g_this_ways g_this_image g_this_isKept c_rules c_sights 0 c_reason_1 c_acts_1 c_meetings c_clashes c_first c_where c_door c_wider c_ordersFound c_firstOrder c_least c_leastOrder c_book_12x c_now_1 c_pad) H := hP
      have hD : va_D A (w_X11_done cI cJ cZ h_this h_this_book h_this_now h_this_pad g_this_width g_this_key g_this_wide g_this_delay g_this_ahead g_this_after g_this_sight g_this_counts g_this_isOne g_this_ways g_this_image g_this_isKept c_rules c_sights 0 c_reason_1 c_acts_1 c_meetings c_clashes c_first c_where c_door c_wider c_ordersFound c_firstOrder c_least c_leastOrder c_book_12x c_now_1 c_pad) := hD
      refine lv_aload_n hx hb dX11_done_41 rfl (lv_at hl 0 rfl) ?_
      refine va_get (D := (dC, dI)) (ci := 11) (v := .int c_acts_1) (C := RX11) (T := TX11) (N := 30) hx hb hts in_X11_done_X11 hown hK hP 0 rfl rfl 14 (by decide) (hts _ m_X11_done_f86) (fun _ h9 => h9) rfl dX11_done_42 ?_
      have e_f := Option.some.inj hf
      cases e_f
      exact hret rfl hP hD hS dX11_done_45
    have L_12 : ∀ (n : Nat) (l1_12 : Int32) (c_book_12 : Nat → Int32) (H : Heap) (locs : List Loc) (ls : Array Slot), va_P (dC, dI) vwCl (w_X11_done cI cJ cZ h_this h_this_book h_this_now h_this_pad g_this_width g_this_key g_this_wide g_this_delay g_this_ahead g_this_after g_this_sight g_this_counts g_this_isOne g_this_ways g_this_image g_this_isKept c_rules c_sights c_signs c_reason_1 c_acts_1 c_meetings c_clashes c_first c_where c_door c_wider c_ordersFound c_firstOrder c_least c_leastOrder c_book_12 c_now_1 c_pad) H → va_D A (w_X11_done cI cJ cZ h_this h_this_book h_this_now h_this_pad g_this_width g_this_key g_this_wide g_this_delay g_this_ahead g_this_after g_this_sight g_this_counts g_this_isOne g_this_ways g_this_image g_this_isKept c_rules c_sights c_signs c_reason_1 c_acts_1 c_meetings c_clashes c_first c_where c_door c_wider c_ordersFound c_firstOrder c_least c_leastOrder c_book_12 c_now_1 c_pad) → va_S A s.heap H locs → lv_has ls 2 [(0, .ref h_this), (1, .int l1_12)] → loopN (fun (q : Int32 × (Nat → Int32)) => f_X11_done_b12 c_now_1 q.1 q.2) n (l1_12, c_book_12) = some (l1_12x, c_book_12x) → W p l e rm_X11_done s m args below meth c H locs 0 0 Z (F0 m 12 ls []) := by
      intro n
      induction n with
      | zero => intro l1_12 c_book_12 H locs ls hP hD hS hl hq; exact (loopN_zero hq).elim
      | succ n ih_12 =>
        intro l1_12 c_book_12 H locs ls hP hD hS hl hq
        obtain ⟨o_12, hf, ho1_12, ho2_12⟩ := loopN_step hq
        have hf : f_X11_done_b12 c_now_1 l1_12 c_book_12 = some o_12 := hf
        unfold f_X11_done_b12 at hf
        refine lv_iload_n hx hb dX11_done_12 rfl (lv_at hl 1 rfl) ?_
        refine lv_bipush (v := 15) hx hb dX11_done_13 (by decide) ?_
        refine lv_icmp_ge (tgt := 36) hx hb dX11_done_15 (by decide) (fun k_15 => ?_) (fun k_15 => ?_)
        · have hf := ite_t hf k_15
          have e_12 := ho2_12 _ (Option.some.inj hf).symm
          cases e_12
          exact K_12 H locs ls hP hD hS (lv_sub hl [0] rfl)
        · have hf := ite_f hf k_15
          refine lv_aload_n hx hb dX11_done_18 rfl (lv_at hl 0 rfl) ?_
          refine va_get (D := (dC, dI)) (ci := 11) (v := .ref h_this_book) (C := RX11) (T := TX11) (N := 30) hx hb hts in_X11_done_X11 hown hK hP 0 rfl rfl 0 (by decide) (hts _ m_X11_done_f7) (fun _ h9 => h9) rfl dX11_done_19 ?_
          refine lv_iload_n hx hb dX11_done_22 rfl (lv_at hl 1 rfl) ?_
          refine lv_aload_n hx hb dX11_done_23 rfl (lv_at hl 0 rfl) ?_
          refine va_get (D := (dC, dI)) (ci := 11) (v := .ref h_this_now) (C := RX11) (T := TX11) (N := 30) hx hb hts in_X11_done_X11 hown hK hP 0 rfl rfl 1 (by decide) (hts _ m_X11_done_f13) (fun _ h9 => h9) rfl dX11_done_24 ?_
          refine lv_iload_n hx hb dX11_done_27 rfl (lv_at hl 1 rfl) ?_
          obtain ⟨g_28, hf⟩ := gd_some hf
          refine va_iald hx hb hK hP 2 0 rfl rfl g_28 dX11_done_28 ?_
          obtain ⟨g_29, hf⟩ := gd_some hf
          refine va_iast hx hb hK hP hD hS 1 0 rfl rfl g_29 dX11_done_29 (fun H locs hP hD hS => ?_)
          have hP : va_P (dC, dI) vwCl (w_X11_done cI cJ cZ h_this h_this_book h_this_now h_this_pad g_this_width g_this_key g_this_wide g_this_delay g_this_ahead g_this_after g_this_sight g_this_counts g_this_isOne g_this_ways g_this_image g_this_isKept c_rules c_sights c_signs c_reason_1 c_acts_1 c_meetings c_clashes c_first c_where c_door c_wider c_ordersFound c_firstOrder c_least c_leastOrder (upd c_book_12 (Int32.toNatClampNeg l1_12) (c_now_1 (Int32.toNatClampNeg l1_12))) c_now_1 c_pad) H := hP
          have hD : va_D A (w_X11_done cI cJ cZ h_this h_this_book h_this_now h_this_pad g_this_width g_this_key g_this_wide g_this_delay g_this_ahead g_this_after g_this_sight g_this_counts g_this_isOne g_this_ways g_this_image g_this_isKept c_rules c_sights c_signs c_reason_1 c_acts_1 c_meetings c_clashes c_first c_where c_door c_wider c_ordersFound c_firstOrder c_least c_leastOrder (upd c_book_12 (Int32.toNatClampNeg l1_12) (c_now_1 (Int32.toNatClampNeg l1_12))) c_now_1 c_pad) := hD
          refine lv_iinc (v := (l1_12 + 1)) (lv' := [(1, .int (l1_12 + 1)), (0, .ref h_this)]) hx hb dX11_done_30 hl (k := 1) rfl rfl (by decide) rfl (fun ls hl => ?_)
          refine lv_goto (tgt := 12) hx hb dX11_done_33 (by decide) ?_
          exact ih_12 (l1_12 + 1) (upd c_book_12 (Int32.toNatClampNeg l1_12) (c_now_1 (Int32.toNatClampNeg l1_12))) H locs ls hP hD hS (lv_sub hl [1, 0] rfl) (ho1_12 _ (Option.some.inj hf).symm)
    exact L_12 FU 0 c_book H locs ls hP hD hS (lv_sub hl [1, 0] rfl) hq_12
  · have hf := ite_f hf k_4
    refine lv_bipush (v := (-5)) hx hb dX11_done_7 (by decide) ?_
    have e_f := Option.some.inj hf
    cases e_f
    exact hret rfl hP hD hS dX11_done_9
abbrev w_X11_place (cI cJ cZ : ClassId) (h_this h_this_book h_this_now h_this_pad g_this_width g_this_key g_this_wide g_this_delay g_this_ahead g_this_after g_this_sight g_this_counts g_this_isOne g_this_ways g_this_image g_this_isKept : Nat) (c_rules : Int32) (c_sights : Int32) (c_signs : Int32) (c_reason : Int32) (c_acts : Int32) (c_meetings : Int32) (c_clashes : Int32) (c_first : Int32) (c_where : Int32) (c_door : Int32) (c_wider : Int32) (c_ordersFound : Int32) (c_firstOrder : Int32) (c_least : Int32) (c_leastOrder : Int32) (c_book : Nat → Int32) (c_now : Nat → Int32) (c_pad : Nat → Int32) : va_W := [(h_this, .inr (11, [.ref h_this_book, .ref h_this_now, .ref g_this_width, .ref g_this_key, .ref g_this_wide, .ref g_this_delay, .int c_rules, .ref g_this_ahead, .ref g_this_after, .int c_sights, .ref g_this_sight, .int c_signs, .ref h_this_pad, .int c_reason, .int c_acts, .int c_meetings, .int c_clashes, .int c_first, .int c_where, .int c_door, .int c_wider, .int c_ordersFound, .int c_firstOrder, .int c_least, .int c_leastOrder, .ref g_this_counts, .ref g_this_isOne, .ref g_this_ways, .ref g_this_image, .ref g_this_isKept])), (h_this_book, .inl (cI, 15, .inl c_book)), (h_this_now, .inl (cI, 15, .inl c_now)), (h_this_pad, .inl (cI, 60, .inl c_pad))]
abbrev rm_X11_place : Room := { frames := 4, cells := 0, slots := 0, locals := 90 }
theorem m_X11_place_f13 : (.fieldLink RX11 13 "WovenRowsModel" "now" "[I" : Cond) ∈ wsX11_place := by decide +kernel
theorem in_X11_place_X11 : ∀ w ∈ u_ws RX11 TX11 30, w ∈ wsX11_place := by decide +kernel
set_option maxRecDepth 100000 in
set_option maxHeartbeats 4000000 in
theorem c_X11_place (l : Launch) (dC : Nat → ClassId) (dI : Nat → Nat → Nat) (cI cJ cZ : ClassId) (h_this h_this_book h_this_now h_this_pad g_this_width g_this_key g_this_wide g_this_delay g_this_ahead g_this_after g_this_sight g_this_counts g_this_isOne g_this_ways g_this_image g_this_isKept : Nat) (sz : Nat) (c_rules : Int32) (c_sights : Int32) (c_signs : Int32) (c_reason : Int32) (c_acts : Int32) (c_meetings : Int32) (c_clashes : Int32) (c_first : Int32) (c_where : Int32) (c_door : Int32) (c_wider : Int32) (c_ordersFound : Int32) (c_firstOrder : Int32) (c_least : Int32) (c_leastOrder : Int32) (c_book : Nat → Int32) (c_now : Nat → Int32) (c_pad : Nat → Int32) (l1 : Int32) (l2 : Int32) (r : Int32) (z_reason : Int32) (z_acts : Int32) (z_now : Nat → Int32) (hf : f_X11_place c_signs c_reason c_acts c_book c_now c_pad l1 l2 = some (r, z_reason, z_acts, z_now)) : Met l yX11_place wsX11_place rm_X11_place (va_Pc [.ref h_this, .int l1, .int l2] (PRE (dC, dI) (TY cI cJ cZ) sz (w_X11_place cI cJ cZ h_this h_this_book h_this_now h_this_pad g_this_width g_this_key g_this_wide g_this_delay g_this_ahead g_this_after g_this_sight g_this_counts g_this_isOne g_this_ways g_this_image g_this_isKept c_rules c_sights c_signs c_reason c_acts c_meetings c_clashes c_first c_where c_door c_wider c_ordersFound c_firstOrder c_least c_leastOrder c_book c_now c_pad))) (va_Qi (fun r' (_ : Unit) => r' = r) (POW (dC, dI) (va_A (w_X11_place cI cJ cZ h_this h_this_book h_this_now h_this_pad g_this_width g_this_key g_this_wide g_this_delay g_this_ahead g_this_after g_this_sight g_this_counts g_this_isOne g_this_ways g_this_image g_this_isKept c_rules c_sights c_signs c_reason c_acts c_meetings c_clashes c_first c_where c_door c_wider c_ordersFound c_firstOrder c_least c_leastOrder c_book c_now c_pad) sz) (w_X11_place cI cJ cZ h_this h_this_book h_this_now h_this_pad g_this_width g_this_key g_this_wide g_this_delay g_this_ahead g_this_after g_this_sight g_this_counts g_this_isOne g_this_ways g_this_image g_this_isKept c_rules c_sights c_signs z_reason z_acts c_meetings c_clashes c_first c_where c_door c_wider c_ordersFound c_firstOrder c_least c_leastOrder c_book z_now c_pad)) (va_A (w_X11_place cI cJ cZ h_this h_this_book h_this_now h_this_pad g_this_width g_this_key g_this_wide g_this_delay g_this_ahead g_this_after g_this_sight g_this_counts g_this_isOne g_this_ways g_this_image g_this_isKept c_rules c_sights c_signs c_reason c_acts c_meetings c_clashes c_first c_where c_door c_wider c_ordersFound c_firstOrder c_least c_leastOrder c_book c_now c_pad) sz)) 0 0 (va_A (w_X11_place cI cJ cZ h_this h_this_book h_this_now h_this_pad g_this_width g_this_key g_this_wide g_this_delay g_this_ahead g_this_after g_this_sight g_this_counts g_this_isOne g_this_ways g_this_image g_this_isKept c_rules c_sights c_signs c_reason c_acts c_meetings c_clashes c_first c_where c_door c_wider c_ordersFound c_firstOrder c_least c_leastOrder c_book c_now c_pad) sz) := by
  refine ofWi (ty := .int) (by decide +kernel) rfl (Nat.le_of_ble_eq_true rfl) ?_
  intro p e s m args below meth c Z A ls S hP hD hK hN hA hl hret
  obtain ⟨hx, hb, hml, hown, hts⟩ := id S
  have hown : s.vm.findClass RX11 = some m.cls := hown
  have hS : va_S A s.heap s.heap [] := va_S.rf
  have hl : lv_has ls 3 [(0, .ref h_this), (1, .int l1), (2, .int l2)] := hl
  unfold f_X11_place at hf
  refine lv_iload_n hx hb dX11_place_0 rfl (lv_at hl 1 rfl) ?_
  obtain ⟨r_1, hv_1, hf⟩ := bd1_some hf
  refine kSi (rS [.int l1] [] S (c_X11_isRow l dC dI cI cJ cZ s.heap.size l1 r_1 hv_1) (va_cwS 1 hts gX11_place_X11_isRow rfl rfl rfl (by decide +kernel) ⟨Nat.le_of_ble_eq_true rfl, Nat.le_of_ble_eq_true rfl⟩) hP hD hK hN [] rfl (by decide +kernel) rfl hl.1 rfl (Nat.le_of_ble_eq_true rfl) dX11_place_1 ⟨Nat.le_of_ble_eq_true rfl, Nat.le_of_ble_eq_true rfl⟩) ?_
  refine lv_if_eq (tgt := 16) hx hb dX11_place_4 (by decide) (fun k_4 => ?_) (fun k_4 => ?_)
  · have hf := ite_t hf k_4
    refine lv_bipush (v := (-2)) hx hb dX11_place_16 (by decide) ?_
    have e_f := Option.some.inj hf
    cases e_f
    exact hret rfl hP hD hS dX11_place_18
  · have hf := ite_f hf k_4
    refine lv_iload_n hx hb dX11_place_7 rfl (lv_at hl 2 rfl) ?_
    refine lv_iconst (v := 0) hx hb dX11_place_8 (by decide) ?_
    refine lv_iconst (v := 5) hx hb dX11_place_9 (by decide) ?_
    obtain ⟨r_10, hv_10, hf⟩ := bd1_some hf
    refine kSi (rS [.int l2, .int 0, .int 5] [] S (c_X11_in l dC dI cI cJ cZ s.heap.size l2 0 5 r_10 hv_10) (va_cwS 3 hts gX11_place_X11_in rfl rfl rfl (by decide +kernel) ⟨Nat.le_of_ble_eq_true rfl, Nat.le_of_ble_eq_true rfl⟩) hP hD hK hN [] rfl (by decide +kernel) rfl hl.1 rfl (Nat.le_of_ble_eq_true rfl) dX11_place_10 ⟨Nat.le_of_ble_eq_true rfl, Nat.le_of_ble_eq_true rfl⟩) ?_
    refine lv_if_ne (tgt := 19) hx hb dX11_place_13 (by decide) (fun k_13 => ?_) (fun k_13 => ?_)
    · have hf := ite_f hf k_13
      refine lv_aload_n hx hb dX11_place_19 rfl (lv_at hl 0 rfl) ?_
      obtain ⟨r_20, c_reason_20, c_acts_20, c_now_20, hv_20, hf⟩ := bd4_some hf
      refine kWi (rV (C := RX11) [] [] S (c_X11_barOfDays l dC dI cI cJ cZ h_this h_this_book h_this_now h_this_pad g_this_width g_this_key g_this_wide g_this_delay g_this_ahead g_this_after g_this_sight g_this_counts g_this_isOne g_this_ways g_this_image g_this_isKept s.heap.size c_rules c_sights c_signs c_reason c_acts c_meetings c_clashes c_first c_where c_door c_wider c_ordersFound c_firstOrder c_least c_leastOrder c_book c_now c_pad r_20 c_reason_20 c_acts_20 c_now_20 hv_20) (cwV 0 hts gX11_place_X11_barOfDays rfl rfl rfl (by decide +kernel) ⟨Nat.le_of_ble_eq_true rfl, Nat.le_of_ble_eq_true rfl⟩) (va_recv hK hP (ci := 11) (q0 := 0) rfl rfl) hP hD hK hN [0, 1, 2, 3] rfl (by decide +kernel) rfl hl.1 rfl (Nat.le_of_ble_eq_true rfl) dX11_place_20 ⟨Nat.le_of_ble_eq_true rfl, Nat.le_of_ble_eq_true rfl⟩) hP hD hS hA [0, 1, 2, 3] rfl rfl [some 0, some 1, some 2, some 3] (by decide +kernel) rfl (fun H locs hP hD hS => ?_)
      have hP : va_P (dC, dI) vwCl (w_X11_place cI cJ cZ h_this h_this_book h_this_now h_this_pad g_this_width g_this_key g_this_wide g_this_delay g_this_ahead g_this_after g_this_sight g_this_counts g_this_isOne g_this_ways g_this_image g_this_isKept c_rules c_sights c_signs c_reason_20 c_acts_20 c_meetings c_clashes c_first c_where c_door c_wider c_ordersFound c_firstOrder c_least c_leastOrder c_book c_now_20 c_pad) H := hP
      have hD : va_D A (w_X11_place cI cJ cZ h_this h_this_book h_this_now h_this_pad g_this_width g_this_key g_this_wide g_this_delay g_this_ahead g_this_after g_this_sight g_this_counts g_this_isOne g_this_ways g_this_image g_this_isKept c_rules c_sights c_signs c_reason_20 c_acts_20 c_meetings c_clashes c_first c_where c_door c_wider c_ordersFound c_firstOrder c_least c_leastOrder c_book c_now_20 c_pad) := hD
      refine lv_if_ge (tgt := 29) hx hb dX11_place_23 (by decide) (fun k_23 => ?_) (fun k_23 => ?_)
      · have hf := ite_t hf k_23
        refine lv_iload_n hx hb dX11_place_29 rfl (lv_at hl 2 rfl) ?_
        refine lv_aload_n hx hb dX11_place_30 rfl (lv_at hl 0 rfl) ?_
        refine va_get (D := (dC, dI)) (ci := 11) (v := .ref h_this_now) (C := RX11) (T := TX11) (N := 30) hx hb hts in_X11_place_X11 hown hK hP 0 rfl rfl 1 (by decide) (hts _ m_X11_place_f13) (fun _ h9 => h9) rfl dX11_place_31 ?_
        refine lv_bipush (v := 12) hx hb dX11_place_34 (by decide) ?_
        refine lv_iload_n hx hb dX11_place_36 rfl (lv_at hl 1 rfl) ?_
        refine lv_iadd hx hb dX11_place_37 ?_
        obtain ⟨g_38, hf⟩ := gd_some hf
        refine va_iald hx hb hK hP 2 0 rfl rfl g_38 dX11_place_38 ?_
        refine lv_icmp_ge (tgt := 56) hx hb dX11_place_39 (by decide) (fun k_39 => ?_) (fun k_39 => ?_)
        · have hf := ite_t hf k_39
          refine lv_bipush (v := (-6)) hx hb dX11_place_56 (by decide) ?_
          have e_f := Option.some.inj hf
          cases e_f
          exact hret rfl hP hD hS dX11_place_58
        · have hf := ite_f hf k_39
          refine lv_aload_n hx hb dX11_place_42 rfl (lv_at hl 0 rfl) ?_
          refine va_get (D := (dC, dI)) (ci := 11) (v := .ref h_this_now) (C := RX11) (T := TX11) (N := 30) hx hb hts in_X11_place_X11 hown hK hP 0 rfl rfl 1 (by decide) (hts _ m_X11_place_f13) (fun _ h9 => h9) rfl dX11_place_43 ?_
          refine lv_bipush (v := 6) hx hb dX11_place_46 (by decide) ?_
          refine lv_iload_n hx hb dX11_place_48 rfl (lv_at hl 1 rfl) ?_
          refine lv_imul hx hb dX11_place_49 ?_
          refine lv_iload_n hx hb dX11_place_50 rfl (lv_at hl 2 rfl) ?_
          refine lv_iadd hx hb dX11_place_51 ?_
          obtain ⟨g_52, hf⟩ := gd_some hf
          refine va_iald hx hb hK hP 2 0 rfl rfl g_52 dX11_place_52 ?_
          refine lv_goto (tgt := 58) hx hb dX11_place_53 (by decide) ?_
          have e_f := Option.some.inj hf
          cases e_f
          exact hret rfl hP hD hS dX11_place_58
      · have hf := ite_f hf k_23
        refine lv_bipush (v := (-5)) hx hb dX11_place_26 (by decide) ?_
        have e_f := Option.some.inj hf
        cases e_f
        exact hret rfl hP hD hS dX11_place_28
    · have hf := ite_t hf k_13
      refine lv_bipush (v := (-2)) hx hb dX11_place_16 (by decide) ?_
      have e_f := Option.some.inj hf
      cases e_f
      exact hret rfl hP hD hS dX11_place_18
abbrev w_X11_of (cI cJ cZ : ClassId) (h_this h_this_book h_this_now h_this_pad g_this_width g_this_key g_this_wide g_this_delay g_this_ahead g_this_after g_this_sight g_this_counts g_this_isOne g_this_ways g_this_image g_this_isKept : Nat) (c_rules : Int32) (c_sights : Int32) (c_signs : Int32) (c_reason : Int32) (c_acts : Int32) (c_meetings : Int32) (c_clashes : Int32) (c_first : Int32) (c_where : Int32) (c_door : Int32) (c_wider : Int32) (c_ordersFound : Int32) (c_firstOrder : Int32) (c_least : Int32) (c_leastOrder : Int32) (c_book : Nat → Int32) (c_now : Nat → Int32) (c_pad : Nat → Int32) : va_W := [(h_this, .inr (11, [.ref h_this_book, .ref h_this_now, .ref g_this_width, .ref g_this_key, .ref g_this_wide, .ref g_this_delay, .int c_rules, .ref g_this_ahead, .ref g_this_after, .int c_sights, .ref g_this_sight, .int c_signs, .ref h_this_pad, .int c_reason, .int c_acts, .int c_meetings, .int c_clashes, .int c_first, .int c_where, .int c_door, .int c_wider, .int c_ordersFound, .int c_firstOrder, .int c_least, .int c_leastOrder, .ref g_this_counts, .ref g_this_isOne, .ref g_this_ways, .ref g_this_image, .ref g_this_isKept])), (h_this_book, .inl (cI, 15, .inl c_book)), (h_this_now, .inl (cI, 15, .inl c_now)), (h_this_pad, .inl (cI, 60, .inl c_pad))]
abbrev rm_X11_of : Room := { frames := 4, cells := 0, slots := 0, locals := 90 }
set_option maxRecDepth 100000 in
set_option maxHeartbeats 4000000 in
theorem c_X11_of (l : Launch) (dC : Nat → ClassId) (dI : Nat → Nat → Nat) (cI cJ cZ : ClassId) (h_this h_this_book h_this_now h_this_pad g_this_width g_this_key g_this_wide g_this_delay g_this_ahead g_this_after g_this_sight g_this_counts g_this_isOne g_this_ways g_this_image g_this_isKept : Nat) (sz : Nat) (c_rules : Int32) (c_sights : Int32) (c_signs : Int32) (c_reason : Int32) (c_acts : Int32) (c_meetings : Int32) (c_clashes : Int32) (c_first : Int32) (c_where : Int32) (c_door : Int32) (c_wider : Int32) (c_ordersFound : Int32) (c_firstOrder : Int32) (c_least : Int32) (c_leastOrder : Int32) (c_book : Nat → Int32) (c_now : Nat → Int32) (c_pad : Nat → Int32) (l1 : Int32) (l2 : Int32) (r : Int32) (z_reason : Int32) (z_acts : Int32) (z_now : Nat → Int32) (hf : f_X11_of c_signs c_reason c_acts c_book c_now c_pad l1 l2 = some (r, z_reason, z_acts, z_now)) : Met l yX11_of wsX11_of rm_X11_of (va_Pc [.ref h_this, .int l1, .int l2] (PRE (dC, dI) (TY cI cJ cZ) sz (w_X11_of cI cJ cZ h_this h_this_book h_this_now h_this_pad g_this_width g_this_key g_this_wide g_this_delay g_this_ahead g_this_after g_this_sight g_this_counts g_this_isOne g_this_ways g_this_image g_this_isKept c_rules c_sights c_signs c_reason c_acts c_meetings c_clashes c_first c_where c_door c_wider c_ordersFound c_firstOrder c_least c_leastOrder c_book c_now c_pad))) (va_Qi (fun r' (_ : Unit) => r' = r) (POW (dC, dI) (va_A (w_X11_of cI cJ cZ h_this h_this_book h_this_now h_this_pad g_this_width g_this_key g_this_wide g_this_delay g_this_ahead g_this_after g_this_sight g_this_counts g_this_isOne g_this_ways g_this_image g_this_isKept c_rules c_sights c_signs c_reason c_acts c_meetings c_clashes c_first c_where c_door c_wider c_ordersFound c_firstOrder c_least c_leastOrder c_book c_now c_pad) sz) (w_X11_of cI cJ cZ h_this h_this_book h_this_now h_this_pad g_this_width g_this_key g_this_wide g_this_delay g_this_ahead g_this_after g_this_sight g_this_counts g_this_isOne g_this_ways g_this_image g_this_isKept c_rules c_sights c_signs z_reason z_acts c_meetings c_clashes c_first c_where c_door c_wider c_ordersFound c_firstOrder c_least c_leastOrder c_book z_now c_pad)) (va_A (w_X11_of cI cJ cZ h_this h_this_book h_this_now h_this_pad g_this_width g_this_key g_this_wide g_this_delay g_this_ahead g_this_after g_this_sight g_this_counts g_this_isOne g_this_ways g_this_image g_this_isKept c_rules c_sights c_signs c_reason c_acts c_meetings c_clashes c_first c_where c_door c_wider c_ordersFound c_firstOrder c_least c_leastOrder c_book c_now c_pad) sz)) 0 0 (va_A (w_X11_of cI cJ cZ h_this h_this_book h_this_now h_this_pad g_this_width g_this_key g_this_wide g_this_delay g_this_ahead g_this_after g_this_sight g_this_counts g_this_isOne g_this_ways g_this_image g_this_isKept c_rules c_sights c_signs c_reason c_acts c_meetings c_clashes c_first c_where c_door c_wider c_ordersFound c_firstOrder c_least c_leastOrder c_book c_now c_pad) sz) := by
  refine ofWi (ty := .int) (by decide +kernel) rfl (Nat.le_of_ble_eq_true rfl) ?_
  intro p e s m args below meth c Z A ls S hP hD hK hN hA hl hret
  obtain ⟨hx, hb, hml, hown, hts⟩ := id S
  have hown : s.vm.findClass RX11 = some m.cls := hown
  have hS : va_S A s.heap s.heap [] := va_S.rf
  have hl : lv_has ls 4 [(0, .ref h_this), (1, .int l1), (2, .int l2)] := hl
  unfold f_X11_of at hf
  refine lv_iload_n hx hb dX11_of_0 rfl (lv_at hl 1 rfl) ?_
  obtain ⟨r_1, hv_1, hf⟩ := bd1_some hf
  refine kSi (rS [.int l1] [] S (c_X11_isMember l dC dI cI cJ cZ s.heap.size l1 r_1 hv_1) (va_cwS 1 hts gX11_of_X11_isMember rfl rfl rfl (by decide +kernel) ⟨Nat.le_of_ble_eq_true rfl, Nat.le_of_ble_eq_true rfl⟩) hP hD hK hN [] rfl (by decide +kernel) rfl hl.1 rfl (Nat.le_of_ble_eq_true rfl) dX11_of_1 ⟨Nat.le_of_ble_eq_true rfl, Nat.le_of_ble_eq_true rfl⟩) ?_
  refine lv_if_ne (tgt := 9) hx hb dX11_of_4 (by decide) (fun k_4 => ?_) (fun k_4 => ?_)
  · have hf := ite_f hf k_4
    refine lv_iload_n hx hb dX11_of_9 rfl (lv_at hl 2 rfl) ?_
    refine lv_iconst (v := 0) hx hb dX11_of_10 (by decide) ?_
    refine lv_iconst (v := 1) hx hb dX11_of_11 (by decide) ?_
    obtain ⟨r_12, hv_12, hf⟩ := bd1_some hf
    refine kSi (rS [.int l2, .int 0, .int 1] [] S (c_X11_in l dC dI cI cJ cZ s.heap.size l2 0 1 r_12 hv_12) (va_cwS 3 hts gX11_of_X11_in rfl rfl rfl (by decide +kernel) ⟨Nat.le_of_ble_eq_true rfl, Nat.le_of_ble_eq_true rfl⟩) hP hD hK hN [] rfl (by decide +kernel) rfl hl.1 rfl (Nat.le_of_ble_eq_true rfl) dX11_of_12 ⟨Nat.le_of_ble_eq_true rfl, Nat.le_of_ble_eq_true rfl⟩) ?_
    refine lv_if_ne (tgt := 21) hx hb dX11_of_15 (by decide) (fun k_15 => ?_) (fun k_15 => ?_)
    · have hf := ite_f hf k_15
      refine lv_aload_n hx hb dX11_of_21 rfl (lv_at hl 0 rfl) ?_
      obtain ⟨r_22, c_reason_22, c_acts_22, c_now_22, hv_22, hf⟩ := bd4_some hf
      refine kWi (rV (C := RX11) [] [] S (c_X11_barOfDays l dC dI cI cJ cZ h_this h_this_book h_this_now h_this_pad g_this_width g_this_key g_this_wide g_this_delay g_this_ahead g_this_after g_this_sight g_this_counts g_this_isOne g_this_ways g_this_image g_this_isKept s.heap.size c_rules c_sights c_signs c_reason c_acts c_meetings c_clashes c_first c_where c_door c_wider c_ordersFound c_firstOrder c_least c_leastOrder c_book c_now c_pad r_22 c_reason_22 c_acts_22 c_now_22 hv_22) (cwV 0 hts gX11_of_X11_barOfDays rfl rfl rfl (by decide +kernel) ⟨Nat.le_of_ble_eq_true rfl, Nat.le_of_ble_eq_true rfl⟩) (va_recv hK hP (ci := 11) (q0 := 0) rfl rfl) hP hD hK hN [0, 1, 2, 3] rfl (by decide +kernel) rfl hl.1 rfl (Nat.le_of_ble_eq_true rfl) dX11_of_22 ⟨Nat.le_of_ble_eq_true rfl, Nat.le_of_ble_eq_true rfl⟩) hP hD hS hA [0, 1, 2, 3] rfl rfl [some 0, some 1, some 2, some 3] (by decide +kernel) rfl (fun H locs hP hD hS => ?_)
      have hP : va_P (dC, dI) vwCl (w_X11_of cI cJ cZ h_this h_this_book h_this_now h_this_pad g_this_width g_this_key g_this_wide g_this_delay g_this_ahead g_this_after g_this_sight g_this_counts g_this_isOne g_this_ways g_this_image g_this_isKept c_rules c_sights c_signs c_reason_22 c_acts_22 c_meetings c_clashes c_first c_where c_door c_wider c_ordersFound c_firstOrder c_least c_leastOrder c_book c_now_22 c_pad) H := hP
      have hD : va_D A (w_X11_of cI cJ cZ h_this h_this_book h_this_now h_this_pad g_this_width g_this_key g_this_wide g_this_delay g_this_ahead g_this_after g_this_sight g_this_counts g_this_isOne g_this_ways g_this_image g_this_isKept c_rules c_sights c_signs c_reason_22 c_acts_22 c_meetings c_clashes c_first c_where c_door c_wider c_ordersFound c_firstOrder c_least c_leastOrder c_book c_now_22 c_pad) := hD
      refine lv_if_ge (tgt := 31) hx hb dX11_of_25 (by decide) (fun k_25 => ?_) (fun k_25 => ?_)
      · have hf := ite_t hf k_25
        refine lv_aload_n hx hb dX11_of_31 rfl (lv_at hl 0 rfl) ?_
        refine lv_iload_n hx hb dX11_of_32 rfl (lv_at hl 1 rfl) ?_
        obtain ⟨r_33, hv_33, hf⟩ := bd1_some hf
        refine kSi (rV (C := RX11) [.int l1] [] S (c_X11_spotOf l dC dI cI cJ cZ h_this h_this_now h_this_book g_this_width g_this_key g_this_wide g_this_delay g_this_ahead g_this_after g_this_sight h_this_pad g_this_counts g_this_isOne g_this_ways g_this_image g_this_isKept H.size c_rules c_sights c_signs c_reason_22 c_acts_22 c_meetings c_clashes c_first c_where c_door c_wider c_ordersFound c_firstOrder c_least c_leastOrder c_now_22 l1 r_33 hv_33) (cwV 1 hts gX11_of_X11_spotOf rfl rfl rfl (by decide +kernel) ⟨Nat.le_of_ble_eq_true rfl, Nat.le_of_ble_eq_true rfl⟩) (va_recv hK hP (ci := 11) (q0 := 0) rfl rfl) hP hD hK hN [0, 2] rfl (by decide +kernel) rfl hl.1 rfl (Nat.le_of_ble_eq_true rfl) dX11_of_33 ⟨Nat.le_of_ble_eq_true rfl, Nat.le_of_ble_eq_true rfl⟩) ?_
        refine lv_istore_n (lv' := [(3, .int r_33), (0, .ref h_this), (1, .int l1), (2, .int l2)]) hx hb dX11_of_36 rfl hl (by decide) rfl (fun ls hl => ?_)
        refine lv_iload_n hx hb dX11_of_37 rfl (lv_at hl 3 rfl) ?_
        refine lv_if_ne (tgt := 56) hx hb dX11_of_38 (by decide) (fun k_38 => ?_) (fun k_38 => ?_)
        · have hf := ite_f hf k_38
          refine lv_iload_n hx hb dX11_of_56 rfl (lv_at hl 0 rfl) ?_
          refine lv_if_ge (tgt := 65) hx hb dX11_of_57 (by decide) (fun k_57 => ?_) (fun k_57 => ?_)
          · have hf := ite_t hf k_57
            refine lv_iload_n hx hb dX11_of_65 rfl (lv_at hl 0 rfl) ?_
            refine lv_bipush (v := 6) hx hb dX11_of_66 (by decide) ?_
            refine lv_irem hx hb dX11_of_68 (by decide) ?_
            have e_f := Option.some.inj hf
            cases e_f
            exact hret rfl hP hD hS dX11_of_69
          · have hf := ite_f hf k_57
            refine lv_bipush (v := (-6)) hx hb dX11_of_60 (by decide) ?_
            refine lv_goto (tgt := 69) hx hb dX11_of_62 (by decide) ?_
            have e_f := Option.some.inj hf
            cases e_f
            exact hret rfl hP hD hS dX11_of_69
        · have hf := ite_t hf k_38
          refine lv_iload_n hx hb dX11_of_41 rfl (lv_at hl 0 rfl) ?_
          refine lv_if_ge (tgt := 49) hx hb dX11_of_42 (by decide) (fun k_42 => ?_) (fun k_42 => ?_)
          · have hf := ite_t hf k_42
            refine lv_iload_n hx hb dX11_of_49 rfl (lv_at hl 0 rfl) ?_
            refine lv_bipush (v := 6) hx hb dX11_of_50 (by decide) ?_
            refine lv_idiv hx hb dX11_of_52 (by decide) ?_
            refine lv_goto (tgt := 69) hx hb dX11_of_53 (by decide) ?_
            have e_f := Option.some.inj hf
            cases e_f
            exact hret rfl hP hD hS dX11_of_69
          · have hf := ite_f hf k_42
            refine lv_iconst (v := 2) hx hb dX11_of_45 (by decide) ?_
            refine lv_goto (tgt := 69) hx hb dX11_of_46 (by decide) ?_
            have e_f := Option.some.inj hf
            cases e_f
            exact hret rfl hP hD hS dX11_of_69
      · have hf := ite_f hf k_25
        refine lv_bipush (v := (-5)) hx hb dX11_of_28 (by decide) ?_
        have e_f := Option.some.inj hf
        cases e_f
        exact hret rfl hP hD hS dX11_of_30
    · have hf := ite_t hf k_15
      refine lv_bipush (v := (-2)) hx hb dX11_of_18 (by decide) ?_
      have e_f := Option.some.inj hf
      cases e_f
      exact hret rfl hP hD hS dX11_of_20
  · have hf := ite_t hf k_4
    refine lv_iconst (v := (-1)) hx hb dX11_of_7 (by decide) ?_
    have e_f := Option.some.inj hf
    cases e_f
    exact hret rfl hP hD hS dX11_of_8
abbrev w_X11_bells (cI cJ cZ : ClassId) (h_this h_this_book h_this_now h_this_pad g_this_width g_this_key g_this_wide g_this_delay g_this_ahead g_this_after g_this_sight g_this_counts g_this_isOne g_this_ways g_this_image g_this_isKept : Nat) (c_rules : Int32) (c_sights : Int32) (c_signs : Int32) (c_reason : Int32) (c_acts : Int32) (c_meetings : Int32) (c_clashes : Int32) (c_first : Int32) (c_where : Int32) (c_door : Int32) (c_wider : Int32) (c_ordersFound : Int32) (c_firstOrder : Int32) (c_least : Int32) (c_leastOrder : Int32) (c_book : Nat → Int32) (c_now : Nat → Int32) (c_pad : Nat → Int32) : va_W := [(h_this, .inr (11, [.ref h_this_book, .ref h_this_now, .ref g_this_width, .ref g_this_key, .ref g_this_wide, .ref g_this_delay, .int c_rules, .ref g_this_ahead, .ref g_this_after, .int c_sights, .ref g_this_sight, .int c_signs, .ref h_this_pad, .int c_reason, .int c_acts, .int c_meetings, .int c_clashes, .int c_first, .int c_where, .int c_door, .int c_wider, .int c_ordersFound, .int c_firstOrder, .int c_least, .int c_leastOrder, .ref g_this_counts, .ref g_this_isOne, .ref g_this_ways, .ref g_this_image, .ref g_this_isKept])), (h_this_book, .inl (cI, 15, .inl c_book)), (h_this_now, .inl (cI, 15, .inl c_now)), (h_this_pad, .inl (cI, 60, .inl c_pad))]
abbrev rm_X11_bells : Room := { frames := 4, cells := 0, slots := 0, locals := 90 }
theorem m_X11_bells_f13 : (.fieldLink RX11 13 "WovenRowsModel" "now" "[I" : Cond) ∈ wsX11_bells := by decide +kernel
theorem in_X11_bells_X11 : ∀ w ∈ u_ws RX11 TX11 30, w ∈ wsX11_bells := by decide +kernel
set_option maxRecDepth 100000 in
set_option maxHeartbeats 4000000 in
theorem c_X11_bells (l : Launch) (dC : Nat → ClassId) (dI : Nat → Nat → Nat) (cI cJ cZ : ClassId) (h_this h_this_book h_this_now h_this_pad g_this_width g_this_key g_this_wide g_this_delay g_this_ahead g_this_after g_this_sight g_this_counts g_this_isOne g_this_ways g_this_image g_this_isKept : Nat) (sz : Nat) (c_rules : Int32) (c_sights : Int32) (c_signs : Int32) (c_reason : Int32) (c_acts : Int32) (c_meetings : Int32) (c_clashes : Int32) (c_first : Int32) (c_where : Int32) (c_door : Int32) (c_wider : Int32) (c_ordersFound : Int32) (c_firstOrder : Int32) (c_least : Int32) (c_leastOrder : Int32) (c_book : Nat → Int32) (c_now : Nat → Int32) (c_pad : Nat → Int32) (r : Int32) (z_reason : Int32) (z_acts : Int32) (z_now : Nat → Int32) (hf : f_X11_bells c_signs c_reason c_acts c_book c_now c_pad = some (r, z_reason, z_acts, z_now)) : Met l yX11_bells wsX11_bells rm_X11_bells (va_Pc [.ref h_this] (PRE (dC, dI) (TY cI cJ cZ) sz (w_X11_bells cI cJ cZ h_this h_this_book h_this_now h_this_pad g_this_width g_this_key g_this_wide g_this_delay g_this_ahead g_this_after g_this_sight g_this_counts g_this_isOne g_this_ways g_this_image g_this_isKept c_rules c_sights c_signs c_reason c_acts c_meetings c_clashes c_first c_where c_door c_wider c_ordersFound c_firstOrder c_least c_leastOrder c_book c_now c_pad))) (va_Qi (fun r' (_ : Unit) => r' = r) (POW (dC, dI) (va_A (w_X11_bells cI cJ cZ h_this h_this_book h_this_now h_this_pad g_this_width g_this_key g_this_wide g_this_delay g_this_ahead g_this_after g_this_sight g_this_counts g_this_isOne g_this_ways g_this_image g_this_isKept c_rules c_sights c_signs c_reason c_acts c_meetings c_clashes c_first c_where c_door c_wider c_ordersFound c_firstOrder c_least c_leastOrder c_book c_now c_pad) sz) (w_X11_bells cI cJ cZ h_this h_this_book h_this_now h_this_pad g_this_width g_this_key g_this_wide g_this_delay g_this_ahead g_this_after g_this_sight g_this_counts g_this_isOne g_this_ways g_this_image g_this_isKept c_rules c_sights c_signs z_reason z_acts c_meetings c_clashes c_first c_where c_door c_wider c_ordersFound c_firstOrder c_least c_leastOrder c_book z_now c_pad)) (va_A (w_X11_bells cI cJ cZ h_this h_this_book h_this_now h_this_pad g_this_width g_this_key g_this_wide g_this_delay g_this_ahead g_this_after g_this_sight g_this_counts g_this_isOne g_this_ways g_this_image g_this_isKept c_rules c_sights c_signs c_reason c_acts c_meetings c_clashes c_first c_where c_door c_wider c_ordersFound c_firstOrder c_least c_leastOrder c_book c_now c_pad) sz)) 0 0 (va_A (w_X11_bells cI cJ cZ h_this h_this_book h_this_now h_this_pad g_this_width g_this_key g_this_wide g_this_delay g_this_ahead g_this_after g_this_sight g_this_counts g_this_isOne g_this_ways g_this_image g_this_isKept c_rules c_sights c_signs c_reason c_acts c_meetings c_clashes c_first c_where c_door c_wider c_ordersFound c_firstOrder c_least c_leastOrder c_book c_now c_pad) sz) := by
  refine ofWi (ty := .int) (by decide +kernel) rfl (Nat.le_of_ble_eq_true rfl) ?_
  intro p e s m args below meth c Z A ls S hP hD hK hN hA hl hret
  obtain ⟨hx, hb, hml, hown, hts⟩ := id S
  have hown : s.vm.findClass RX11 = some m.cls := hown
  have hS : va_S A s.heap s.heap [] := va_S.rf
  have hl : lv_has ls 1 [(0, .ref h_this)] := hl
  unfold f_X11_bells at hf
  refine lv_aload_n hx hb dX11_bells_0 rfl (lv_at hl 0 rfl) ?_
  obtain ⟨r_1, c_reason_1, c_acts_1, c_now_1, hv_1, hf⟩ := bd4_some hf
  refine kWi (rV (C := RX11) [] [] S (c_X11_barOfDays l dC dI cI cJ cZ h_this h_this_book h_this_now h_this_pad g_this_width g_this_key g_this_wide g_this_delay g_this_ahead g_this_after g_this_sight g_this_counts g_this_isOne g_this_ways g_this_image g_this_isKept s.heap.size c_rules c_sights c_signs c_reason c_acts c_meetings c_clashes c_first c_where c_door c_wider c_ordersFound c_firstOrder c_least c_leastOrder c_book c_now c_pad r_1 c_reason_1 c_acts_1 c_now_1 hv_1) (cwV 0 hts gX11_bells_X11_barOfDays rfl rfl rfl (by decide +kernel) ⟨Nat.le_of_ble_eq_true rfl, Nat.le_of_ble_eq_true rfl⟩) (va_recv hK hP (ci := 11) (q0 := 0) rfl rfl) hP hD hK hN [0, 1, 2, 3] rfl (by decide +kernel) rfl hl.1 rfl (Nat.le_of_ble_eq_true rfl) dX11_bells_1 ⟨Nat.le_of_ble_eq_true rfl, Nat.le_of_ble_eq_true rfl⟩) hP hD hS hA [0, 1, 2, 3] rfl rfl [some 0, some 1, some 2, some 3] (by decide +kernel) rfl (fun H locs hP hD hS => ?_)
  have hP : va_P (dC, dI) vwCl (w_X11_bells cI cJ cZ h_this h_this_book h_this_now h_this_pad g_this_width g_this_key g_this_wide g_this_delay g_this_ahead g_this_after g_this_sight g_this_counts g_this_isOne g_this_ways g_this_image g_this_isKept c_rules c_sights c_signs c_reason_1 c_acts_1 c_meetings c_clashes c_first c_where c_door c_wider c_ordersFound c_firstOrder c_least c_leastOrder c_book c_now_1 c_pad) H := hP
  have hD : va_D A (w_X11_bells cI cJ cZ h_this h_this_book h_this_now h_this_pad g_this_width g_this_key g_this_wide g_this_delay g_this_ahead g_this_after g_this_sight g_this_counts g_this_isOne g_this_ways g_this_image g_this_isKept c_rules c_sights c_signs c_reason_1 c_acts_1 c_meetings c_clashes c_first c_where c_door c_wider c_ordersFound c_firstOrder c_least c_leastOrder c_book c_now_1 c_pad) := hD
  refine lv_if_ge (tgt := 12) hx hb dX11_bells_4 (by decide) (fun k_4 => ?_) (fun k_4 => ?_)
  · have hf := ite_t hf k_4
    refine lv_aload_n hx hb dX11_bells_12 rfl (lv_at hl 0 rfl) ?_
    refine va_get (D := (dC, dI)) (ci := 11) (v := .ref h_this_now) (C := RX11) (T := TX11) (N := 30) hx hb hts in_X11_bells_X11 hown hK hP 0 rfl rfl 1 (by decide) (hts _ m_X11_bells_f13) (fun _ h9 => h9) rfl dX11_bells_13 ?_
    refine lv_bipush (v := 14) hx hb dX11_bells_16 (by decide) ?_
    obtain ⟨g_18, hf⟩ := gd_some hf
    refine va_iald hx hb hK hP 2 0 rfl rfl g_18 dX11_bells_18 ?_
    have e_f := Option.some.inj hf
    cases e_f
    exact hret rfl hP hD hS dX11_bells_19
  · have hf := ite_f hf k_4
    refine lv_bipush (v := (-5)) hx hb dX11_bells_7 (by decide) ?_
    refine lv_goto (tgt := 19) hx hb dX11_bells_9 (by decide) ?_
    have e_f := Option.some.inj hf
    cases e_f
    exact hret rfl hP hD hS dX11_bells_19
abbrev w_X11_widthOf (cI cJ cZ : ClassId) (h_this h_this_wide g_this_book g_this_now g_this_width g_this_key g_this_delay g_this_ahead g_this_after g_this_sight g_this_pad g_this_counts g_this_isOne g_this_ways g_this_image g_this_isKept : Nat) (c_rules : Int32) (c_sights : Int32) (c_signs : Int32) (c_reason : Int32) (c_acts : Int32) (c_meetings : Int32) (c_clashes : Int32) (c_first : Int32) (c_where : Int32) (c_door : Int32) (c_wider : Int32) (c_ordersFound : Int32) (c_firstOrder : Int32) (c_least : Int32) (c_leastOrder : Int32) (c_wide : Nat → Int32) : va_W := [(h_this, .inr (11, [.ref g_this_book, .ref g_this_now, .ref g_this_width, .ref g_this_key, .ref h_this_wide, .ref g_this_delay, .int c_rules, .ref g_this_ahead, .ref g_this_after, .int c_sights, .ref g_this_sight, .int c_signs, .ref g_this_pad, .int c_reason, .int c_acts, .int c_meetings, .int c_clashes, .int c_first, .int c_where, .int c_door, .int c_wider, .int c_ordersFound, .int c_firstOrder, .int c_least, .int c_leastOrder, .ref g_this_counts, .ref g_this_isOne, .ref g_this_ways, .ref g_this_image, .ref g_this_isKept])), (h_this_wide, .inl (cI, 17, .inl c_wide))]
abbrev rm_X11_widthOf : Room := { frames := 0, cells := 0, slots := 0, locals := 0 }
theorem m_X11_widthOf_f22 : (.fieldLink RX11 22 "WovenRowsModel" "wide" "[I" : Cond) ∈ wsX11_widthOf := by decide +kernel
theorem in_X11_widthOf_X11 : ∀ w ∈ u_ws RX11 TX11 30, w ∈ wsX11_widthOf := by decide +kernel
theorem m_X11_widthOf_f111 : (.fieldLink RX11 111 "WovenRowsModel" "door" "I" : Cond) ∈ wsX11_widthOf := by decide +kernel
theorem m_X11_widthOf_f114 : (.fieldLink RX11 114 "WovenRowsModel" "wider" "I" : Cond) ∈ wsX11_widthOf := by decide +kernel
set_option maxRecDepth 100000 in
set_option maxHeartbeats 4000000 in
theorem c_X11_widthOf (l : Launch) (dC : Nat → ClassId) (dI : Nat → Nat → Nat) (cI cJ cZ : ClassId) (h_this h_this_wide g_this_book g_this_now g_this_width g_this_key g_this_delay g_this_ahead g_this_after g_this_sight g_this_pad g_this_counts g_this_isOne g_this_ways g_this_image g_this_isKept : Nat) (sz : Nat) (c_rules : Int32) (c_sights : Int32) (c_signs : Int32) (c_reason : Int32) (c_acts : Int32) (c_meetings : Int32) (c_clashes : Int32) (c_first : Int32) (c_where : Int32) (c_door : Int32) (c_wider : Int32) (c_ordersFound : Int32) (c_firstOrder : Int32) (c_least : Int32) (c_leastOrder : Int32) (c_wide : Nat → Int32) (l1 : Int32) (r : Int32) (hf : f_X11_widthOf c_door c_wider c_wide l1 = some r) : Met l yX11_widthOf wsX11_widthOf rm_X11_widthOf (va_Pc [.ref h_this, .int l1] (PRE (dC, dI) (TY cI cJ cZ) sz (w_X11_widthOf cI cJ cZ h_this h_this_wide g_this_book g_this_now g_this_width g_this_key g_this_delay g_this_ahead g_this_after g_this_sight g_this_pad g_this_counts g_this_isOne g_this_ways g_this_image g_this_isKept c_rules c_sights c_signs c_reason c_acts c_meetings c_clashes c_first c_where c_door c_wider c_ordersFound c_firstOrder c_least c_leastOrder c_wide))) (vp_Si (fun r' => r' = r)) 0 0 (fun _ => False) := by
  refine ofSi (ty := .int) (by decide +kernel) rfl (Nat.le_of_ble_eq_true rfl) ?_
  intro p e s m args below meth c Z ls S hP hD hK hN hl hret
  obtain ⟨hx, hb, hml, hown, hts⟩ := id S
  have hown : s.vm.findClass RX11 = some m.cls := hown
  have hl : lv_has ls 2 [(0, .ref h_this), (1, .int l1)] := hl
  unfold f_X11_widthOf at hf
  refine lv_aload_n hx hb dX11_widthOf_0 rfl (lv_at hl 0 rfl) ?_
  refine va_get (D := (dC, dI)) (ci := 11) (v := .ref h_this_wide) (C := RX11) (T := TX11) (N := 30) hx hb hts in_X11_widthOf_X11 hown hK hP 0 rfl rfl 4 (by decide) (hts _ m_X11_widthOf_f22) (fun _ h9 => h9) rfl dX11_widthOf_1 ?_
  refine lv_iload_n hx hb dX11_widthOf_4 rfl (lv_at hl 1 rfl) ?_
  obtain ⟨g_5, hf⟩ := gd_some hf
  refine va_iald hx hb hK hP 1 0 rfl rfl g_5 dX11_widthOf_5 ?_
  refine lv_iload_n hx hb dX11_widthOf_6 rfl (lv_at hl 1 rfl) ?_
  refine lv_aload_n hx hb dX11_widthOf_7 rfl (lv_at hl 0 rfl) ?_
  refine va_get (D := (dC, dI)) (ci := 11) (v := .int c_door) (C := RX11) (T := TX11) (N := 30) hx hb hts in_X11_widthOf_X11 hown hK hP 0 rfl rfl 19 (by decide) (hts _ m_X11_widthOf_f111) (fun _ h9 => h9) rfl dX11_widthOf_8 ?_
  refine lv_icmp_ne (tgt := 21) hx hb dX11_widthOf_11 (by decide) (fun k_11 => ?_) (fun k_11 => ?_)
  · have hf := ite_f hf k_11
    refine lv_iconst (v := 0) hx hb dX11_widthOf_21 (by decide) ?_
    refine lv_iadd hx hb dX11_widthOf_22 ?_
    have e_f := Option.some.inj hf
    cases e_f
    exact hret rfl dX11_widthOf_23
  · have hf := ite_t hf k_11
    refine lv_aload_n hx hb dX11_widthOf_14 rfl (lv_at hl 0 rfl) ?_
    refine va_get (D := (dC, dI)) (ci := 11) (v := .int c_wider) (C := RX11) (T := TX11) (N := 30) hx hb hts in_X11_widthOf_X11 hown hK hP 0 rfl rfl 20 (by decide) (hts _ m_X11_widthOf_f114) (fun _ h9 => h9) rfl dX11_widthOf_15 ?_
    refine lv_goto (tgt := 22) hx hb dX11_widthOf_18 (by decide) ?_
    refine lv_iadd hx hb dX11_widthOf_22 ?_
    have e_f := Option.some.inj hf
    cases e_f
    exact hret rfl dX11_widthOf_23
abbrev w_X11_spot (cI cJ cZ : ClassId) (h_this h_this_delay g_this_book g_this_now g_this_width g_this_key g_this_wide g_this_ahead g_this_after g_this_sight g_this_pad g_this_counts g_this_isOne g_this_ways g_this_image g_this_isKept : Nat) (c_rules : Int32) (c_sights : Int32) (c_signs : Int32) (c_reason : Int32) (c_acts : Int32) (c_meetings : Int32) (c_clashes : Int32) (c_first : Int32) (c_where : Int32) (c_door : Int32) (c_wider : Int32) (c_ordersFound : Int32) (c_firstOrder : Int32) (c_least : Int32) (c_leastOrder : Int32) (c_delay : Nat → Int32) : va_W := [(h_this, .inr (11, [.ref g_this_book, .ref g_this_now, .ref g_this_width, .ref g_this_key, .ref g_this_wide, .ref h_this_delay, .int c_rules, .ref g_this_ahead, .ref g_this_after, .int c_sights, .ref g_this_sight, .int c_signs, .ref g_this_pad, .int c_reason, .int c_acts, .int c_meetings, .int c_clashes, .int c_first, .int c_where, .int c_door, .int c_wider, .int c_ordersFound, .int c_firstOrder, .int c_least, .int c_leastOrder, .ref g_this_counts, .ref g_this_isOne, .ref g_this_ways, .ref g_this_image, .ref g_this_isKept])), (h_this_delay, .inl (cI, 2, .inl c_delay))]
abbrev rm_X11_spot : Room := { frames := 0, cells := 0, slots := 0, locals := 0 }
theorem m_X11_spot_f25 : (.fieldLink RX11 25 "WovenRowsModel" "delay" "[I" : Cond) ∈ wsX11_spot := by decide +kernel
theorem in_X11_spot_X11 : ∀ w ∈ u_ws RX11 TX11 30, w ∈ wsX11_spot := by decide +kernel
set_option maxRecDepth 100000 in
set_option maxHeartbeats 4000000 in
theorem c_X11_spot (l : Launch) (dC : Nat → ClassId) (dI : Nat → Nat → Nat) (cI cJ cZ : ClassId) (h_this h_this_delay g_this_book g_this_now g_this_width g_this_key g_this_wide g_this_ahead g_this_after g_this_sight g_this_pad g_this_counts g_this_isOne g_this_ways g_this_image g_this_isKept : Nat) (sz : Nat) (c_rules : Int32) (c_sights : Int32) (c_signs : Int32) (c_reason : Int32) (c_acts : Int32) (c_meetings : Int32) (c_clashes : Int32) (c_first : Int32) (c_where : Int32) (c_door : Int32) (c_wider : Int32) (c_ordersFound : Int32) (c_firstOrder : Int32) (c_least : Int32) (c_leastOrder : Int32) (c_delay : Nat → Int32) (l1 : Int32) (l2 : Int32) (r : Int32) (hf : f_X11_spot c_delay l1 l2 = some r) : Met l yX11_spot wsX11_spot rm_X11_spot (va_Pc [.ref h_this, .int l1, .int l2] (PRE (dC, dI) (TY cI cJ cZ) sz (w_X11_spot cI cJ cZ h_this h_this_delay g_this_book g_this_now g_this_width g_this_key g_this_wide g_this_ahead g_this_after g_this_sight g_this_pad g_this_counts g_this_isOne g_this_ways g_this_image g_this_isKept c_rules c_sights c_signs c_reason c_acts c_meetings c_clashes c_first c_where c_door c_wider c_ordersFound c_firstOrder c_least c_leastOrder c_delay))) (vp_Si (fun r' => r' = r)) 0 0 (fun _ => False) := by
  refine ofSi (ty := .int) (by decide +kernel) rfl (Nat.le_of_ble_eq_true rfl) ?_
  intro p e s m args below meth c Z ls S hP hD hK hN hl hret
  obtain ⟨hx, hb, hml, hown, hts⟩ := id S
  have hown : s.vm.findClass RX11 = some m.cls := hown
  have hl : lv_has ls 3 [(0, .ref h_this), (1, .int l1), (2, .int l2)] := hl
  unfold f_X11_spot at hf
  refine lv_bipush (v := 16) hx hb dX11_spot_0 (by decide) ?_
  refine lv_aload_n hx hb dX11_spot_2 rfl (lv_at hl 0 rfl) ?_
  refine va_get (D := (dC, dI)) (ci := 11) (v := .ref h_this_delay) (C := RX11) (T := TX11) (N := 30) hx hb hts in_X11_spot_X11 hown hK hP 0 rfl rfl 5 (by decide) (hts _ m_X11_spot_f25) (fun _ h9 => h9) rfl dX11_spot_3 ?_
  refine lv_iconst (v := 1) hx hb dX11_spot_6 (by decide) ?_
  obtain ⟨g_7, hf⟩ := gd_some hf
  refine va_iald hx hb hK hP 1 0 rfl rfl g_7 dX11_spot_7 ?_
  refine lv_iadd hx hb dX11_spot_8 ?_
  refine lv_iload_n hx hb dX11_spot_9 rfl (lv_at hl 2 rfl) ?_
  refine lv_iadd hx hb dX11_spot_10 ?_
  refine lv_aload_n hx hb dX11_spot_11 rfl (lv_at hl 0 rfl) ?_
  refine va_get (D := (dC, dI)) (ci := 11) (v := .ref h_this_delay) (C := RX11) (T := TX11) (N := 30) hx hb hts in_X11_spot_X11 hown hK hP 0 rfl rfl 5 (by decide) (hts _ m_X11_spot_f25) (fun _ h9 => h9) rfl dX11_spot_12 ?_
  refine lv_iconst (v := 0) hx hb dX11_spot_15 (by decide) ?_
  obtain ⟨g_16, hf⟩ := gd_some hf
  refine va_iald hx hb hK hP 1 0 rfl rfl g_16 dX11_spot_16 ?_
  refine lv_isub hx hb dX11_spot_17 ?_
  refine lv_iload_n hx hb dX11_spot_18 rfl (lv_at hl 1 rfl) ?_
  refine lv_isub hx hb dX11_spot_19 ?_
  have e_f := Option.some.inj hf
  cases e_f
  exact hret rfl dX11_spot_20
abbrev w_X11_doClear (cI cJ cZ : ClassId) (h_this h_this_now h_this_width h_this_wide h_this_delay g_this_book g_this_key g_this_ahead g_this_after g_this_sight g_this_pad g_this_counts g_this_isOne g_this_ways g_this_image g_this_isKept : Nat) (c_rules : Int32) (c_sights : Int32) (c_signs : Int32) (c_reason : Int32) (c_acts : Int32) (c_meetings : Int32) (c_clashes : Int32) (c_first : Int32) (c_where : Int32) (c_door : Int32) (c_wider : Int32) (c_ordersFound : Int32) (c_firstOrder : Int32) (c_least : Int32) (c_leastOrder : Int32) (c_now : Nat → Int32) (c_width : Nat → Int32) (c_wide : Nat → Int32) (c_delay : Nat → Int32) : va_W := [(h_this, .inr (11, [.ref g_this_book, .ref h_this_now, .ref h_this_width, .ref g_this_key, .ref h_this_wide, .ref h_this_delay, .int c_rules, .ref g_this_ahead, .ref g_this_after, .int c_sights, .ref g_this_sight, .int c_signs, .ref g_this_pad, .int c_reason, .int c_acts, .int c_meetings, .int c_clashes, .int c_first, .int c_where, .int c_door, .int c_wider, .int c_ordersFound, .int c_firstOrder, .int c_least, .int c_leastOrder, .ref g_this_counts, .ref g_this_isOne, .ref g_this_ways, .ref g_this_image, .ref g_this_isKept])), (h_this_now, .inl (cI, 15, .inl c_now)), (h_this_width, .inl (cI, 10, .inl c_width)), (h_this_wide, .inl (cI, 17, .inl c_wide)), (h_this_delay, .inl (cI, 2, .inl c_delay))]
abbrev rm_X11_doClear : Room := { frames := 1, cells := 0, slots := 0, locals := 22 }
theorem m_X11_doClear_f16 : (.fieldLink RX11 16 "WovenRowsModel" "width" "[I" : Cond) ∈ wsX11_doClear := by decide +kernel
theorem in_X11_doClear_X11 : ∀ w ∈ u_ws RX11 TX11 30, w ∈ wsX11_doClear := by decide +kernel
theorem m_X11_doClear_f13 : (.fieldLink RX11 13 "WovenRowsModel" "now" "[I" : Cond) ∈ wsX11_doClear := by decide +kernel
set_option maxRecDepth 100000 in
set_option maxHeartbeats 4000000 in
theorem c_X11_doClear (l : Launch) (dC : Nat → ClassId) (dI : Nat → Nat → Nat) (cI cJ cZ : ClassId) (h_this h_this_now h_this_width h_this_wide h_this_delay g_this_book g_this_key g_this_ahead g_this_after g_this_sight g_this_pad g_this_counts g_this_isOne g_this_ways g_this_image g_this_isKept : Nat) (sz : Nat) (c_rules : Int32) (c_sights : Int32) (c_signs : Int32) (c_reason : Int32) (c_acts : Int32) (c_meetings : Int32) (c_clashes : Int32) (c_first : Int32) (c_where : Int32) (c_door : Int32) (c_wider : Int32) (c_ordersFound : Int32) (c_firstOrder : Int32) (c_least : Int32) (c_leastOrder : Int32) (c_now : Nat → Int32) (c_width : Nat → Int32) (c_wide : Nat → Int32) (c_delay : Nat → Int32) (l1 : Int32) (l2 : Int32) (r : Int32) (hf : f_X11_doClear c_door c_wider c_now c_width c_wide c_delay l1 l2 = some r) : Met l yX11_doClear wsX11_doClear rm_X11_doClear (va_Pc [.ref h_this, .int l1, .int l2] (PRE (dC, dI) (TY cI cJ cZ) sz (w_X11_doClear cI cJ cZ h_this h_this_now h_this_width h_this_wide h_this_delay g_this_book g_this_key g_this_ahead g_this_after g_this_sight g_this_pad g_this_counts g_this_isOne g_this_ways g_this_image g_this_isKept c_rules c_sights c_signs c_reason c_acts c_meetings c_clashes c_first c_where c_door c_wider c_ordersFound c_firstOrder c_least c_leastOrder c_now c_width c_wide c_delay))) (vp_Si (fun r' => r' = r)) 0 0 (fun _ => False) := by
  refine ofSi (ty := .boolean) (by decide +kernel) rfl (Nat.le_of_ble_eq_true rfl) ?_
  intro p e s m args below meth c Z ls S hP hD hK hN hl hret
  obtain ⟨hx, hb, hml, hown, hts⟩ := id S
  have hown : s.vm.findClass RX11 = some m.cls := hown
  have hl : lv_has ls 5 [(0, .ref h_this), (1, .int l1), (2, .int l2)] := hl
  unfold f_X11_doClear at hf
  refine lv_aload_n hx hb dX11_doClear_0 rfl (lv_at hl 0 rfl) ?_
  refine lv_iload_n hx hb dX11_doClear_1 rfl (lv_at hl 1 rfl) ?_
  refine lv_iload_n hx hb dX11_doClear_2 rfl (lv_at hl 2 rfl) ?_
  obtain ⟨r_3, hv_3, hf⟩ := bd1_some hf
  refine kSi (rV (C := RX11) [.int l1, .int l2] [] S (c_X11_spot l dC dI cI cJ cZ h_this h_this_delay g_this_book h_this_now h_this_width g_this_key h_this_wide g_this_ahead g_this_after g_this_sight g_this_pad g_this_counts g_this_isOne g_this_ways g_this_image g_this_isKept s.heap.size c_rules c_sights c_signs c_reason c_acts c_meetings c_clashes c_first c_where c_door c_wider c_ordersFound c_firstOrder c_least c_leastOrder c_delay l1 l2 r_3 hv_3) (cwV 2 hts gX11_doClear_X11_spot rfl rfl rfl (by decide +kernel) ⟨Nat.le_of_ble_eq_true rfl, Nat.le_of_ble_eq_true rfl⟩) (va_recv hK hP (ci := 11) (q0 := 0) rfl rfl) hP hD hK hN [0, 4] rfl (by decide +kernel) rfl hl.1 rfl (Nat.le_of_ble_eq_true rfl) dX11_doClear_3 ⟨Nat.le_of_ble_eq_true rfl, Nat.le_of_ble_eq_true rfl⟩) ?_
  refine lv_istore_n (lv' := [(3, .int r_3), (0, .ref h_this), (1, .int l1), (2, .int l2)]) hx hb dX11_doClear_6 rfl hl (by decide) rfl (fun ls hl => ?_)
  refine lv_aload_n hx hb dX11_doClear_7 rfl (lv_at hl 1 rfl) ?_
  refine va_get (D := (dC, dI)) (ci := 11) (v := .ref h_this_width) (C := RX11) (T := TX11) (N := 30) hx hb hts in_X11_doClear_X11 hown hK hP 0 rfl rfl 2 (by decide) (hts _ m_X11_doClear_f16) (fun _ h9 => h9) rfl dX11_doClear_8 ?_
  refine lv_aload_n hx hb dX11_doClear_11 rfl (lv_at hl 1 rfl) ?_
  refine va_get (D := (dC, dI)) (ci := 11) (v := .ref h_this_now) (C := RX11) (T := TX11) (N := 30) hx hb hts in_X11_doClear_X11 hown hK hP 0 rfl rfl 1 (by decide) (hts _ m_X11_doClear_f13) (fun _ h9 => h9) rfl dX11_doClear_12 ?_
  refine lv_iload_n hx hb dX11_doClear_15 rfl (lv_at hl 2 rfl) ?_
  obtain ⟨g_16, hf⟩ := gd_some hf
  refine va_iald hx hb hK hP 1 0 rfl rfl g_16 dX11_doClear_16 ?_
  obtain ⟨g_17, hf⟩ := gd_some hf
  refine va_iald hx hb hK hP 2 0 rfl rfl g_17 dX11_doClear_17 ?_
  refine lv_aload_n hx hb dX11_doClear_18 rfl (lv_at hl 1 rfl) ?_
  refine va_get (D := (dC, dI)) (ci := 11) (v := .ref h_this_width) (C := RX11) (T := TX11) (N := 30) hx hb hts in_X11_doClear_X11 hown hK hP 0 rfl rfl 2 (by decide) (hts _ m_X11_doClear_f16) (fun _ h9 => h9) rfl dX11_doClear_19 ?_
  refine lv_aload_n hx hb dX11_doClear_22 rfl (lv_at hl 1 rfl) ?_
  refine va_get (D := (dC, dI)) (ci := 11) (v := .ref h_this_now) (C := RX11) (T := TX11) (N := 30) hx hb hts in_X11_doClear_X11 hown hK hP 0 rfl rfl 1 (by decide) (hts _ m_X11_doClear_f13) (fun _ h9 => h9) rfl dX11_doClear_23 ?_
  refine lv_bipush (v := 6) hx hb dX11_doClear_26 (by decide) ?_
  refine lv_iload_n hx hb dX11_doClear_28 rfl (lv_at hl 3 rfl) ?_
  refine lv_iadd hx hb dX11_doClear_29 ?_
  obtain ⟨g_30, hf⟩ := gd_some hf
  refine va_iald hx hb hK hP 1 0 rfl rfl g_30 dX11_doClear_30 ?_
  obtain ⟨g_31, hf⟩ := gd_some hf
  refine va_iald hx hb hK hP 2 0 rfl rfl g_31 dX11_doClear_31 ?_
  refine lv_iadd hx hb dX11_doClear_32 ?_
  obtain ⟨l4_33s, e_l4_33s, hf⟩ := nmv_some hf
  refine tpi e_l4_33s ?_
  refine lv_istore (lv' := [(4, .int l4_33s), (3, .int r_3), (0, .ref h_this), (1, .int l1), (2, .int l2)]) hx hb dX11_doClear_33 hl (by decide) rfl (fun ls hl => ?_)
  refine lv_aload_n hx hb dX11_doClear_35 rfl (lv_at hl 2 rfl) ?_
  refine lv_iload_n hx hb dX11_doClear_36 rfl (lv_at hl 1 rfl) ?_
  refine lv_iconst (v := 2) hx hb dX11_doClear_37 (by decide) ?_
  refine lv_idiv hx hb dX11_doClear_38 (by decide) ?_
  obtain ⟨r_39, hv_39, hf⟩ := bd1_some hf
  refine kSi (rV (C := RX11) [.int (r_3 / 2)] [] S (c_X11_widthOf l dC dI cI cJ cZ h_this h_this_wide g_this_book h_this_now h_this_width g_this_key h_this_delay g_this_ahead g_this_after g_this_sight g_this_pad g_this_counts g_this_isOne g_this_ways g_this_image g_this_isKept s.heap.size c_rules c_sights c_signs c_reason c_acts c_meetings c_clashes c_first c_where c_door c_wider c_ordersFound c_firstOrder c_least c_leastOrder c_wide (r_3 / 2) r_39 hv_39) (cwV 1 hts gX11_doClear_X11_widthOf rfl rfl rfl (by decide +kernel) ⟨Nat.le_of_ble_eq_true rfl, Nat.le_of_ble_eq_true rfl⟩) (va_recv hK hP (ci := 11) (q0 := 0) rfl rfl) hP hD hK hN [0, 3] rfl (by decide +kernel) rfl hl.1 rfl (Nat.le_of_ble_eq_true rfl) dX11_doClear_39 ⟨Nat.le_of_ble_eq_true rfl, Nat.le_of_ble_eq_true rfl⟩) ?_
  refine lv_iload hx hb dX11_doClear_42 (lv_at hl 0 rfl) ?_
  refine lv_icmp_lt (tgt := 65) hx hb dX11_doClear_44 (by decide) (fun k_44 => ?_) (fun k_44 => ?_)
  · have hf := ite_t hf k_44
    refine lv_iconst (v := 0) hx hb dX11_doClear_65 (by decide) ?_
    have e_f := Option.some.inj hf
    cases e_f
    exact hret rfl dX11_doClear_66
  · have hf := ite_f hf k_44
    refine lv_aload_n hx hb dX11_doClear_47 rfl (lv_at hl 2 rfl) ?_
    refine lv_iload_n hx hb dX11_doClear_48 rfl (lv_at hl 1 rfl) ?_
    refine lv_iconst (v := 1) hx hb dX11_doClear_49 (by decide) ?_
    refine lv_iadd hx hb dX11_doClear_50 ?_
    refine lv_iconst (v := 2) hx hb dX11_doClear_51 (by decide) ?_
    refine lv_idiv hx hb dX11_doClear_52 (by decide) ?_
    obtain ⟨r_53, hv_53, hf⟩ := bd1_some hf
    refine kSi (rV (C := RX11) [.int ((r_3 + 1) / 2)] [] S (c_X11_widthOf l dC dI cI cJ cZ h_this h_this_wide g_this_book h_this_now h_this_width g_this_key h_this_delay g_this_ahead g_this_after g_this_sight g_this_pad g_this_counts g_this_isOne g_this_ways g_this_image g_this_isKept s.heap.size c_rules c_sights c_signs c_reason c_acts c_meetings c_clashes c_first c_where c_door c_wider c_ordersFound c_firstOrder c_least c_leastOrder c_wide ((r_3 + 1) / 2) r_53 hv_53) (cwV 1 hts gX11_doClear_X11_widthOf rfl rfl rfl (by decide +kernel) ⟨Nat.le_of_ble_eq_true rfl, Nat.le_of_ble_eq_true rfl⟩) (va_recv hK hP (ci := 11) (q0 := 0) rfl rfl) hP hD hK hN [0, 3] rfl (by decide +kernel) rfl hl.1 rfl (Nat.le_of_ble_eq_true rfl) dX11_doClear_53 ⟨Nat.le_of_ble_eq_true rfl, Nat.le_of_ble_eq_true rfl⟩) ?_
    refine lv_iload hx hb dX11_doClear_56 (lv_at hl 0 rfl) ?_
    refine lv_icmp_lt (tgt := 65) hx hb dX11_doClear_58 (by decide) (fun k_58 => ?_) (fun k_58 => ?_)
    · have hf := ite_t hf k_58
      refine lv_iconst (v := 0) hx hb dX11_doClear_65 (by decide) ?_
      have e_f := Option.some.inj hf
      cases e_f
      exact hret rfl dX11_doClear_66
    · have hf := ite_f hf k_58
      refine lv_iconst (v := 1) hx hb dX11_doClear_61 (by decide) ?_
      refine lv_goto (tgt := 66) hx hb dX11_doClear_62 (by decide) ?_
      have e_f := Option.some.inj hf
      cases e_f
      exact hret rfl dX11_doClear_66
abbrev w_X11_layMeetings (cI cJ cZ : ClassId) (h_this h_this_now h_this_width h_this_wide h_this_delay g_this_book g_this_key g_this_ahead g_this_after g_this_sight g_this_pad g_this_counts g_this_isOne g_this_ways g_this_image g_this_isKept : Nat) (c_rules : Int32) (c_sights : Int32) (c_signs : Int32) (c_reason : Int32) (c_acts : Int32) (c_meetings : Int32) (c_clashes : Int32) (c_first : Int32) (c_where : Int32) (c_door : Int32) (c_wider : Int32) (c_ordersFound : Int32) (c_firstOrder : Int32) (c_least : Int32) (c_leastOrder : Int32) (c_now : Nat → Int32) (c_width : Nat → Int32) (c_wide : Nat → Int32) (c_delay : Nat → Int32) : va_W := [(h_this, .inr (11, [.ref g_this_book, .ref h_this_now, .ref h_this_width, .ref g_this_key, .ref h_this_wide, .ref h_this_delay, .int c_rules, .ref g_this_ahead, .ref g_this_after, .int c_sights, .ref g_this_sight, .int c_signs, .ref g_this_pad, .int c_reason, .int c_acts, .int c_meetings, .int c_clashes, .int c_first, .int c_where, .int c_door, .int c_wider, .int c_ordersFound, .int c_firstOrder, .int c_least, .int c_leastOrder, .ref g_this_counts, .ref g_this_isOne, .ref g_this_ways, .ref g_this_image, .ref g_this_isKept])), (h_this_now, .inl (cI, 15, .inl c_now)), (h_this_width, .inl (cI, 10, .inl c_width)), (h_this_wide, .inl (cI, 17, .inl c_wide)), (h_this_delay, .inl (cI, 2, .inl c_delay))]
abbrev rm_X11_layMeetings : Room := { frames := 2, cells := 0, slots := 0, locals := 46 }
theorem m_X11_layMeetings_f123 : (.fieldLink RX11 123 "WovenRowsModel" "meetings" "I" : Cond) ∈ wsX11_layMeetings := by decide +kernel
theorem in_X11_layMeetings_X11 : ∀ w ∈ u_ws RX11 TX11 30, w ∈ wsX11_layMeetings := by decide +kernel
theorem m_X11_layMeetings_f126 : (.fieldLink RX11 126 "WovenRowsModel" "clashes" "I" : Cond) ∈ wsX11_layMeetings := by decide +kernel
theorem m_X11_layMeetings_f129 : (.fieldLink RX11 129 "WovenRowsModel" "first" "I" : Cond) ∈ wsX11_layMeetings := by decide +kernel
theorem m_X11_layMeetings_f132 : (.fieldLink RX11 132 "WovenRowsModel" "where" "I" : Cond) ∈ wsX11_layMeetings := by decide +kernel
theorem m_X11_layMeetings_f13 : (.fieldLink RX11 13 "WovenRowsModel" "now" "[I" : Cond) ∈ wsX11_layMeetings := by decide +kernel
set_option maxRecDepth 100000 in
set_option maxHeartbeats 4000000 in
theorem c_X11_layMeetings (l : Launch) (dC : Nat → ClassId) (dI : Nat → Nat → Nat) (cI cJ cZ : ClassId) (h_this h_this_now h_this_width h_this_wide h_this_delay g_this_book g_this_key g_this_ahead g_this_after g_this_sight g_this_pad g_this_counts g_this_isOne g_this_ways g_this_image g_this_isKept : Nat) (sz : Nat) (c_rules : Int32) (c_sights : Int32) (c_signs : Int32) (c_reason : Int32) (c_acts : Int32) (c_meetings : Int32) (c_clashes : Int32) (c_first : Int32) (c_where : Int32) (c_door : Int32) (c_wider : Int32) (c_ordersFound : Int32) (c_firstOrder : Int32) (c_least : Int32) (c_leastOrder : Int32) (c_now : Nat → Int32) (c_width : Nat → Int32) (c_wide : Nat → Int32) (c_delay : Nat → Int32) (z_meetings : Int32) (z_clashes : Int32) (z_first : Int32) (z_where : Int32) (hf : f_X11_layMeetings c_door c_wider c_now c_width c_wide c_delay = some (z_meetings, z_clashes, z_first, z_where)) : Met l yX11_layMeetings wsX11_layMeetings rm_X11_layMeetings (va_Pc [.ref h_this] (PRE (dC, dI) (TY cI cJ cZ) sz (w_X11_layMeetings cI cJ cZ h_this h_this_now h_this_width h_this_wide h_this_delay g_this_book g_this_key g_this_ahead g_this_after g_this_sight g_this_pad g_this_counts g_this_isOne g_this_ways g_this_image g_this_isKept c_rules c_sights c_signs c_reason c_acts c_meetings c_clashes c_first c_where c_door c_wider c_ordersFound c_firstOrder c_least c_leastOrder c_now c_width c_wide c_delay))) (va_Qv (fun _ : Unit => True) (POW (dC, dI) (va_A (w_X11_layMeetings cI cJ cZ h_this h_this_now h_this_width h_this_wide h_this_delay g_this_book g_this_key g_this_ahead g_this_after g_this_sight g_this_pad g_this_counts g_this_isOne g_this_ways g_this_image g_this_isKept c_rules c_sights c_signs c_reason c_acts c_meetings c_clashes c_first c_where c_door c_wider c_ordersFound c_firstOrder c_least c_leastOrder c_now c_width c_wide c_delay) sz) (w_X11_layMeetings cI cJ cZ h_this h_this_now h_this_width h_this_wide h_this_delay g_this_book g_this_key g_this_ahead g_this_after g_this_sight g_this_pad g_this_counts g_this_isOne g_this_ways g_this_image g_this_isKept c_rules c_sights c_signs c_reason c_acts z_meetings z_clashes z_first z_where c_door c_wider c_ordersFound c_firstOrder c_least c_leastOrder c_now c_width c_wide c_delay)) (va_A (w_X11_layMeetings cI cJ cZ h_this h_this_now h_this_width h_this_wide h_this_delay g_this_book g_this_key g_this_ahead g_this_after g_this_sight g_this_pad g_this_counts g_this_isOne g_this_ways g_this_image g_this_isKept c_rules c_sights c_signs c_reason c_acts c_meetings c_clashes c_first c_where c_door c_wider c_ordersFound c_firstOrder c_least c_leastOrder c_now c_width c_wide c_delay) sz)) 0 0 (va_A (w_X11_layMeetings cI cJ cZ h_this h_this_now h_this_width h_this_wide h_this_delay g_this_book g_this_key g_this_ahead g_this_after g_this_sight g_this_pad g_this_counts g_this_isOne g_this_ways g_this_image g_this_isKept c_rules c_sights c_signs c_reason c_acts c_meetings c_clashes c_first c_where c_door c_wider c_ordersFound c_firstOrder c_least c_leastOrder c_now c_width c_wide c_delay) sz) := by
  refine ofWv (by decide +kernel) rfl (Nat.le_of_ble_eq_true rfl) ?_
  intro p e s m args below meth c Z A ls S hP hD hK hN hA hl hret
  obtain ⟨hx, hb, hml, hown, hts⟩ := id S
  have hown : s.vm.findClass RX11 = some m.cls := hown
  have hS : va_S A s.heap s.heap [] := va_S.rf
  have hl : lv_has ls 4 [(0, .ref h_this)] := hl
  unfold f_X11_layMeetings at hf
  refine lv_aload_n hx hb dX11_layMeetings_0 rfl (lv_at hl 0 rfl) ?_
  refine lv_iconst (v := 0) hx hb dX11_layMeetings_1 (by decide) ?_
  refine va_put (D := (dC, dI)) (ci := 11) (v := .int 0) (ty := .int) (C := RX11) (T := TX11) (N := 30) hx hb hts in_X11_layMeetings_X11 tyX11 tyX11_ok nmX11 hown hK hP hD hS 0 rfl rfl 15 (by decide) (hts _ m_X11_layMeetings_f123) (fun _ h9 => h9) rfl (by decide +kernel) rfl rfl (Nat.le_of_ble_eq_true rfl) dX11_layMeetings_2 (fun H locs hP hD hS => ?_)
  have hP : va_P (dC, dI) vwCl (w_X11_layMeetings cI cJ cZ h_this h_this_now h_this_width h_this_wide h_this_delay g_this_book g_this_key g_this_ahead g_this_after g_this_sight g_this_pad g_this_counts g_this_isOne g_this_ways g_this_image g_this_isKept c_rules c_sights c_signs c_reason c_acts 0 c_clashes c_first c_where c_door c_wider c_ordersFound c_firstOrder c_least c_leastOrder c_now c_width c_wide c_delay) H := hP
  have hD : va_D A (w_X11_layMeetings cI cJ cZ h_this h_this_now h_this_width h_this_wide h_this_delay g_this_book g_this_key g_this_ahead g_this_after g_this_sight g_this_pad g_this_counts g_this_isOne g_this_ways g_this_image g_this_isKept c_rules c_sights c_signs c_reason c_acts 0 c_clashes c_first c_where c_door c_wider c_ordersFound c_firstOrder c_least c_leastOrder c_now c_width c_wide c_delay) := hD
  refine lv_aload_n hx hb dX11_layMeetings_5 rfl (lv_at hl 0 rfl) ?_
  refine lv_iconst (v := 0) hx hb dX11_layMeetings_6 (by decide) ?_
  refine va_put (D := (dC, dI)) (ci := 11) (v := .int 0) (ty := .int) (C := RX11) (T := TX11) (N := 30) hx hb hts in_X11_layMeetings_X11 tyX11 tyX11_ok nmX11 hown hK hP hD hS 0 rfl rfl 16 (by decide) (hts _ m_X11_layMeetings_f126) (fun _ h9 => h9) rfl (by decide +kernel) rfl rfl (Nat.le_of_ble_eq_true rfl) dX11_layMeetings_7 (fun H locs hP hD hS => ?_)
  have hP : va_P (dC, dI) vwCl (w_X11_layMeetings cI cJ cZ h_this h_this_now h_this_width h_this_wide h_this_delay g_this_book g_this_key g_this_ahead g_this_after g_this_sight g_this_pad g_this_counts g_this_isOne g_this_ways g_this_image g_this_isKept c_rules c_sights c_signs c_reason c_acts 0 0 c_first c_where c_door c_wider c_ordersFound c_firstOrder c_least c_leastOrder c_now c_width c_wide c_delay) H := hP
  have hD : va_D A (w_X11_layMeetings cI cJ cZ h_this h_this_now h_this_width h_this_wide h_this_delay g_this_book g_this_key g_this_ahead g_this_after g_this_sight g_this_pad g_this_counts g_this_isOne g_this_ways g_this_image g_this_isKept c_rules c_sights c_signs c_reason c_acts 0 0 c_first c_where c_door c_wider c_ordersFound c_firstOrder c_least c_leastOrder c_now c_width c_wide c_delay) := hD
  refine lv_aload_n hx hb dX11_layMeetings_10 rfl (lv_at hl 0 rfl) ?_
  refine lv_bipush (v := (-6)) hx hb dX11_layMeetings_11 (by decide) ?_
  refine va_put (D := (dC, dI)) (ci := 11) (v := .int (-6)) (ty := .int) (C := RX11) (T := TX11) (N := 30) hx hb hts in_X11_layMeetings_X11 tyX11 tyX11_ok nmX11 hown hK hP hD hS 0 rfl rfl 17 (by decide) (hts _ m_X11_layMeetings_f129) (fun _ h9 => h9) rfl (by decide +kernel) rfl rfl (Nat.le_of_ble_eq_true rfl) dX11_layMeetings_13 (fun H locs hP hD hS => ?_)
  have hP : va_P (dC, dI) vwCl (w_X11_layMeetings cI cJ cZ h_this h_this_now h_this_width h_this_wide h_this_delay g_this_book g_this_key g_this_ahead g_this_after g_this_sight g_this_pad g_this_counts g_this_isOne g_this_ways g_this_image g_this_isKept c_rules c_sights c_signs c_reason c_acts 0 0 (-6) c_where c_door c_wider c_ordersFound c_firstOrder c_least c_leastOrder c_now c_width c_wide c_delay) H := hP
  have hD : va_D A (w_X11_layMeetings cI cJ cZ h_this h_this_now h_this_width h_this_wide h_this_delay g_this_book g_this_key g_this_ahead g_this_after g_this_sight g_this_pad g_this_counts g_this_isOne g_this_ways g_this_image g_this_isKept c_rules c_sights c_signs c_reason c_acts 0 0 (-6) c_where c_door c_wider c_ordersFound c_firstOrder c_least c_leastOrder c_now c_width c_wide c_delay) := hD
  refine lv_aload_n hx hb dX11_layMeetings_16 rfl (lv_at hl 0 rfl) ?_
  refine lv_bipush (v := (-6)) hx hb dX11_layMeetings_17 (by decide) ?_
  refine va_put (D := (dC, dI)) (ci := 11) (v := .int (-6)) (ty := .int) (C := RX11) (T := TX11) (N := 30) hx hb hts in_X11_layMeetings_X11 tyX11 tyX11_ok nmX11 hown hK hP hD hS 0 rfl rfl 18 (by decide) (hts _ m_X11_layMeetings_f132) (fun _ h9 => h9) rfl (by decide +kernel) rfl rfl (Nat.le_of_ble_eq_true rfl) dX11_layMeetings_19 (fun H locs hP hD hS => ?_)
  have hP : va_P (dC, dI) vwCl (w_X11_layMeetings cI cJ cZ h_this h_this_now h_this_width h_this_wide h_this_delay g_this_book g_this_key g_this_ahead g_this_after g_this_sight g_this_pad g_this_counts g_this_isOne g_this_ways g_this_image g_this_isKept c_rules c_sights c_signs c_reason c_acts 0 0 (-6) (-6) c_door c_wider c_ordersFound c_firstOrder c_least c_leastOrder c_now c_width c_wide c_delay) H := hP
  have hD : va_D A (w_X11_layMeetings cI cJ cZ h_this h_this_now h_this_width h_this_wide h_this_delay g_this_book g_this_key g_this_ahead g_this_after g_this_sight g_this_pad g_this_counts g_this_isOne g_this_ways g_this_image g_this_isKept c_rules c_sights c_signs c_reason c_acts 0 0 (-6) (-6) c_door c_wider c_ordersFound c_firstOrder c_least c_leastOrder c_now c_width c_wide c_delay) := hD
  refine lv_iconst (v := 0) hx hb dX11_layMeetings_22 (by decide) ?_
  refine lv_istore_n (lv' := [(1, .int 0), (0, .ref h_this)]) hx hb dX11_layMeetings_23 rfl hl (by decide) rfl (fun ls hl => ?_)
  obtain ⟨l1_24x, c_meetings_24x, c_clashes_24x, c_first_24x, c_where_24x, hq_24, hf⟩ := bd5_some hf
  have K_24 : ∀ (H : Heap) (locs : List Loc) (ls : Array Slot), va_P (dC, dI) vwCl (w_X11_layMeetings cI cJ cZ h_this h_this_now h_this_width h_this_wide h_this_delay g_this_book g_this_key g_this_ahead g_this_after g_this_sight g_this_pad g_this_counts g_this_isOne g_this_ways g_this_image g_this_isKept c_rules c_sights c_signs c_reason c_acts c_meetings_24x c_clashes_24x c_first_24x c_where_24x c_door c_wider c_ordersFound c_firstOrder c_least c_leastOrder c_now c_width c_wide c_delay) H → va_D A (w_X11_layMeetings cI cJ cZ h_this h_this_now h_this_width h_this_wide h_this_delay g_this_book g_this_key g_this_ahead g_this_after g_this_sight g_this_pad g_this_counts g_this_isOne g_this_ways g_this_image g_this_isKept c_rules c_sights c_signs c_reason c_acts c_meetings_24x c_clashes_24x c_first_24x c_where_24x c_door c_wider c_ordersFound c_firstOrder c_least c_leastOrder c_now c_width c_wide c_delay) → va_S A s.heap H locs → lv_has ls 4 [] → W p l e rm_X11_layMeetings s m args below meth c H locs 0 0 Z (F0 m 181 ls []) := by
    intro H locs ls hP hD hS hl
    have e_f := Option.some.inj hf
    cases e_f
    exact hret hP hD hS dX11_layMeetings_181
  have L_24 : ∀ (n : Nat) (l1_24 : Int32) (c_meetings_24 : Int32) (c_clashes_24 : Int32) (c_first_24 : Int32) (c_where_24 : Int32) (H : Heap) (locs : List Loc) (ls : Array Slot), va_P (dC, dI) vwCl (w_X11_layMeetings cI cJ cZ h_this h_this_now h_this_width h_this_wide h_this_delay g_this_book g_this_key g_this_ahead g_this_after g_this_sight g_this_pad g_this_counts g_this_isOne g_this_ways g_this_image g_this_isKept c_rules c_sights c_signs c_reason c_acts c_meetings_24 c_clashes_24 c_first_24 c_where_24 c_door c_wider c_ordersFound c_firstOrder c_least c_leastOrder c_now c_width c_wide c_delay) H → va_D A (w_X11_layMeetings cI cJ cZ h_this h_this_now h_this_width h_this_wide h_this_delay g_this_book g_this_key g_this_ahead g_this_after g_this_sight g_this_pad g_this_counts g_this_isOne g_this_ways g_this_image g_this_isKept c_rules c_sights c_signs c_reason c_acts c_meetings_24 c_clashes_24 c_first_24 c_where_24 c_door c_wider c_ordersFound c_firstOrder c_least c_leastOrder c_now c_width c_wide c_delay) → va_S A s.heap H locs → lv_has ls 4 [(0, .ref h_this), (1, .int l1_24)] → loopN (fun (q : Int32 × Int32 × Int32 × Int32 × Int32) => f_X11_layMeetings_b24 c_door c_wider c_now c_width c_wide c_delay q.1 q.2.1 q.2.2.1 q.2.2.2.1 q.2.2.2.2) n (l1_24, c_meetings_24, c_clashes_24, c_first_24, c_where_24) = some (l1_24x, c_meetings_24x, c_clashes_24x, c_first_24x, c_where_24x) → W p l e rm_X11_layMeetings s m args below meth c H locs 0 0 Z (F0 m 24 ls []) := by
    intro n
    induction n with
    | zero => intro l1_24 c_meetings_24 c_clashes_24 c_first_24 c_where_24 H locs ls hP hD hS hl hq; exact (loopN_zero hq).elim
    | succ n ih_24 =>
      intro l1_24 c_meetings_24 c_clashes_24 c_first_24 c_where_24 H locs ls hP hD hS hl hq
      obtain ⟨o_24, hf, ho1_24, ho2_24⟩ := loopN_step hq
      have hf : f_X11_layMeetings_b24 c_door c_wider c_now c_width c_wide c_delay l1_24 c_meetings_24 c_clashes_24 c_first_24 c_where_24 = some o_24 := hf
      unfold f_X11_layMeetings_b24 at hf
      refine lv_iload_n hx hb dX11_layMeetings_24 rfl (lv_at hl 1 rfl) ?_
      refine lv_bipush (v := 11) hx hb dX11_layMeetings_25 (by decide) ?_
      refine lv_icmp_ge (tgt := 181) hx hb dX11_layMeetings_27 (by decide) (fun k_27 => ?_) (fun k_27 => ?_)
      · have hf := ite_t hf k_27
        have e_24 := ho2_24 _ (Option.some.inj hf).symm
        cases e_24
        exact K_24 H locs ls hP hD hS (lv_sub hl [] rfl)
      · have hf := ite_f hf k_27
        refine lv_iconst (v := 0) hx hb dX11_layMeetings_30 (by decide) ?_
        refine lv_istore_n (lv' := [(2, .int 0), (0, .ref h_this), (1, .int l1_24)]) hx hb dX11_layMeetings_31 rfl hl (by decide) rfl (fun ls hl => ?_)
        obtain ⟨l2_32x, c_meetings_32x, c_clashes_32x, c_first_32x, c_where_32x, hq_32, hf⟩ := bd5_some hf
        have K_32 : ∀ (H : Heap) (locs : List Loc) (ls : Array Slot), va_P (dC, dI) vwCl (w_X11_layMeetings cI cJ cZ h_this h_this_now h_this_width h_this_wide h_this_delay g_this_book g_this_key g_this_ahead g_this_after g_this_sight g_this_pad g_this_counts g_this_isOne g_this_ways g_this_image g_this_isKept c_rules c_sights c_signs c_reason c_acts c_meetings_32x c_clashes_32x c_first_32x c_where_32x c_door c_wider c_ordersFound c_firstOrder c_least c_leastOrder c_now c_width c_wide c_delay) H → va_D A (w_X11_layMeetings cI cJ cZ h_this h_this_now h_this_width h_this_wide h_this_delay g_this_book g_this_key g_this_ahead g_this_after g_this_sight g_this_pad g_this_counts g_this_isOne g_this_ways g_this_image g_this_isKept c_rules c_sights c_signs c_reason c_acts c_meetings_32x c_clashes_32x c_first_32x c_where_32x c_door c_wider c_ordersFound c_firstOrder c_least c_leastOrder c_now c_width c_wide c_delay) → va_S A s.heap H locs → lv_has ls 4 [(0, .ref h_this), (1, .int l1_24)] → W p l e rm_X11_layMeetings s m args below meth c H locs 0 0 Z (F0 m 175 ls []) := by
          intro H locs ls hP hD hS hl
          refine lv_iinc (v := (l1_24 + 1)) (lv' := [(1, .int (l1_24 + 1)), (0, .ref h_this)]) hx hb dX11_layMeetings_175 hl (k := 1) rfl rfl (by decide) rfl (fun ls hl => ?_)
          refine lv_goto (tgt := 24) hx hb dX11_layMeetings_178 (by decide) ?_
          exact ih_24 (l1_24 + 1) c_meetings_32x c_clashes_32x c_first_32x c_where_32x H locs ls hP hD hS (lv_sub hl [1, 0] rfl) (ho1_24 _ (Option.some.inj hf).symm)
        have L_32 : ∀ (n : Nat) (l2_32 : Int32) (c_meetings_32 : Int32) (c_clashes_32 : Int32) (c_first_32 : Int32) (c_where_32 : Int32) (H : Heap) (locs : List Loc) (ls : Array Slot), va_P (dC, dI) vwCl (w_X11_layMeetings cI cJ cZ h_this h_this_now h_this_width h_this_wide h_this_delay g_this_book g_this_key g_this_ahead g_this_after g_this_sight g_this_pad g_this_counts g_this_isOne g_this_ways g_this_image g_this_isKept c_rules c_sights c_signs c_reason c_acts c_meetings_32 c_clashes_32 c_first_32 c_where_32 c_door c_wider c_ordersFound c_firstOrder c_least c_leastOrder c_now c_width c_wide c_delay) H → va_D A (w_X11_layMeetings cI cJ cZ h_this h_this_now h_this_width h_this_wide h_this_delay g_this_book g_this_key g_this_ahead g_this_after g_this_sight g_this_pad g_this_counts g_this_isOne g_this_ways g_this_image g_this_isKept c_rules c_sights c_signs c_reason c_acts c_meetings_32 c_clashes_32 c_first_32 c_where_32 c_door c_wider c_ordersFound c_firstOrder c_least c_leastOrder c_now c_width c_wide c_delay) → va_S A s.heap H locs → lv_has ls 4 [(0, .ref h_this), (1, .int l1_24), (2, .int l2_32)] → loopN (fun (q : Int32 × Int32 × Int32 × Int32 × Int32) => f_X11_layMeetings_b32 c_door c_wider c_now c_width c_wide c_delay l1_24 q.1 q.2.1 q.2.2.1 q.2.2.2.1 q.2.2.2.2) n (l2_32, c_meetings_32, c_clashes_32, c_first_32, c_where_32) = some (l2_32x, c_meetings_32x, c_clashes_32x, c_first_32x, c_where_32x) → W p l e rm_X11_layMeetings s m args below meth c H locs 0 0 Z (F0 m 32 ls []) := by
          intro n
          induction n with
          | zero => intro l2_32 c_meetings_32 c_clashes_32 c_first_32 c_where_32 H locs ls hP hD hS hl hq; exact (loopN_zero hq).elim
          | succ n ih_32 =>
            intro l2_32 c_meetings_32 c_clashes_32 c_first_32 c_where_32 H locs ls hP hD hS hl hq
            obtain ⟨o_32, hf, ho1_32, ho2_32⟩ := loopN_step hq
            have hf : f_X11_layMeetings_b32 c_door c_wider c_now c_width c_wide c_delay l1_24 l2_32 c_meetings_32 c_clashes_32 c_first_32 c_where_32 = some o_32 := hf
            unfold f_X11_layMeetings_b32 at hf
            have J_156 : ∀ (l2_156j : Int32) (s1_156j : Int32) (c_meetings_156j : Int32) (c_clashes_156j : Int32) (c_first_156j : Int32) (c_where_156j : Int32) (H : Heap) (locs : List Loc) (ls : Array Slot), va_P (dC, dI) vwCl (w_X11_layMeetings cI cJ cZ h_this h_this_now h_this_width h_this_wide h_this_delay g_this_book g_this_key g_this_ahead g_this_after g_this_sight g_this_pad g_this_counts g_this_isOne g_this_ways g_this_image g_this_isKept c_rules c_sights c_signs c_reason c_acts c_meetings_156j c_clashes_156j c_first_156j c_where_156j c_door c_wider c_ordersFound c_firstOrder c_least c_leastOrder c_now c_width c_wide c_delay) H → va_D A (w_X11_layMeetings cI cJ cZ h_this h_this_now h_this_width h_this_wide h_this_delay g_this_book g_this_key g_this_ahead g_this_after g_this_sight g_this_pad g_this_counts g_this_isOne g_this_ways g_this_image g_this_isKept c_rules c_sights c_signs c_reason c_acts c_meetings_156j c_clashes_156j c_first_156j c_where_156j c_door c_wider c_ordersFound c_firstOrder c_least c_leastOrder c_now c_width c_wide c_delay) → va_S A s.heap H locs → lv_has ls 4 [(0, .ref h_this), (1, .int l1_24), (2, .int l2_156j)] → f_X11_layMeetings_j156 l2_156j c_meetings_156j c_clashes_156j c_first_156j s1_156j = some o_32 → W p l e rm_X11_layMeetings s m args below meth c H locs 0 0 Z (F0 m 156 ls [.int s1_156j, .ref h_this]) := by
              intro l2_156j s1_156j c_meetings_156j c_clashes_156j c_first_156j c_where_156j H locs ls hP hD hS hl hf
              unfold f_X11_layMeetings_j156 at hf
              refine va_put (D := (dC, dI)) (ci := 11) (v := .int s1_156j) (ty := .int) (C := RX11) (T := TX11) (N := 30) hx hb hts in_X11_layMeetings_X11 tyX11 tyX11_ok nmX11 hown hK hP hD hS 0 rfl rfl 18 (by decide) (hts _ m_X11_layMeetings_f132) (fun _ h9 => h9) rfl (by decide +kernel) rfl rfl (Nat.le_of_ble_eq_true rfl) dX11_layMeetings_156 (fun H locs hP hD hS => ?_)
              have hP : va_P (dC, dI) vwCl (w_X11_layMeetings cI cJ cZ h_this h_this_now h_this_width h_this_wide h_this_delay g_this_book g_this_key g_this_ahead g_this_after g_this_sight g_this_pad g_this_counts g_this_isOne g_this_ways g_this_image g_this_isKept c_rules c_sights c_signs c_reason c_acts c_meetings_156j c_clashes_156j c_first_156j s1_156j c_door c_wider c_ordersFound c_firstOrder c_least c_leastOrder c_now c_width c_wide c_delay) H := hP
              have hD : va_D A (w_X11_layMeetings cI cJ cZ h_this h_this_now h_this_width h_this_wide h_this_delay g_this_book g_this_key g_this_ahead g_this_after g_this_sight g_this_pad g_this_counts g_this_isOne g_this_ways g_this_image g_this_isKept c_rules c_sights c_signs c_reason c_acts c_meetings_156j c_clashes_156j c_first_156j s1_156j c_door c_wider c_ordersFound c_firstOrder c_least c_leastOrder c_now c_width c_wide c_delay) := hD
              refine lv_aload_n hx hb dX11_layMeetings_159 rfl (lv_at hl 0 rfl) ?_
              refine lv_dup hx hb dX11_layMeetings_160 rfl ?_
              refine va_get (D := (dC, dI)) (ci := 11) (v := .int c_clashes_156j) (C := RX11) (T := TX11) (N := 30) hx hb hts in_X11_layMeetings_X11 hown hK hP 0 rfl rfl 16 (by decide) (hts _ m_X11_layMeetings_f126) (fun _ h9 => h9) rfl dX11_layMeetings_161 ?_
              refine lv_iconst (v := 1) hx hb dX11_layMeetings_164 (by decide) ?_
              refine lv_iadd hx hb dX11_layMeetings_165 ?_
              refine va_put (D := (dC, dI)) (ci := 11) (v := .int (c_clashes_156j + 1)) (ty := .int) (C := RX11) (T := TX11) (N := 30) hx hb hts in_X11_layMeetings_X11 tyX11 tyX11_ok nmX11 hown hK hP hD hS 0 rfl rfl 16 (by decide) (hts _ m_X11_layMeetings_f126) (fun _ h9 => h9) rfl (by decide +kernel) rfl rfl (Nat.le_of_ble_eq_true rfl) dX11_layMeetings_166 (fun H locs hP hD hS => ?_)
              have hP : va_P (dC, dI) vwCl (w_X11_layMeetings cI cJ cZ h_this h_this_now h_this_width h_this_wide h_this_delay g_this_book g_this_key g_this_ahead g_this_after g_this_sight g_this_pad g_this_counts g_this_isOne g_this_ways g_this_image g_this_isKept c_rules c_sights c_signs c_reason c_acts c_meetings_156j (c_clashes_156j + 1) c_first_156j s1_156j c_door c_wider c_ordersFound c_firstOrder c_least c_leastOrder c_now c_width c_wide c_delay) H := hP
              have hD : va_D A (w_X11_layMeetings cI cJ cZ h_this h_this_now h_this_width h_this_wide h_this_delay g_this_book g_this_key g_this_ahead g_this_after g_this_sight g_this_pad g_this_counts g_this_isOne g_this_ways g_this_image g_this_isKept c_rules c_sights c_signs c_reason c_acts c_meetings_156j (c_clashes_156j + 1) c_first_156j s1_156j c_door c_wider c_ordersFound c_firstOrder c_least c_leastOrder c_now c_width c_wide c_delay) := hD
              refine lv_iinc (v := (l2_156j + 1)) (lv' := [(2, .int (l2_156j + 1)), (0, .ref h_this), (1, .int l1_24)]) hx hb dX11_layMeetings_169 hl (k := 2) rfl rfl (by decide) rfl (fun ls hl => ?_)
              refine lv_goto (tgt := 32) hx hb dX11_layMeetings_172 (by decide) ?_
              exact ih_32 (l2_156j + 1) c_meetings_156j (c_clashes_156j + 1) c_first_156j s1_156j H locs ls hP hD hS (lv_sub hl [1, 2, 0] rfl) (ho1_32 _ (Option.some.inj hf).symm)
            have J_132 : ∀ (l2_132j : Int32) (l3_132j : Int32) (s1_132j : Int32) (c_meetings_132j : Int32) (c_clashes_132j : Int32) (c_first_132j : Int32) (c_where_132j : Int32) (H : Heap) (locs : List Loc) (ls : Array Slot), va_P (dC, dI) vwCl (w_X11_layMeetings cI cJ cZ h_this h_this_now h_this_width h_this_wide h_this_delay g_this_book g_this_key g_this_ahead g_this_after g_this_sight g_this_pad g_this_counts g_this_isOne g_this_ways g_this_image g_this_isKept c_rules c_sights c_signs c_reason c_acts c_meetings_132j c_clashes_132j c_first_132j c_where_132j c_door c_wider c_ordersFound c_firstOrder c_least c_leastOrder c_now c_width c_wide c_delay) H → va_D A (w_X11_layMeetings cI cJ cZ h_this h_this_now h_this_width h_this_wide h_this_delay g_this_book g_this_key g_this_ahead g_this_after g_this_sight g_this_pad g_this_counts g_this_isOne g_this_ways g_this_image g_this_isKept c_rules c_sights c_signs c_reason c_acts c_meetings_132j c_clashes_132j c_first_132j c_where_132j c_door c_wider c_ordersFound c_firstOrder c_least c_leastOrder c_now c_width c_wide c_delay) → va_S A s.heap H locs → lv_has ls 4 [(0, .ref h_this), (1, .int l1_24), (2, .int l2_132j), (3, .int l3_132j)] → f_X11_layMeetings_j132 c_delay l2_132j l3_132j c_meetings_132j c_clashes_132j c_where_132j s1_132j = some o_32 → W p l e rm_X11_layMeetings s m args below meth c H locs 0 0 Z (F0 m 132 ls [.int s1_132j, .ref h_this]) := by
              intro l2_132j l3_132j s1_132j c_meetings_132j c_clashes_132j c_first_132j c_where_132j H locs ls hP hD hS hl hf
              unfold f_X11_layMeetings_j132 at hf
              refine va_put (D := (dC, dI)) (ci := 11) (v := .int s1_132j) (ty := .int) (C := RX11) (T := TX11) (N := 30) hx hb hts in_X11_layMeetings_X11 tyX11 tyX11_ok nmX11 hown hK hP hD hS 0 rfl rfl 17 (by decide) (hts _ m_X11_layMeetings_f129) (fun _ h9 => h9) rfl (by decide +kernel) rfl rfl (Nat.le_of_ble_eq_true rfl) dX11_layMeetings_132 (fun H locs hP hD hS => ?_)
              have hP : va_P (dC, dI) vwCl (w_X11_layMeetings cI cJ cZ h_this h_this_now h_this_width h_this_wide h_this_delay g_this_book g_this_key g_this_ahead g_this_after g_this_sight g_this_pad g_this_counts g_this_isOne g_this_ways g_this_image g_this_isKept c_rules c_sights c_signs c_reason c_acts c_meetings_132j c_clashes_132j s1_132j c_where_132j c_door c_wider c_ordersFound c_firstOrder c_least c_leastOrder c_now c_width c_wide c_delay) H := hP
              have hD : va_D A (w_X11_layMeetings cI cJ cZ h_this h_this_now h_this_width h_this_wide h_this_delay g_this_book g_this_key g_this_ahead g_this_after g_this_sight g_this_pad g_this_counts g_this_isOne g_this_ways g_this_image g_this_isKept c_rules c_sights c_signs c_reason c_acts c_meetings_132j c_clashes_132j s1_132j c_where_132j c_door c_wider c_ordersFound c_firstOrder c_least c_leastOrder c_now c_width c_wide c_delay) := hD
              refine lv_aload_n hx hb dX11_layMeetings_135 rfl (lv_at hl 0 rfl) ?_
              refine lv_aload_n hx hb dX11_layMeetings_136 rfl (lv_at hl 0 rfl) ?_
              refine va_get (D := (dC, dI)) (ci := 11) (v := .int c_clashes_132j) (C := RX11) (T := TX11) (N := 30) hx hb hts in_X11_layMeetings_X11 hown hK hP 0 rfl rfl 16 (by decide) (hts _ m_X11_layMeetings_f126) (fun _ h9 => h9) rfl dX11_layMeetings_137 ?_
              refine lv_if_ne (tgt := 152) hx hb dX11_layMeetings_140 (by decide) (fun k_140 => ?_) (fun k_140 => ?_)
              · have hf := ite_f hf k_140
                refine lv_aload_n hx hb dX11_layMeetings_152 rfl (lv_at hl 0 rfl) ?_
                refine va_get (D := (dC, dI)) (ci := 11) (v := .int c_where_132j) (C := RX11) (T := TX11) (N := 30) hx hb hts in_X11_layMeetings_X11 hown hK hP 0 rfl rfl 18 (by decide) (hts _ m_X11_layMeetings_f132) (fun _ h9 => h9) rfl dX11_layMeetings_153 ?_
                exact J_156 l2_132j c_where_132j c_meetings_132j c_clashes_132j s1_132j c_where_132j H locs ls hP hD hS (lv_sub hl [0, 1, 2] rfl) hf
              · have hf := ite_t hf k_140
                refine lv_aload_n hx hb dX11_layMeetings_143 rfl (lv_at hl 0 rfl) ?_
                refine lv_iload_n hx hb dX11_layMeetings_144 rfl (lv_at hl 2 rfl) ?_
                refine lv_iload_n hx hb dX11_layMeetings_145 rfl (lv_at hl 3 rfl) ?_
                obtain ⟨r_146, hv_146, hf⟩ := bd1_some hf
                refine kSi (rV (C := RX11) [.int l2_132j, .int l3_132j] [.ref h_this] S (c_X11_spot l dC dI cI cJ cZ h_this h_this_delay g_this_book h_this_now h_this_width g_this_key h_this_wide g_this_ahead g_this_after g_this_sight g_this_pad g_this_counts g_this_isOne g_this_ways g_this_image g_this_isKept H.size c_rules c_sights c_signs c_reason c_acts c_meetings_132j c_clashes_132j s1_132j c_where_132j c_door c_wider c_ordersFound c_firstOrder c_least c_leastOrder c_delay l2_132j l3_132j r_146 hv_146) (cwV 2 hts gX11_layMeetings_X11_spot rfl rfl rfl (by decide +kernel) ⟨Nat.le_of_ble_eq_true rfl, Nat.le_of_ble_eq_true rfl⟩) (va_recv hK hP (ci := 11) (q0 := 0) rfl rfl) hP hD hK hN [0, 4] rfl (by decide +kernel) rfl hl.1 rfl (Nat.le_of_ble_eq_true rfl) dX11_layMeetings_146 ⟨Nat.le_of_ble_eq_true rfl, Nat.le_of_ble_eq_true rfl⟩) ?_
                refine lv_goto (tgt := 156) hx hb dX11_layMeetings_149 (by decide) ?_
                exact J_156 l2_132j r_146 c_meetings_132j c_clashes_132j s1_132j c_where_132j H locs ls hP hD hS (lv_sub hl [0, 1, 2] rfl) hf
            refine lv_iload_n hx hb dX11_layMeetings_32 rfl (lv_at hl 2 rfl) ?_
            refine lv_aload_n hx hb dX11_layMeetings_33 rfl (lv_at hl 0 rfl) ?_
            refine va_get (D := (dC, dI)) (ci := 11) (v := .ref h_this_now) (C := RX11) (T := TX11) (N := 30) hx hb hts in_X11_layMeetings_X11 hown hK hP 0 rfl rfl 1 (by decide) (hts _ m_X11_layMeetings_f13) (fun _ h9 => h9) rfl dX11_layMeetings_34 ?_
            refine lv_bipush (v := 12) hx hb dX11_layMeetings_37 (by decide) ?_
            obtain ⟨g_39, hf⟩ := gd_some hf
            refine va_iald hx hb hK hP 1 0 rfl rfl g_39 dX11_layMeetings_39 ?_
            refine lv_icmp_ge (tgt := 175) hx hb dX11_layMeetings_40 (by decide) (fun k_40 => ?_) (fun k_40 => ?_)
            · have hf := ite_t hf k_40
              have e_32 := ho2_32 _ (Option.some.inj hf).symm
              cases e_32
              exact K_32 H locs ls hP hD hS (lv_sub hl [0, 1] rfl)
            · have hf := ite_f hf k_40
              refine lv_iload_n hx hb dX11_layMeetings_43 rfl (lv_at hl 1 rfl) ?_
              refine lv_iload_n hx hb dX11_layMeetings_44 rfl (lv_at hl 2 rfl) ?_
              refine lv_isub hx hb dX11_layMeetings_45 ?_
              refine lv_istore_n (lv' := [(3, .int (l1_24 - l2_32)), (0, .ref h_this), (1, .int l1_24), (2, .int l2_32)]) hx hb dX11_layMeetings_46 rfl hl (by decide) rfl (fun ls hl => ?_)
              refine lv_iload_n hx hb dX11_layMeetings_47 rfl (lv_at hl 0 rfl) ?_
              refine lv_iconst (v := 0) hx hb dX11_layMeetings_48 (by decide) ?_
              refine lv_aload_n hx hb dX11_layMeetings_49 rfl (lv_at hl 1 rfl) ?_
              refine va_get (D := (dC, dI)) (ci := 11) (v := .ref h_this_now) (C := RX11) (T := TX11) (N := 30) hx hb hts in_X11_layMeetings_X11 hown hK hP 0 rfl rfl 1 (by decide) (hts _ m_X11_layMeetings_f13) (fun _ h9 => h9) rfl dX11_layMeetings_50 ?_
              refine lv_bipush (v := 13) hx hb dX11_layMeetings_53 (by decide) ?_
              obtain ⟨g_55, hf⟩ := gd_some hf
              refine va_iald hx hb hK hP 1 0 rfl rfl g_55 dX11_layMeetings_55 ?_
              refine lv_iconst (v := 1) hx hb dX11_layMeetings_56 (by decide) ?_
              refine lv_isub hx hb dX11_layMeetings_57 ?_
              obtain ⟨r_58, hv_58, hf⟩ := bd1_some hf
              refine kSi (rS [.int (l1_24 - l2_32), .int 0, .int ((c_now (Int32.toNatClampNeg 13)) - 1)] [] S (c_X11_in l dC dI cI cJ cZ H.size (l1_24 - l2_32) 0 ((c_now (Int32.toNatClampNeg 13)) - 1) r_58 hv_58) (va_cwS 3 hts gX11_layMeetings_X11_in rfl rfl rfl (by decide +kernel) ⟨Nat.le_of_ble_eq_true rfl, Nat.le_of_ble_eq_true rfl⟩) hP hD hK hN [] rfl (by decide +kernel) rfl hl.1 rfl (Nat.le_of_ble_eq_true rfl) dX11_layMeetings_58 ⟨Nat.le_of_ble_eq_true rfl, Nat.le_of_ble_eq_true rfl⟩) ?_
              refine lv_if_eq (tgt := 169) hx hb dX11_layMeetings_61 (by decide) (fun k_61 => ?_) (fun k_61 => ?_)
              · have hf := ite_t hf k_61
                refine lv_iinc (v := (l2_32 + 1)) (lv' := [(2, .int (l2_32 + 1)), (3, .int (l1_24 - l2_32)), (0, .ref h_this), (1, .int l1_24)]) hx hb dX11_layMeetings_169 hl (k := 3) rfl rfl (by decide) rfl (fun ls hl => ?_)
                refine lv_goto (tgt := 32) hx hb dX11_layMeetings_172 (by decide) ?_
                exact ih_32 (l2_32 + 1) c_meetings_32 c_clashes_32 c_first_32 c_where_32 H locs ls hP hD hS (lv_sub hl [2, 3, 0] rfl) (ho1_32 _ (Option.some.inj hf).symm)
              · have hf := ite_f hf k_61
                refine lv_aload_n hx hb dX11_layMeetings_64 rfl (lv_at hl 1 rfl) ?_
                refine lv_iload_n hx hb dX11_layMeetings_65 rfl (lv_at hl 3 rfl) ?_
                refine lv_iload_n hx hb dX11_layMeetings_66 rfl (lv_at hl 0 rfl) ?_
                obtain ⟨r_67, hv_67, hf⟩ := bd1_some hf
                refine kSi (rV (C := RX11) [.int l2_32, .int (l1_24 - l2_32)] [] S (c_X11_spot l dC dI cI cJ cZ h_this h_this_delay g_this_book h_this_now h_this_width g_this_key h_this_wide g_this_ahead g_this_after g_this_sight g_this_pad g_this_counts g_this_isOne g_this_ways g_this_image g_this_isKept H.size c_rules c_sights c_signs c_reason c_acts c_meetings_32 c_clashes_32 c_first_32 c_where_32 c_door c_wider c_ordersFound c_firstOrder c_least c_leastOrder c_delay l2_32 (l1_24 - l2_32) r_67 hv_67) (cwV 2 hts gX11_layMeetings_X11_spot rfl rfl rfl (by decide +kernel) ⟨Nat.le_of_ble_eq_true rfl, Nat.le_of_ble_eq_true rfl⟩) (va_recv hK hP (ci := 11) (q0 := 0) rfl rfl) hP hD hK hN [0, 4] rfl (by decide +kernel) rfl hl.1 rfl (Nat.le_of_ble_eq_true rfl) dX11_layMeetings_67 ⟨Nat.le_of_ble_eq_true rfl, Nat.le_of_ble_eq_true rfl⟩) ?_
                refine lv_iconst (v := 0) hx hb dX11_layMeetings_70 (by decide) ?_
                refine lv_bipush (v := 32) hx hb dX11_layMeetings_71 (by decide) ?_
                obtain ⟨r_73, hv_73, hf⟩ := bd1_some hf
                refine kSi (rS [.int r_67, .int 0, .int 32] [] S (c_X11_in l dC dI cI cJ cZ H.size r_67 0 32 r_73 hv_73) (va_cwS 3 hts gX11_layMeetings_X11_in rfl rfl rfl (by decide +kernel) ⟨Nat.le_of_ble_eq_true rfl, Nat.le_of_ble_eq_true rfl⟩) hP hD hK hN [] rfl (by decide +kernel) rfl hl.1 rfl (Nat.le_of_ble_eq_true rfl) dX11_layMeetings_73 ⟨Nat.le_of_ble_eq_true rfl, Nat.le_of_ble_eq_true rfl⟩) ?_
                refine lv_if_eq (tgt := 169) hx hb dX11_layMeetings_76 (by decide) (fun k_76 => ?_) (fun k_76 => ?_)
                · have hf := ite_t hf k_76
                  refine lv_iinc (v := (l2_32 + 1)) (lv' := [(2, .int (l2_32 + 1)), (3, .int (l1_24 - l2_32)), (0, .ref h_this), (1, .int l1_24)]) hx hb dX11_layMeetings_169 hl (k := 3) rfl rfl (by decide) rfl (fun ls hl => ?_)
                  refine lv_goto (tgt := 32) hx hb dX11_layMeetings_172 (by decide) ?_
                  exact ih_32 (l2_32 + 1) c_meetings_32 c_clashes_32 c_first_32 c_where_32 H locs ls hP hD hS (lv_sub hl [2, 3, 0] rfl) (ho1_32 _ (Option.some.inj hf).symm)
                · have hf := ite_f hf k_76
                  refine lv_aload_n hx hb dX11_layMeetings_79 rfl (lv_at hl 1 rfl) ?_
                  refine lv_dup hx hb dX11_layMeetings_80 rfl ?_
                  refine va_get (D := (dC, dI)) (ci := 11) (v := .int c_meetings_32) (C := RX11) (T := TX11) (N := 30) hx hb hts in_X11_layMeetings_X11 hown hK hP 0 rfl rfl 15 (by decide) (hts _ m_X11_layMeetings_f123) (fun _ h9 => h9) rfl dX11_layMeetings_81 ?_
                  refine lv_iconst (v := 1) hx hb dX11_layMeetings_84 (by decide) ?_
                  refine lv_iadd hx hb dX11_layMeetings_85 ?_
                  refine va_put (D := (dC, dI)) (ci := 11) (v := .int (c_meetings_32 + 1)) (ty := .int) (C := RX11) (T := TX11) (N := 30) hx hb hts in_X11_layMeetings_X11 tyX11 tyX11_ok nmX11 hown hK hP hD hS 0 rfl rfl 15 (by decide) (hts _ m_X11_layMeetings_f123) (fun _ h9 => h9) rfl (by decide +kernel) rfl rfl (Nat.le_of_ble_eq_true rfl) dX11_layMeetings_86 (fun H locs hP hD hS => ?_)
                  have hP : va_P (dC, dI) vwCl (w_X11_layMeetings cI cJ cZ h_this h_this_now h_this_width h_this_wide h_this_delay g_this_book g_this_key g_this_ahead g_this_after g_this_sight g_this_pad g_this_counts g_this_isOne g_this_ways g_this_image g_this_isKept c_rules c_sights c_signs c_reason c_acts (c_meetings_32 + 1) c_clashes_32 c_first_32 c_where_32 c_door c_wider c_ordersFound c_firstOrder c_least c_leastOrder c_now c_width c_wide c_delay) H := hP
                  have hD : va_D A (w_X11_layMeetings cI cJ cZ h_this h_this_now h_this_width h_this_wide h_this_delay g_this_book g_this_key g_this_ahead g_this_after g_this_sight g_this_pad g_this_counts g_this_isOne g_this_ways g_this_image g_this_isKept c_rules c_sights c_signs c_reason c_acts (c_meetings_32 + 1) c_clashes_32 c_first_32 c_where_32 c_door c_wider c_ordersFound c_firstOrder c_least c_leastOrder c_now c_width c_wide c_delay) := hD
                  refine lv_aload_n hx hb dX11_layMeetings_89 rfl (lv_at hl 1 rfl) ?_
                  refine lv_iload_n hx hb dX11_layMeetings_90 rfl (lv_at hl 3 rfl) ?_
                  refine lv_iload_n hx hb dX11_layMeetings_91 rfl (lv_at hl 0 rfl) ?_
                  obtain ⟨r_92, hv_92, hf⟩ := bd1_some hf
                  refine kSi (rV (C := RX11) [.int l2_32, .int (l1_24 - l2_32)] [] S (c_X11_doClear l dC dI cI cJ cZ h_this h_this_now h_this_width h_this_wide h_this_delay g_this_book g_this_key g_this_ahead g_this_after g_this_sight g_this_pad g_this_counts g_this_isOne g_this_ways g_this_image g_this_isKept H.size c_rules c_sights c_signs c_reason c_acts (c_meetings_32 + 1) c_clashes_32 c_first_32 c_where_32 c_door c_wider c_ordersFound c_firstOrder c_least c_leastOrder c_now c_width c_wide c_delay l2_32 (l1_24 - l2_32) r_92 hv_92) (cwV 2 hts gX11_layMeetings_X11_doClear rfl rfl rfl (by decide +kernel) ⟨Nat.le_of_ble_eq_true rfl, Nat.le_of_ble_eq_true rfl⟩) (va_recv hK hP (ci := 11) (q0 := 0) rfl rfl) hP hD hK hN [0, 1, 2, 3, 4] rfl (by decide +kernel) rfl hl.1 rfl (Nat.le_of_ble_eq_true rfl) dX11_layMeetings_92 ⟨Nat.le_of_ble_eq_true rfl, Nat.le_of_ble_eq_true rfl⟩) ?_
                  refine lv_if_ne (tgt := 169) hx hb dX11_layMeetings_95 (by decide) (fun k_95 => ?_) (fun k_95 => ?_)
                  · have hf := ite_f hf k_95
                    refine lv_iinc (v := (l2_32 + 1)) (lv' := [(2, .int (l2_32 + 1)), (3, .int (l1_24 - l2_32)), (0, .ref h_this), (1, .int l1_24)]) hx hb dX11_layMeetings_169 hl (k := 3) rfl rfl (by decide) rfl (fun ls hl => ?_)
                    refine lv_goto (tgt := 32) hx hb dX11_layMeetings_172 (by decide) ?_
                    exact ih_32 (l2_32 + 1) (c_meetings_32 + 1) c_clashes_32 c_first_32 c_where_32 H locs ls hP hD hS (lv_sub hl [2, 3, 0] rfl) (ho1_32 _ (Option.some.inj hf).symm)
                  · have hf := ite_t hf k_95
                    refine lv_aload_n hx hb dX11_layMeetings_98 rfl (lv_at hl 1 rfl) ?_
                    refine lv_aload_n hx hb dX11_layMeetings_99 rfl (lv_at hl 1 rfl) ?_
                    refine va_get (D := (dC, dI)) (ci := 11) (v := .int c_clashes_32) (C := RX11) (T := TX11) (N := 30) hx hb hts in_X11_layMeetings_X11 hown hK hP 0 rfl rfl 16 (by decide) (hts _ m_X11_layMeetings_f126) (fun _ h9 => h9) rfl dX11_layMeetings_100 ?_
                    refine lv_if_ne (tgt := 128) hx hb dX11_layMeetings_103 (by decide) (fun k_103 => ?_) (fun k_103 => ?_)
                    · have hf := ite_f hf k_103
                      refine lv_aload_n hx hb dX11_layMeetings_128 rfl (lv_at hl 1 rfl) ?_
                      refine va_get (D := (dC, dI)) (ci := 11) (v := .int c_first_32) (C := RX11) (T := TX11) (N := 30) hx hb hts in_X11_layMeetings_X11 hown hK hP 0 rfl rfl 17 (by decide) (hts _ m_X11_layMeetings_f129) (fun _ h9 => h9) rfl dX11_layMeetings_129 ?_
                      exact J_132 l2_32 (l1_24 - l2_32) c_first_32 (c_meetings_32 + 1) c_clashes_32 c_first_32 c_where_32 H locs ls hP hD hS (lv_sub hl [1, 2, 3, 0] rfl) hf
                    · have hf := ite_t hf k_103
                      refine lv_bipush (v := 10) hx hb dX11_layMeetings_106 (by decide) ?_
                      refine lv_aload_n hx hb dX11_layMeetings_108 rfl (lv_at hl 1 rfl) ?_
                      refine va_get (D := (dC, dI)) (ci := 11) (v := .ref h_this_now) (C := RX11) (T := TX11) (N := 30) hx hb hts in_X11_layMeetings_X11 hown hK hP 0 rfl rfl 1 (by decide) (hts _ m_X11_layMeetings_f13) (fun _ h9 => h9) rfl dX11_layMeetings_109 ?_
                      refine lv_iload_n hx hb dX11_layMeetings_112 rfl (lv_at hl 3 rfl) ?_
                      obtain ⟨g_113, hf⟩ := gd_some hf
                      refine va_iald hx hb hK hP 1 0 rfl rfl g_113 dX11_layMeetings_113 ?_
                      refine lv_imul hx hb dX11_layMeetings_114 ?_
                      refine lv_aload_n hx hb dX11_layMeetings_115 rfl (lv_at hl 1 rfl) ?_
                      refine va_get (D := (dC, dI)) (ci := 11) (v := .ref h_this_now) (C := RX11) (T := TX11) (N := 30) hx hb hts in_X11_layMeetings_X11 hown hK hP 0 rfl rfl 1 (by decide) (hts _ m_X11_layMeetings_f13) (fun _ h9 => h9) rfl dX11_layMeetings_116 ?_
                      refine lv_bipush (v := 6) hx hb dX11_layMeetings_119 (by decide) ?_
                      refine lv_iload_n hx hb dX11_layMeetings_121 rfl (lv_at hl 0 rfl) ?_
                      refine lv_iadd hx hb dX11_layMeetings_122 ?_
                      obtain ⟨g_123, hf⟩ := gd_some hf
                      refine va_iald hx hb hK hP 1 0 rfl rfl g_123 dX11_layMeetings_123 ?_
                      refine lv_iadd hx hb dX11_layMeetings_124 ?_
                      refine lv_goto (tgt := 132) hx hb dX11_layMeetings_125 (by decide) ?_
                      exact J_132 l2_32 (l1_24 - l2_32) ((10 * (c_now (Int32.toNatClampNeg l2_32))) + (c_now (Int32.toNatClampNeg (6 + (l1_24 - l2_32))))) (c_meetings_32 + 1) c_clashes_32 c_first_32 c_where_32 H locs ls hP hD hS (lv_sub hl [1, 2, 3, 0] rfl) hf
        exact L_32 FU 0 c_meetings_24 c_clashes_24 c_first_24 c_where_24 H locs ls hP hD hS (lv_sub hl [1, 2, 0] rfl) hq_32
  exact L_24 FU 0 0 0 (-6) (-6) H locs ls hP hD hS (lv_sub hl [1, 0] rfl) hq_24
abbrev w_X11_plain (cI cJ cZ : ClassId) (h_this h_this_book h_this_now g_this_width g_this_key g_this_wide g_this_delay g_this_ahead g_this_after g_this_sight g_this_pad g_this_counts g_this_isOne g_this_ways g_this_image g_this_isKept : Nat) (c_rules : Int32) (c_sights : Int32) (c_signs : Int32) (c_reason : Int32) (c_acts : Int32) (c_meetings : Int32) (c_clashes : Int32) (c_first : Int32) (c_where : Int32) (c_door : Int32) (c_wider : Int32) (c_ordersFound : Int32) (c_firstOrder : Int32) (c_least : Int32) (c_leastOrder : Int32) (c_book : Nat → Int32) (c_now : Nat → Int32) : va_W := [(h_this, .inr (11, [.ref h_this_book, .ref h_this_now, .ref g_this_width, .ref g_this_key, .ref g_this_wide, .ref g_this_delay, .int c_rules, .ref g_this_ahead, .ref g_this_after, .int c_sights, .ref g_this_sight, .int c_signs, .ref g_this_pad, .int c_reason, .int c_acts, .int c_meetings, .int c_clashes, .int c_first, .int c_where, .int c_door, .int c_wider, .int c_ordersFound, .int c_firstOrder, .int c_least, .int c_leastOrder, .ref g_this_counts, .ref g_this_isOne, .ref g_this_ways, .ref g_this_image, .ref g_this_isKept])), (h_this_book, .inl (cI, 15, .inl c_book)), (h_this_now, .inl (cI, 15, .inl c_now))]
abbrev rm_X11_plain : Room := { frames := 1, cells := 0, slots := 0, locals := 21 }
theorem m_X11_plain_f111 : (.fieldLink RX11 111 "WovenRowsModel" "door" "I" : Cond) ∈ wsX11_plain := by decide +kernel
theorem in_X11_plain_X11 : ∀ w ∈ u_ws RX11 TX11 30, w ∈ wsX11_plain := by decide +kernel
theorem m_X11_plain_f114 : (.fieldLink RX11 114 "WovenRowsModel" "wider" "I" : Cond) ∈ wsX11_plain := by decide +kernel
set_option maxRecDepth 100000 in
set_option maxHeartbeats 4000000 in
theorem c_X11_plain (l : Launch) (dC : Nat → ClassId) (dI : Nat → Nat → Nat) (cI cJ cZ : ClassId) (h_this h_this_book h_this_now g_this_width g_this_key g_this_wide g_this_delay g_this_ahead g_this_after g_this_sight g_this_pad g_this_counts g_this_isOne g_this_ways g_this_image g_this_isKept : Nat) (sz : Nat) (c_rules : Int32) (c_sights : Int32) (c_signs : Int32) (c_reason : Int32) (c_acts : Int32) (c_meetings : Int32) (c_clashes : Int32) (c_first : Int32) (c_where : Int32) (c_door : Int32) (c_wider : Int32) (c_ordersFound : Int32) (c_firstOrder : Int32) (c_least : Int32) (c_leastOrder : Int32) (c_book : Nat → Int32) (c_now : Nat → Int32) (z_door : Int32) (z_wider : Int32) (z_now : Nat → Int32) (hf : f_X11_plain c_book c_now = some (z_door, z_wider, z_now)) : Met l yX11_plain wsX11_plain rm_X11_plain (va_Pc [.ref h_this] (PRE (dC, dI) (TY cI cJ cZ) sz (w_X11_plain cI cJ cZ h_this h_this_book h_this_now g_this_width g_this_key g_this_wide g_this_delay g_this_ahead g_this_after g_this_sight g_this_pad g_this_counts g_this_isOne g_this_ways g_this_image g_this_isKept c_rules c_sights c_signs c_reason c_acts c_meetings c_clashes c_first c_where c_door c_wider c_ordersFound c_firstOrder c_least c_leastOrder c_book c_now))) (va_Qv (fun _ : Unit => True) (POW (dC, dI) (va_A (w_X11_plain cI cJ cZ h_this h_this_book h_this_now g_this_width g_this_key g_this_wide g_this_delay g_this_ahead g_this_after g_this_sight g_this_pad g_this_counts g_this_isOne g_this_ways g_this_image g_this_isKept c_rules c_sights c_signs c_reason c_acts c_meetings c_clashes c_first c_where c_door c_wider c_ordersFound c_firstOrder c_least c_leastOrder c_book c_now) sz) (w_X11_plain cI cJ cZ h_this h_this_book h_this_now g_this_width g_this_key g_this_wide g_this_delay g_this_ahead g_this_after g_this_sight g_this_pad g_this_counts g_this_isOne g_this_ways g_this_image g_this_isKept c_rules c_sights c_signs c_reason c_acts c_meetings c_clashes c_first c_where z_door z_wider c_ordersFound c_firstOrder c_least c_leastOrder c_book z_now)) (va_A (w_X11_plain cI cJ cZ h_this h_this_book h_this_now g_this_width g_this_key g_this_wide g_this_delay g_this_ahead g_this_after g_this_sight g_this_pad g_this_counts g_this_isOne g_this_ways g_this_image g_this_isKept c_rules c_sights c_signs c_reason c_acts c_meetings c_clashes c_first c_where c_door c_wider c_ordersFound c_firstOrder c_least c_leastOrder c_book c_now) sz)) 0 0 (va_A (w_X11_plain cI cJ cZ h_this h_this_book h_this_now g_this_width g_this_key g_this_wide g_this_delay g_this_ahead g_this_after g_this_sight g_this_pad g_this_counts g_this_isOne g_this_ways g_this_image g_this_isKept c_rules c_sights c_signs c_reason c_acts c_meetings c_clashes c_first c_where c_door c_wider c_ordersFound c_firstOrder c_least c_leastOrder c_book c_now) sz) := by
  refine ofWv (by decide +kernel) rfl (Nat.le_of_ble_eq_true rfl) ?_
  intro p e s m args below meth c Z A ls S hP hD hK hN hA hl hret
  obtain ⟨hx, hb, hml, hown, hts⟩ := id S
  have hown : s.vm.findClass RX11 = some m.cls := hown
  have hS : va_S A s.heap s.heap [] := va_S.rf
  have hl : lv_has ls 1 [(0, .ref h_this)] := hl
  unfold f_X11_plain at hf
  refine lv_aload_n hx hb dX11_plain_0 rfl (lv_at hl 0 rfl) ?_
  obtain ⟨c_now_1, hv_1, hf⟩ := bd1_some hf
  refine kWv (rV (C := RX11) [] [] S (c_X11_asNow l dC dI cI cJ cZ h_this h_this_book h_this_now g_this_width g_this_key g_this_wide g_this_delay g_this_ahead g_this_after g_this_sight g_this_pad g_this_counts g_this_isOne g_this_ways g_this_image g_this_isKept s.heap.size c_rules c_sights c_signs c_reason c_acts c_meetings c_clashes c_first c_where c_door c_wider c_ordersFound c_firstOrder c_least c_leastOrder c_book c_now c_now_1 hv_1) (cwV 0 hts gX11_plain_X11_asNow rfl rfl rfl (by decide +kernel) ⟨Nat.le_of_ble_eq_true rfl, Nat.le_of_ble_eq_true rfl⟩) (va_recv hK hP (ci := 11) (q0 := 0) rfl rfl) hP hD hK hN [0, 1, 2] rfl (by decide +kernel) rfl hl.1 rfl (Nat.le_of_ble_eq_true rfl) dX11_plain_1 ⟨Nat.le_of_ble_eq_true rfl, Nat.le_of_ble_eq_true rfl⟩) hP hD hS hA [0, 1, 2] rfl rfl [some 0, some 1, some 2] (by decide +kernel) rfl (fun H locs hP hD hS => ?_)
  have hP : va_P (dC, dI) vwCl (w_X11_plain cI cJ cZ h_this h_this_book h_this_now g_this_width g_this_key g_this_wide g_this_delay g_this_ahead g_this_after g_this_sight g_this_pad g_this_counts g_this_isOne g_this_ways g_this_image g_this_isKept c_rules c_sights c_signs c_reason c_acts c_meetings c_clashes c_first c_where c_door c_wider c_ordersFound c_firstOrder c_least c_leastOrder c_book c_now_1) H := hP
  have hD : va_D A (w_X11_plain cI cJ cZ h_this h_this_book h_this_now g_this_width g_this_key g_this_wide g_this_delay g_this_ahead g_this_after g_this_sight g_this_pad g_this_counts g_this_isOne g_this_ways g_this_image g_this_isKept c_rules c_sights c_signs c_reason c_acts c_meetings c_clashes c_first c_where c_door c_wider c_ordersFound c_firstOrder c_least c_leastOrder c_book c_now_1) := hD
  refine lv_aload_n hx hb dX11_plain_4 rfl (lv_at hl 0 rfl) ?_
  refine lv_bipush (v := (-6)) hx hb dX11_plain_5 (by decide) ?_
  refine va_put (D := (dC, dI)) (ci := 11) (v := .int (-6)) (ty := .int) (C := RX11) (T := TX11) (N := 30) hx hb hts in_X11_plain_X11 tyX11 tyX11_ok nmX11 hown hK hP hD hS 0 rfl rfl 19 (by decide) (hts _ m_X11_plain_f111) (fun _ h9 => h9) rfl (by decide +kernel) rfl rfl (Nat.le_of_ble_eq_true rfl) dX11_plain_7 (fun H locs hP hD hS => ?_)
  have hP : va_P (dC, dI) vwCl (w_X11_plain cI cJ cZ h_this h_this_book h_this_now g_this_width g_this_key g_this_wide g_this_delay g_this_ahead g_this_after g_this_sight g_this_pad g_this_counts g_this_isOne g_this_ways g_this_image g_this_isKept c_rules c_sights c_signs c_reason c_acts c_meetings c_clashes c_first c_where (-6) c_wider c_ordersFound c_firstOrder c_least c_leastOrder c_book c_now_1) H := hP
  have hD : va_D A (w_X11_plain cI cJ cZ h_this h_this_book h_this_now g_this_width g_this_key g_this_wide g_this_delay g_this_ahead g_this_after g_this_sight g_this_pad g_this_counts g_this_isOne g_this_ways g_this_image g_this_isKept c_rules c_sights c_signs c_reason c_acts c_meetings c_clashes c_first c_where (-6) c_wider c_ordersFound c_firstOrder c_least c_leastOrder c_book c_now_1) := hD
  refine lv_aload_n hx hb dX11_plain_10 rfl (lv_at hl 0 rfl) ?_
  refine lv_iconst (v := 0) hx hb dX11_plain_11 (by decide) ?_
  refine va_put (D := (dC, dI)) (ci := 11) (v := .int 0) (ty := .int) (C := RX11) (T := TX11) (N := 30) hx hb hts in_X11_plain_X11 tyX11 tyX11_ok nmX11 hown hK hP hD hS 0 rfl rfl 20 (by decide) (hts _ m_X11_plain_f114) (fun _ h9 => h9) rfl (by decide +kernel) rfl rfl (Nat.le_of_ble_eq_true rfl) dX11_plain_12 (fun H locs hP hD hS => ?_)
  have hP : va_P (dC, dI) vwCl (w_X11_plain cI cJ cZ h_this h_this_book h_this_now g_this_width g_this_key g_this_wide g_this_delay g_this_ahead g_this_after g_this_sight g_this_pad g_this_counts g_this_isOne g_this_ways g_this_image g_this_isKept c_rules c_sights c_signs c_reason c_acts c_meetings c_clashes c_first c_where (-6) 0 c_ordersFound c_firstOrder c_least c_leastOrder c_book c_now_1) H := hP
  have hD : va_D A (w_X11_plain cI cJ cZ h_this h_this_book h_this_now g_this_width g_this_key g_this_wide g_this_delay g_this_ahead g_this_after g_this_sight g_this_pad g_this_counts g_this_isOne g_this_ways g_this_image g_this_isKept c_rules c_sights c_signs c_reason c_acts c_meetings c_clashes c_first c_where (-6) 0 c_ordersFound c_firstOrder c_least c_leastOrder c_book c_now_1) := hD
  have e_f := Option.some.inj hf
  cases e_f
  exact hret hP hD hS dX11_plain_15
abbrev w_X11_meets (cI cJ cZ : ClassId) (h_this h_this_book h_this_now h_this_width h_this_wide h_this_delay g_this_key g_this_ahead g_this_after g_this_sight g_this_pad g_this_counts g_this_isOne g_this_ways g_this_image g_this_isKept : Nat) (c_rules : Int32) (c_sights : Int32) (c_signs : Int32) (c_reason : Int32) (c_acts : Int32) (c_meetings : Int32) (c_clashes : Int32) (c_first : Int32) (c_where : Int32) (c_door : Int32) (c_wider : Int32) (c_ordersFound : Int32) (c_firstOrder : Int32) (c_least : Int32) (c_leastOrder : Int32) (c_book : Nat → Int32) (c_now : Nat → Int32) (c_width : Nat → Int32) (c_wide : Nat → Int32) (c_delay : Nat → Int32) : va_W := [(h_this, .inr (11, [.ref h_this_book, .ref h_this_now, .ref h_this_width, .ref g_this_key, .ref h_this_wide, .ref h_this_delay, .int c_rules, .ref g_this_ahead, .ref g_this_after, .int c_sights, .ref g_this_sight, .int c_signs, .ref g_this_pad, .int c_reason, .int c_acts, .int c_meetings, .int c_clashes, .int c_first, .int c_where, .int c_door, .int c_wider, .int c_ordersFound, .int c_firstOrder, .int c_least, .int c_leastOrder, .ref g_this_counts, .ref g_this_isOne, .ref g_this_ways, .ref g_this_image, .ref g_this_isKept])), (h_this_book, .inl (cI, 15, .inl c_book)), (h_this_now, .inl (cI, 15, .inl c_now)), (h_this_width, .inl (cI, 10, .inl c_width)), (h_this_wide, .inl (cI, 17, .inl c_wide)), (h_this_delay, .inl (cI, 2, .inl c_delay))]
abbrev rm_X11_meets : Room := { frames := 3, cells := 0, slots := 0, locals := 69 }
theorem m_X11_meets_f123 : (.fieldLink RX11 123 "WovenRowsModel" "meetings" "I" : Cond) ∈ wsX11_meets := by decide +kernel
theorem in_X11_meets_X11 : ∀ w ∈ u_ws RX11 TX11 30, w ∈ wsX11_meets := by decide +kernel
theorem m_X11_meets_f126 : (.fieldLink RX11 126 "WovenRowsModel" "clashes" "I" : Cond) ∈ wsX11_meets := by decide +kernel
theorem m_X11_meets_f129 : (.fieldLink RX11 129 "WovenRowsModel" "first" "I" : Cond) ∈ wsX11_meets := by decide +kernel
theorem m_X11_meets_f132 : (.fieldLink RX11 132 "WovenRowsModel" "where" "I" : Cond) ∈ wsX11_meets := by decide +kernel
set_option maxRecDepth 100000 in
set_option maxHeartbeats 4000000 in
theorem c_X11_meets (l : Launch) (dC : Nat → ClassId) (dI : Nat → Nat → Nat) (cI cJ cZ : ClassId) (h_this h_this_book h_this_now h_this_width h_this_wide h_this_delay g_this_key g_this_ahead g_this_after g_this_sight g_this_pad g_this_counts g_this_isOne g_this_ways g_this_image g_this_isKept : Nat) (sz : Nat) (c_rules : Int32) (c_sights : Int32) (c_signs : Int32) (c_reason : Int32) (c_acts : Int32) (c_meetings : Int32) (c_clashes : Int32) (c_first : Int32) (c_where : Int32) (c_door : Int32) (c_wider : Int32) (c_ordersFound : Int32) (c_firstOrder : Int32) (c_least : Int32) (c_leastOrder : Int32) (c_book : Nat → Int32) (c_now : Nat → Int32) (c_width : Nat → Int32) (c_wide : Nat → Int32) (c_delay : Nat → Int32) (l1 : Int32) (r : Int32) (z_meetings : Int32) (z_clashes : Int32) (z_first : Int32) (z_where : Int32) (z_door : Int32) (z_wider : Int32) (z_now : Nat → Int32) (hf : f_X11_meets c_meetings c_clashes c_first c_where c_door c_wider c_book c_now c_width c_wide c_delay l1 = some (r, z_meetings, z_clashes, z_first, z_where, z_door, z_wider, z_now)) : Met l yX11_meets wsX11_meets rm_X11_meets (va_Pc [.ref h_this, .int l1] (PRE (dC, dI) (TY cI cJ cZ) sz (w_X11_meets cI cJ cZ h_this h_this_book h_this_now h_this_width h_this_wide h_this_delay g_this_key g_this_ahead g_this_after g_this_sight g_this_pad g_this_counts g_this_isOne g_this_ways g_this_image g_this_isKept c_rules c_sights c_signs c_reason c_acts c_meetings c_clashes c_first c_where c_door c_wider c_ordersFound c_firstOrder c_least c_leastOrder c_book c_now c_width c_wide c_delay))) (va_Qi (fun r' (_ : Unit) => r' = r) (POW (dC, dI) (va_A (w_X11_meets cI cJ cZ h_this h_this_book h_this_now h_this_width h_this_wide h_this_delay g_this_key g_this_ahead g_this_after g_this_sight g_this_pad g_this_counts g_this_isOne g_this_ways g_this_image g_this_isKept c_rules c_sights c_signs c_reason c_acts c_meetings c_clashes c_first c_where c_door c_wider c_ordersFound c_firstOrder c_least c_leastOrder c_book c_now c_width c_wide c_delay) sz) (w_X11_meets cI cJ cZ h_this h_this_book h_this_now h_this_width h_this_wide h_this_delay g_this_key g_this_ahead g_this_after g_this_sight g_this_pad g_this_counts g_this_isOne g_this_ways g_this_image g_this_isKept c_rules c_sights c_signs c_reason c_acts z_meetings z_clashes z_first z_where z_door z_wider c_ordersFound c_firstOrder c_least c_leastOrder c_book z_now c_width c_wide c_delay)) (va_A (w_X11_meets cI cJ cZ h_this h_this_book h_this_now h_this_width h_this_wide h_this_delay g_this_key g_this_ahead g_this_after g_this_sight g_this_pad g_this_counts g_this_isOne g_this_ways g_this_image g_this_isKept c_rules c_sights c_signs c_reason c_acts c_meetings c_clashes c_first c_where c_door c_wider c_ordersFound c_firstOrder c_least c_leastOrder c_book c_now c_width c_wide c_delay) sz)) 0 0 (va_A (w_X11_meets cI cJ cZ h_this h_this_book h_this_now h_this_width h_this_wide h_this_delay g_this_key g_this_ahead g_this_after g_this_sight g_this_pad g_this_counts g_this_isOne g_this_ways g_this_image g_this_isKept c_rules c_sights c_signs c_reason c_acts c_meetings c_clashes c_first c_where c_door c_wider c_ordersFound c_firstOrder c_least c_leastOrder c_book c_now c_width c_wide c_delay) sz) := by
  refine ofWi (ty := .int) (by decide +kernel) rfl (Nat.le_of_ble_eq_true rfl) ?_
  intro p e s m args below meth c Z A ls S hP hD hK hN hA hl hret
  obtain ⟨hx, hb, hml, hown, hts⟩ := id S
  have hown : s.vm.findClass RX11 = some m.cls := hown
  have hS : va_S A s.heap s.heap [] := va_S.rf
  have hl : lv_has ls 2 [(0, .ref h_this), (1, .int l1)] := hl
  unfold f_X11_meets at hf
  refine lv_iload_n hx hb dX11_meets_0 rfl (lv_at hl 1 rfl) ?_
  refine lv_iconst (v := 0) hx hb dX11_meets_1 (by decide) ?_
  refine lv_iconst (v := 3) hx hb dX11_meets_2 (by decide) ?_
  obtain ⟨r_3, hv_3, hf⟩ := bd1_some hf
  refine kSi (rS [.int l1, .int 0, .int 3] [] S (c_X11_in l dC dI cI cJ cZ s.heap.size l1 0 3 r_3 hv_3) (va_cwS 3 hts gX11_meets_X11_in rfl rfl rfl (by decide +kernel) ⟨Nat.le_of_ble_eq_true rfl, Nat.le_of_ble_eq_true rfl⟩) hP hD hK hN [] rfl (by decide +kernel) rfl hl.1 rfl (Nat.le_of_ble_eq_true rfl) dX11_meets_3 ⟨Nat.le_of_ble_eq_true rfl, Nat.le_of_ble_eq_true rfl⟩) ?_
  refine lv_if_ne (tgt := 12) hx hb dX11_meets_6 (by decide) (fun k_6 => ?_) (fun k_6 => ?_)
  · have hf := ite_f hf k_6
    refine lv_aload_n hx hb dX11_meets_12 rfl (lv_at hl 0 rfl) ?_
    obtain ⟨c_door_13, c_wider_13, c_now_13, hv_13, hf⟩ := bd3_some hf
    refine kWv (rV (C := RX11) [] [] S (c_X11_plain l dC dI cI cJ cZ h_this h_this_book h_this_now h_this_width g_this_key h_this_wide h_this_delay g_this_ahead g_this_after g_this_sight g_this_pad g_this_counts g_this_isOne g_this_ways g_this_image g_this_isKept s.heap.size c_rules c_sights c_signs c_reason c_acts c_meetings c_clashes c_first c_where c_door c_wider c_ordersFound c_firstOrder c_least c_leastOrder c_book c_now c_door_13 c_wider_13 c_now_13 hv_13) (cwV 0 hts gX11_meets_X11_plain rfl rfl rfl (by decide +kernel) ⟨Nat.le_of_ble_eq_true rfl, Nat.le_of_ble_eq_true rfl⟩) (va_recv hK hP (ci := 11) (q0 := 0) rfl rfl) hP hD hK hN [0, 1, 2] rfl (by decide +kernel) rfl hl.1 rfl (Nat.le_of_ble_eq_true rfl) dX11_meets_13 ⟨Nat.le_of_ble_eq_true rfl, Nat.le_of_ble_eq_true rfl⟩) hP hD hS hA [0, 1, 2] rfl rfl [some 0, some 1, some 2, none, none, none] (by decide +kernel) rfl (fun H locs hP hD hS => ?_)
    have hP : va_P (dC, dI) vwCl (w_X11_meets cI cJ cZ h_this h_this_book h_this_now h_this_width h_this_wide h_this_delay g_this_key g_this_ahead g_this_after g_this_sight g_this_pad g_this_counts g_this_isOne g_this_ways g_this_image g_this_isKept c_rules c_sights c_signs c_reason c_acts c_meetings c_clashes c_first c_where c_door_13 c_wider_13 c_ordersFound c_firstOrder c_least c_leastOrder c_book c_now_13 c_width c_wide c_delay) H := hP
    have hD : va_D A (w_X11_meets cI cJ cZ h_this h_this_book h_this_now h_this_width h_this_wide h_this_delay g_this_key g_this_ahead g_this_after g_this_sight g_this_pad g_this_counts g_this_isOne g_this_ways g_this_image g_this_isKept c_rules c_sights c_signs c_reason c_acts c_meetings c_clashes c_first c_where c_door_13 c_wider_13 c_ordersFound c_firstOrder c_least c_leastOrder c_book c_now_13 c_width c_wide c_delay) := hD
    refine lv_aload_n hx hb dX11_meets_16 rfl (lv_at hl 0 rfl) ?_
    obtain ⟨c_meetings_17, c_clashes_17, c_first_17, c_where_17, hv_17, hf⟩ := bd4_some hf
    refine kWv (rV (C := RX11) [] [] S (c_X11_layMeetings l dC dI cI cJ cZ h_this h_this_now h_this_width h_this_wide h_this_delay h_this_book g_this_key g_this_ahead g_this_after g_this_sight g_this_pad g_this_counts g_this_isOne g_this_ways g_this_image g_this_isKept H.size c_rules c_sights c_signs c_reason c_acts c_meetings c_clashes c_first c_where c_door_13 c_wider_13 c_ordersFound c_firstOrder c_least c_leastOrder c_now_13 c_width c_wide c_delay c_meetings_17 c_clashes_17 c_first_17 c_where_17 hv_17) (cwV 0 hts gX11_meets_X11_layMeetings rfl rfl rfl (by decide +kernel) ⟨Nat.le_of_ble_eq_true rfl, Nat.le_of_ble_eq_true rfl⟩) (va_recv hK hP (ci := 11) (q0 := 0) rfl rfl) hP hD hK hN [0, 2, 3, 4, 5] rfl (by decide +kernel) rfl hl.1 rfl (Nat.le_of_ble_eq_true rfl) dX11_meets_17 ⟨Nat.le_of_ble_eq_true rfl, Nat.le_of_ble_eq_true rfl⟩) hP hD hS hA [0, 2, 3, 4, 5] rfl rfl [some 0, none, some 1, some 2, some 3, some 4] (by decide +kernel) rfl (fun H locs hP hD hS => ?_)
    have hP : va_P (dC, dI) vwCl (w_X11_meets cI cJ cZ h_this h_this_book h_this_now h_this_width h_this_wide h_this_delay g_this_key g_this_ahead g_this_after g_this_sight g_this_pad g_this_counts g_this_isOne g_this_ways g_this_image g_this_isKept c_rules c_sights c_signs c_reason c_acts c_meetings_17 c_clashes_17 c_first_17 c_where_17 c_door_13 c_wider_13 c_ordersFound c_firstOrder c_least c_leastOrder c_book c_now_13 c_width c_wide c_delay) H := hP
    have hD : va_D A (w_X11_meets cI cJ cZ h_this h_this_book h_this_now h_this_width h_this_wide h_this_delay g_this_key g_this_ahead g_this_after g_this_sight g_this_pad g_this_counts g_this_isOne g_this_ways g_this_image g_this_isKept c_rules c_sights c_signs c_reason c_acts c_meetings_17 c_clashes_17 c_first_17 c_where_17 c_door_13 c_wider_13 c_ordersFound c_firstOrder c_least c_leastOrder c_book c_now_13 c_width c_wide c_delay) := hD
    refine lv_iload_n hx hb dX11_meets_20 rfl (lv_at hl 1 rfl) ?_
    refine lv_if_ne (tgt := 31) hx hb dX11_meets_21 (by decide) (fun k_21 => ?_) (fun k_21 => ?_)
    · have hf := ite_f hf k_21
      refine lv_iload_n hx hb dX11_meets_31 rfl (lv_at hl 1 rfl) ?_
      refine lv_iconst (v := 1) hx hb dX11_meets_32 (by decide) ?_
      refine lv_icmp_ne (tgt := 43) hx hb dX11_meets_33 (by decide) (fun k_33 => ?_) (fun k_33 => ?_)
      · have hf := ite_f hf k_33
        refine lv_iload_n hx hb dX11_meets_43 rfl (lv_at hl 1 rfl) ?_
        refine lv_iconst (v := 2) hx hb dX11_meets_44 (by decide) ?_
        refine lv_icmp_ne (tgt := 55) hx hb dX11_meets_45 (by decide) (fun k_45 => ?_) (fun k_45 => ?_)
        · have hf := ite_f hf k_45
          refine lv_aload_n hx hb dX11_meets_55 rfl (lv_at hl 0 rfl) ?_
          refine va_get (D := (dC, dI)) (ci := 11) (v := .int c_where_17) (C := RX11) (T := TX11) (N := 30) hx hb hts in_X11_meets_X11 hown hK hP 0 rfl rfl 18 (by decide) (hts _ m_X11_meets_f132) (fun _ h9 => h9) rfl dX11_meets_56 ?_
          have e_f := Option.some.inj hf
          cases e_f
          exact hret rfl hP hD hS dX11_meets_59
        · have hf := ite_t hf k_45
          refine lv_aload_n hx hb dX11_meets_48 rfl (lv_at hl 0 rfl) ?_
          refine va_get (D := (dC, dI)) (ci := 11) (v := .int c_first_17) (C := RX11) (T := TX11) (N := 30) hx hb hts in_X11_meets_X11 hown hK hP 0 rfl rfl 17 (by decide) (hts _ m_X11_meets_f129) (fun _ h9 => h9) rfl dX11_meets_49 ?_
          refine lv_goto (tgt := 59) hx hb dX11_meets_52 (by decide) ?_
          have e_f := Option.some.inj hf
          cases e_f
          exact hret rfl hP hD hS dX11_meets_59
      · have hf := ite_t hf k_33
        refine lv_aload_n hx hb dX11_meets_36 rfl (lv_at hl 0 rfl) ?_
        refine va_get (D := (dC, dI)) (ci := 11) (v := .int c_clashes_17) (C := RX11) (T := TX11) (N := 30) hx hb hts in_X11_meets_X11 hown hK hP 0 rfl rfl 16 (by decide) (hts _ m_X11_meets_f126) (fun _ h9 => h9) rfl dX11_meets_37 ?_
        refine lv_goto (tgt := 59) hx hb dX11_meets_40 (by decide) ?_
        have e_f := Option.some.inj hf
        cases e_f
        exact hret rfl hP hD hS dX11_meets_59
    · have hf := ite_t hf k_21
      refine lv_aload_n hx hb dX11_meets_24 rfl (lv_at hl 0 rfl) ?_
      refine va_get (D := (dC, dI)) (ci := 11) (v := .int c_meetings_17) (C := RX11) (T := TX11) (N := 30) hx hb hts in_X11_meets_X11 hown hK hP 0 rfl rfl 15 (by decide) (hts _ m_X11_meets_f123) (fun _ h9 => h9) rfl dX11_meets_25 ?_
      refine lv_goto (tgt := 59) hx hb dX11_meets_28 (by decide) ?_
      have e_f := Option.some.inj hf
      cases e_f
      exact hret rfl hP hD hS dX11_meets_59
  · have hf := ite_t hf k_6
    refine lv_bipush (v := (-2)) hx hb dX11_meets_9 (by decide) ?_
    have e_f := Option.some.inj hf
    cases e_f
    exact hret rfl hP hD hS dX11_meets_11
abbrev w_X11_runs (cI cJ cZ : ClassId) (h_this h_this_book h_this_delay g_this_now g_this_width g_this_key g_this_wide g_this_ahead g_this_after g_this_sight g_this_pad g_this_counts g_this_isOne g_this_ways g_this_image g_this_isKept : Nat) (c_rules : Int32) (c_sights : Int32) (c_signs : Int32) (c_reason : Int32) (c_acts : Int32) (c_meetings : Int32) (c_clashes : Int32) (c_first : Int32) (c_where : Int32) (c_door : Int32) (c_wider : Int32) (c_ordersFound : Int32) (c_firstOrder : Int32) (c_least : Int32) (c_leastOrder : Int32) (c_book : Nat → Int32) (c_delay : Nat → Int32) : va_W := [(h_this, .inr (11, [.ref h_this_book, .ref g_this_now, .ref g_this_width, .ref g_this_key, .ref g_this_wide, .ref h_this_delay, .int c_rules, .ref g_this_ahead, .ref g_this_after, .int c_sights, .ref g_this_sight, .int c_signs, .ref g_this_pad, .int c_reason, .int c_acts, .int c_meetings, .int c_clashes, .int c_first, .int c_where, .int c_door, .int c_wider, .int c_ordersFound, .int c_firstOrder, .int c_least, .int c_leastOrder, .ref g_this_counts, .ref g_this_isOne, .ref g_this_ways, .ref g_this_image, .ref g_this_isKept])), (h_this_book, .inl (cI, 15, .inl c_book)), (h_this_delay, .inl (cI, 2, .inl c_delay))]
abbrev rm_X11_runs : Room := { frames := 0, cells := 0, slots := 0, locals := 0 }
theorem m_X11_runs_f7 : (.fieldLink RX11 7 "WovenRowsModel" "book" "[I" : Cond) ∈ wsX11_runs := by decide +kernel
theorem in_X11_runs_X11 : ∀ w ∈ u_ws RX11 TX11 30, w ∈ wsX11_runs := by decide +kernel
theorem m_X11_runs_f25 : (.fieldLink RX11 25 "WovenRowsModel" "delay" "[I" : Cond) ∈ wsX11_runs := by decide +kernel
set_option maxRecDepth 100000 in
set_option maxHeartbeats 4000000 in
theorem c_X11_runs (l : Launch) (dC : Nat → ClassId) (dI : Nat → Nat → Nat) (cI cJ cZ : ClassId) (h_this h_this_book h_this_delay g_this_now g_this_width g_this_key g_this_wide g_this_ahead g_this_after g_this_sight g_this_pad g_this_counts g_this_isOne g_this_ways g_this_image g_this_isKept : Nat) (sz : Nat) (c_rules : Int32) (c_sights : Int32) (c_signs : Int32) (c_reason : Int32) (c_acts : Int32) (c_meetings : Int32) (c_clashes : Int32) (c_first : Int32) (c_where : Int32) (c_door : Int32) (c_wider : Int32) (c_ordersFound : Int32) (c_firstOrder : Int32) (c_least : Int32) (c_leastOrder : Int32) (c_book : Nat → Int32) (c_delay : Nat → Int32) (r : Int32) (hf : f_X11_runs c_book c_delay = some r) : Met l yX11_runs wsX11_runs rm_X11_runs (va_Pc [.ref h_this] (PRE (dC, dI) (TY cI cJ cZ) sz (w_X11_runs cI cJ cZ h_this h_this_book h_this_delay g_this_now g_this_width g_this_key g_this_wide g_this_ahead g_this_after g_this_sight g_this_pad g_this_counts g_this_isOne g_this_ways g_this_image g_this_isKept c_rules c_sights c_signs c_reason c_acts c_meetings c_clashes c_first c_where c_door c_wider c_ordersFound c_firstOrder c_least c_leastOrder c_book c_delay))) (vp_Si (fun r' => r' = r)) 0 0 (fun _ => False) := by
  refine ofSi (ty := .int) (by decide +kernel) rfl (Nat.le_of_ble_eq_true rfl) ?_
  intro p e s m args below meth c Z ls S hP hD hK hN hl hret
  obtain ⟨hx, hb, hml, hown, hts⟩ := id S
  have hown : s.vm.findClass RX11 = some m.cls := hown
  have hl : lv_has ls 4 [(0, .ref h_this)] := hl
  unfold f_X11_runs at hf
  refine lv_iconst (v := 0) hx hb dX11_runs_0 (by decide) ?_
  refine lv_istore_n (lv' := [(1, .int 0), (0, .ref h_this)]) hx hb dX11_runs_1 rfl hl (by decide) rfl (fun ls hl => ?_)
  refine lv_iconst (v := 0) hx hb dX11_runs_2 (by decide) ?_
  refine lv_istore_n (lv' := [(2, .int 0), (1, .int 0), (0, .ref h_this)]) hx hb dX11_runs_3 rfl hl (by decide) rfl (fun ls hl => ?_)
  obtain ⟨l1_4x, l2_4x, hq_4, hf⟩ := bd2_some hf
  have K_4 : ∀ (ls : Array Slot), lv_has ls 4 [(1, .int l1_4x)] → W p l e rm_X11_runs s m args below meth c s.heap [] 0 0 Z (F0 m 62 ls []) := by
    intro ls hl
    refine lv_iload_n hx hb dX11_runs_62 rfl (lv_at hl 0 rfl) ?_
    have e_f := Option.some.inj hf
    cases e_f
    exact hret rfl dX11_runs_63
  have L_4 : ∀ (n : Nat) (l1_4 : Int32) (l2_4 : Int32) (ls : Array Slot), lv_has ls 4 [(0, .ref h_this), (1, .int l1_4), (2, .int l2_4)] → loopN (fun (q : Int32 × Int32) => f_X11_runs_b4 c_book c_delay q.1 q.2) n (l1_4, l2_4) = some (l1_4x, l2_4x) → W p l e rm_X11_runs s m args below meth c s.heap [] 0 0 Z (F0 m 4 ls []) := by
    intro n
    induction n with
    | zero => intro l1_4 l2_4 ls hl hq; exact (loopN_zero hq).elim
    | succ n ih_4 =>
      intro l1_4 l2_4 ls hl hq
      obtain ⟨o_4, hf, ho1_4, ho2_4⟩ := loopN_step hq
      have hf : f_X11_runs_b4 c_book c_delay l1_4 l2_4 = some o_4 := hf
      unfold f_X11_runs_b4 at hf
      have J_55 : ∀ (l2_55j : Int32) (s0_55j : Int32) (ls : Array Slot), lv_has ls 4 [(0, .ref h_this), (2, .int l2_55j)] → f_X11_runs_j55 l2_55j s0_55j = some o_4 → W p l e rm_X11_runs s m args below meth c s.heap [] 0 0 Z (F0 m 55 ls [.int s0_55j]) := by
        intro l2_55j s0_55j ls hl hf
        unfold f_X11_runs_j55 at hf
        refine lv_istore_n (lv' := [(1, .int s0_55j), (0, .ref h_this), (2, .int l2_55j)]) hx hb dX11_runs_55 rfl hl (by decide) rfl (fun ls hl => ?_)
        refine lv_iinc (v := (l2_55j + 1)) (lv' := [(2, .int (l2_55j + 1)), (1, .int s0_55j), (0, .ref h_this)]) hx hb dX11_runs_56 hl (k := 2) rfl rfl (by decide) rfl (fun ls hl => ?_)
        refine lv_goto (tgt := 4) hx hb dX11_runs_59 (by decide) ?_
        exact ih_4 s0_55j (l2_55j + 1) ls (lv_sub hl [2, 1, 0] rfl) (ho1_4 _ (Option.some.inj hf).symm)
      have J_44 : ∀ (l1_44j : Int32) (l2_44j : Int32) (s0_44j : Int32) (ls : Array Slot), lv_has ls 4 [(0, .ref h_this), (1, .int l1_44j), (2, .int l2_44j)] → f_X11_runs_j44 l1_44j l2_44j s0_44j = some o_4 → W p l e rm_X11_runs s m args below meth c s.heap [] 0 0 Z (F0 m 44 ls [.int s0_44j]) := by
        intro l1_44j l2_44j s0_44j ls hl hf
        unfold f_X11_runs_j44 at hf
        refine lv_istore_n (lv' := [(3, .int s0_44j), (0, .ref h_this), (1, .int l1_44j), (2, .int l2_44j)]) hx hb dX11_runs_44 rfl hl (by decide) rfl (fun ls hl => ?_)
        refine lv_iload_n hx hb dX11_runs_45 rfl (lv_at hl 0 rfl) ?_
        refine lv_iload_n hx hb dX11_runs_46 rfl (lv_at hl 2 rfl) ?_
        refine lv_icmp_le (tgt := 54) hx hb dX11_runs_47 (by decide) (fun k_47 => ?_) (fun k_47 => ?_)
        · have hf := ite_t hf k_47
          refine lv_iload_n hx hb dX11_runs_54 rfl (lv_at hl 2 rfl) ?_
          exact J_55 l2_44j l1_44j ls (lv_sub hl [1, 3] rfl) hf
        · have hf := ite_f hf k_47
          refine lv_iload_n hx hb dX11_runs_50 rfl (lv_at hl 0 rfl) ?_
          refine lv_goto (tgt := 55) hx hb dX11_runs_51 (by decide) ?_
          exact J_55 l2_44j s0_44j ls (lv_sub hl [1, 3] rfl) hf
      refine lv_iload_n hx hb dX11_runs_4 rfl (lv_at hl 2 rfl) ?_
      refine lv_iconst (v := 2) hx hb dX11_runs_5 (by decide) ?_
      refine lv_icmp_ge (tgt := 62) hx hb dX11_runs_6 (by decide) (fun k_6 => ?_) (fun k_6 => ?_)
      · have hf := ite_t hf k_6
        have e_4 := ho2_4 _ (Option.some.inj hf).symm
        cases e_4
        exact K_4 ls (lv_sub hl [1] rfl)
      · have hf := ite_f hf k_6
        refine lv_aload_n hx hb dX11_runs_9 rfl (lv_at hl 0 rfl) ?_
        refine va_get (D := (dC, dI)) (ci := 11) (v := .ref h_this_book) (C := RX11) (T := TX11) (N := 30) hx hb hts in_X11_runs_X11 hown hK hP 0 rfl rfl 0 (by decide) (hts _ m_X11_runs_f7) (fun _ h9 => h9) rfl dX11_runs_10 ?_
        refine lv_bipush (v := 12) hx hb dX11_runs_13 (by decide) ?_
        refine lv_iload_n hx hb dX11_runs_15 rfl (lv_at hl 2 rfl) ?_
        refine lv_iadd hx hb dX11_runs_16 ?_
        obtain ⟨g_17, hf⟩ := gd_some hf
        refine va_iald hx hb hK hP 1 0 rfl rfl g_17 dX11_runs_17 ?_
        refine lv_if_ne (tgt := 25) hx hb dX11_runs_18 (by decide) (fun k_18 => ?_) (fun k_18 => ?_)
        · have hf := ite_f hf k_18
          refine lv_aload_n hx hb dX11_runs_25 rfl (lv_at hl 0 rfl) ?_
          refine va_get (D := (dC, dI)) (ci := 11) (v := .ref h_this_delay) (C := RX11) (T := TX11) (N := 30) hx hb hts in_X11_runs_X11 hown hK hP 0 rfl rfl 5 (by decide) (hts _ m_X11_runs_f25) (fun _ h9 => h9) rfl dX11_runs_26 ?_
          refine lv_iload_n hx hb dX11_runs_29 rfl (lv_at hl 2 rfl) ?_
          obtain ⟨g_30, hf⟩ := gd_some hf
          refine va_iald hx hb hK hP 2 0 rfl rfl g_30 dX11_runs_30 ?_
          refine lv_aload_n hx hb dX11_runs_31 rfl (lv_at hl 0 rfl) ?_
          refine va_get (D := (dC, dI)) (ci := 11) (v := .ref h_this_book) (C := RX11) (T := TX11) (N := 30) hx hb hts in_X11_runs_X11 hown hK hP 0 rfl rfl 0 (by decide) (hts _ m_X11_runs_f7) (fun _ h9 => h9) rfl dX11_runs_32 ?_
          refine lv_bipush (v := 12) hx hb dX11_runs_35 (by decide) ?_
          refine lv_iload_n hx hb dX11_runs_37 rfl (lv_at hl 2 rfl) ?_
          refine lv_iadd hx hb dX11_runs_38 ?_
          obtain ⟨g_39, hf⟩ := gd_some hf
          refine va_iald hx hb hK hP 1 0 rfl rfl g_39 dX11_runs_39 ?_
          refine lv_iadd hx hb dX11_runs_40 ?_
          refine lv_bipush (v := 16) hx hb dX11_runs_41 (by decide) ?_
          refine lv_iadd hx hb dX11_runs_43 ?_
          exact J_44 l1_4 l2_4 (((c_delay (Int32.toNatClampNeg l2_4)) + (c_book (Int32.toNatClampNeg (12 + l2_4)))) + 16) ls (lv_sub hl [0, 1, 2] rfl) hf
        · have hf := ite_t hf k_18
          refine lv_iconst (v := 0) hx hb dX11_runs_21 (by decide) ?_
          refine lv_goto (tgt := 44) hx hb dX11_runs_22 (by decide) ?_
          exact J_44 l1_4 l2_4 0 ls (lv_sub hl [0, 1, 2] rfl) hf
  exact L_4 FU 0 0 ls (lv_sub hl [2, 1, 0] rfl) hq_4
abbrev w_X11_keepsRules (cI cJ cZ : ClassId) (h_this h_this_now h_this_ahead h_this_after g_this_book g_this_width g_this_key g_this_wide g_this_delay g_this_sight g_this_pad g_this_counts g_this_isOne g_this_ways g_this_image g_this_isKept : Nat) (c_rules : Int32) (c_sights : Int32) (c_signs : Int32) (c_reason : Int32) (c_acts : Int32) (c_meetings : Int32) (c_clashes : Int32) (c_first : Int32) (c_where : Int32) (c_door : Int32) (c_wider : Int32) (c_ordersFound : Int32) (c_firstOrder : Int32) (c_least : Int32) (c_leastOrder : Int32) (c_now : Nat → Int32) (c_ahead : Nat → Int32) (c_after : Nat → Int32) : va_W := [(h_this, .inr (11, [.ref g_this_book, .ref h_this_now, .ref g_this_width, .ref g_this_key, .ref g_this_wide, .ref g_this_delay, .int c_rules, .ref h_this_ahead, .ref h_this_after, .int c_sights, .ref g_this_sight, .int c_signs, .ref g_this_pad, .int c_reason, .int c_acts, .int c_meetings, .int c_clashes, .int c_first, .int c_where, .int c_door, .int c_wider, .int c_ordersFound, .int c_firstOrder, .int c_least, .int c_leastOrder, .ref g_this_counts, .ref g_this_isOne, .ref g_this_ways, .ref g_this_image, .ref g_this_isKept])), (h_this_now, .inl (cI, 15, .inl c_now)), (h_this_ahead, .inl (cI, 10, .inl c_ahead)), (h_this_after, .inl (cI, 10, .inl c_after))]
abbrev rm_X11_keepsRules : Room := { frames := 1, cells := 0, slots := 0, locals := 23 }
theorem m_X11_keepsRules_f145 : (.fieldLink RX11 145 "WovenRowsModel" "rules" "I" : Cond) ∈ wsX11_keepsRules := by decide +kernel
theorem in_X11_keepsRules_X11 : ∀ w ∈ u_ws RX11 TX11 30, w ∈ wsX11_keepsRules := by decide +kernel
theorem m_X11_keepsRules_f28 : (.fieldLink RX11 28 "WovenRowsModel" "ahead" "[I" : Cond) ∈ wsX11_keepsRules := by decide +kernel
theorem m_X11_keepsRules_f31 : (.fieldLink RX11 31 "WovenRowsModel" "after" "[I" : Cond) ∈ wsX11_keepsRules := by decide +kernel
set_option maxRecDepth 100000 in
set_option maxHeartbeats 4000000 in
theorem c_X11_keepsRules (l : Launch) (dC : Nat → ClassId) (dI : Nat → Nat → Nat) (cI cJ cZ : ClassId) (h_this h_this_now h_this_ahead h_this_after g_this_book g_this_width g_this_key g_this_wide g_this_delay g_this_sight g_this_pad g_this_counts g_this_isOne g_this_ways g_this_image g_this_isKept : Nat) (sz : Nat) (c_rules : Int32) (c_sights : Int32) (c_signs : Int32) (c_reason : Int32) (c_acts : Int32) (c_meetings : Int32) (c_clashes : Int32) (c_first : Int32) (c_where : Int32) (c_door : Int32) (c_wider : Int32) (c_ordersFound : Int32) (c_firstOrder : Int32) (c_least : Int32) (c_leastOrder : Int32) (c_now : Nat → Int32) (c_ahead : Nat → Int32) (c_after : Nat → Int32) (l1 : Int32) (r : Int32) (hf : f_X11_keepsRules c_rules c_now c_ahead c_after l1 = some r) : Met l yX11_keepsRules wsX11_keepsRules rm_X11_keepsRules (va_Pc [.ref h_this, .int l1] (PRE (dC, dI) (TY cI cJ cZ) sz (w_X11_keepsRules cI cJ cZ h_this h_this_now h_this_ahead h_this_after g_this_book g_this_width g_this_key g_this_wide g_this_delay g_this_sight g_this_pad g_this_counts g_this_isOne g_this_ways g_this_image g_this_isKept c_rules c_sights c_signs c_reason c_acts c_meetings c_clashes c_first c_where c_door c_wider c_ordersFound c_firstOrder c_least c_leastOrder c_now c_ahead c_after))) (vp_Si (fun r' => r' = r)) 0 0 (fun _ => False) := by
  refine ofSi (ty := .boolean) (by decide +kernel) rfl (Nat.le_of_ble_eq_true rfl) ?_
  intro p e s m args below meth c Z ls S hP hD hK hN hl hret
  obtain ⟨hx, hb, hml, hown, hts⟩ := id S
  have hown : s.vm.findClass RX11 = some m.cls := hown
  have hl : lv_has ls 6 [(0, .ref h_this), (1, .int l1)] := hl
  unfold f_X11_keepsRules at hf
  refine lv_iconst (v := 1) hx hb dX11_keepsRules_0 (by decide) ?_
  refine lv_istore_n (lv' := [(2, .int 1), (0, .ref h_this), (1, .int l1)]) hx hb dX11_keepsRules_1 rfl hl (by decide) rfl (fun ls hl => ?_)
  refine lv_iconst (v := 0) hx hb dX11_keepsRules_2 (by decide) ?_
  refine lv_istore_n (lv' := [(3, .int 0), (2, .int 1), (0, .ref h_this), (1, .int l1)]) hx hb dX11_keepsRules_3 rfl hl (by decide) rfl (fun ls hl => ?_)
  obtain ⟨l2_4x, l3_4x, hq_4, hf⟩ := bd2_some hf
  have K_4 : ∀ (ls : Array Slot), lv_has ls 6 [(2, .int l2_4x)] → W p l e rm_X11_keepsRules s m args below meth c s.heap [] 0 0 Z (F0 m 87 ls []) := by
    intro ls hl
    refine lv_iload_n hx hb dX11_keepsRules_87 rfl (lv_at hl 0 rfl) ?_
    obtain ⟨hb_88, hf⟩ := gb_some hf
    have e_f := Option.some.inj hf
    cases e_f
    exact hret (nar_bool hb_88) dX11_keepsRules_88
  have L_4 : ∀ (n : Nat) (l2_4 : Int32) (l3_4 : Int32) (ls : Array Slot), lv_has ls 6 [(0, .ref h_this), (1, .int l1), (2, .int l2_4), (3, .int l3_4)] → loopN (fun (q : Int32 × Int32) => f_X11_keepsRules_b4 c_rules c_now c_ahead c_after l1 q.1 q.2) n (l2_4, l3_4) = some (l2_4x, l3_4x) → W p l e rm_X11_keepsRules s m args below meth c s.heap [] 0 0 Z (F0 m 4 ls []) := by
    intro n
    induction n with
    | zero => intro l2_4 l3_4 ls hl hq; exact (loopN_zero hq).elim
    | succ n ih_4 =>
      intro l2_4 l3_4 ls hl hq
      obtain ⟨o_4, hf, ho1_4, ho2_4⟩ := loopN_step hq
      have hf : f_X11_keepsRules_b4 c_rules c_now c_ahead c_after l1 l2_4 l3_4 = some o_4 := hf
      unfold f_X11_keepsRules_b4 at hf
      have J_80 : ∀ (l3_80j : Int32) (s0_80j : Int32) (ls : Array Slot), lv_has ls 6 [(0, .ref h_this), (1, .int l1), (3, .int l3_80j)] → f_X11_keepsRules_j80 l3_80j s0_80j = some o_4 → W p l e rm_X11_keepsRules s m args below meth c s.heap [] 0 0 Z (F0 m 80 ls [.int s0_80j]) := by
        intro l3_80j s0_80j ls hl hf
        unfold f_X11_keepsRules_j80 at hf
        refine lv_istore_n (lv' := [(2, .int s0_80j), (0, .ref h_this), (1, .int l1), (3, .int l3_80j)]) hx hb dX11_keepsRules_80 rfl hl (by decide) rfl (fun ls hl => ?_)
        refine lv_iinc (v := (l3_80j + 1)) (lv' := [(3, .int (l3_80j + 1)), (2, .int s0_80j), (0, .ref h_this), (1, .int l1)]) hx hb dX11_keepsRules_81 hl (k := 3) rfl rfl (by decide) rfl (fun ls hl => ?_)
        refine lv_goto (tgt := 4) hx hb dX11_keepsRules_84 (by decide) ?_
        exact ih_4 s0_80j (l3_80j + 1) ls (lv_sub hl [2, 3, 1, 0] rfl) (ho1_4 _ (Option.some.inj hf).symm)
      have J_79 : ∀ (l3_79j : Int32) (ls : Array Slot), lv_has ls 6 [(0, .ref h_this), (1, .int l1), (3, .int l3_79j)] → f_X11_keepsRules_j79 l3_79j = some o_4 → W p l e rm_X11_keepsRules s m args below meth c s.heap [] 0 0 Z (F0 m 79 ls []) := by
        intro l3_79j ls hl hf
        unfold f_X11_keepsRules_j79 at hf
        refine lv_iconst (v := 0) hx hb dX11_keepsRules_79 (by decide) ?_
        exact J_80 l3_79j 0 ls (lv_sub hl [0, 1, 2] rfl) hf
      have J_75 : ∀ (l3_75j : Int32) (ls : Array Slot), lv_has ls 6 [(0, .ref h_this), (1, .int l1), (3, .int l3_75j)] → f_X11_keepsRules_j75 l3_75j = some o_4 → W p l e rm_X11_keepsRules s m args below meth c s.heap [] 0 0 Z (F0 m 75 ls []) := by
        intro l3_75j ls hl hf
        unfold f_X11_keepsRules_j75 at hf
        refine lv_iconst (v := 1) hx hb dX11_keepsRules_75 (by decide) ?_
        refine lv_goto (tgt := 80) hx hb dX11_keepsRules_76 (by decide) ?_
        exact J_80 l3_75j 1 ls (lv_sub hl [0, 1, 2] rfl) hf
      refine lv_iload_n hx hb dX11_keepsRules_4 rfl (lv_at hl 3 rfl) ?_
      refine lv_aload_n hx hb dX11_keepsRules_5 rfl (lv_at hl 0 rfl) ?_
      refine va_get (D := (dC, dI)) (ci := 11) (v := .int c_rules) (C := RX11) (T := TX11) (N := 30) hx hb hts in_X11_keepsRules_X11 hown hK hP 0 rfl rfl 6 (by decide) (hts _ m_X11_keepsRules_f145) (fun _ h9 => h9) rfl dX11_keepsRules_6 ?_
      refine lv_icmp_ge (tgt := 87) hx hb dX11_keepsRules_9 (by decide) (fun k_9 => ?_) (fun k_9 => ?_)
      · have hf := ite_t hf k_9
        have e_4 := ho2_4 _ (Option.some.inj hf).symm
        cases e_4
        exact K_4 ls (lv_sub hl [2] rfl)
      · have hf := ite_f hf k_9
        refine lv_aload_n hx hb dX11_keepsRules_12 rfl (lv_at hl 0 rfl) ?_
        refine lv_aload_n hx hb dX11_keepsRules_13 rfl (lv_at hl 0 rfl) ?_
        refine va_get (D := (dC, dI)) (ci := 11) (v := .ref h_this_ahead) (C := RX11) (T := TX11) (N := 30) hx hb hts in_X11_keepsRules_X11 hown hK hP 0 rfl rfl 7 (by decide) (hts _ m_X11_keepsRules_f28) (fun _ h9 => h9) rfl dX11_keepsRules_14 ?_
        refine lv_iload_n hx hb dX11_keepsRules_17 rfl (lv_at hl 3 rfl) ?_
        obtain ⟨g_18, hf⟩ := gd_some hf
        refine va_iald hx hb hK hP 2 0 rfl rfl g_18 dX11_keepsRules_18 ?_
        obtain ⟨r_19, hv_19, hf⟩ := bd1_some hf
        refine kSi (rV (C := RX11) [.int (c_ahead (Int32.toNatClampNeg l3_4))] [] S (c_X11_spotOf l dC dI cI cJ cZ h_this h_this_now g_this_book g_this_width g_this_key g_this_wide g_this_delay h_this_ahead h_this_after g_this_sight g_this_pad g_this_counts g_this_isOne g_this_ways g_this_image g_this_isKept s.heap.size c_rules c_sights c_signs c_reason c_acts c_meetings c_clashes c_first c_where c_door c_wider c_ordersFound c_firstOrder c_least c_leastOrder c_now (c_ahead (Int32.toNatClampNeg l3_4)) r_19 hv_19) (cwV 1 hts gX11_keepsRules_X11_spotOf rfl rfl rfl (by decide +kernel) ⟨Nat.le_of_ble_eq_true rfl, Nat.le_of_ble_eq_true rfl⟩) (va_recv hK hP (ci := 11) (q0 := 0) rfl rfl) hP hD hK hN [0, 1] rfl (by decide +kernel) rfl hl.1 rfl (Nat.le_of_ble_eq_true rfl) dX11_keepsRules_19 ⟨Nat.le_of_ble_eq_true rfl, Nat.le_of_ble_eq_true rfl⟩) ?_
        refine lv_istore (lv' := [(4, .int r_19), (0, .ref h_this), (1, .int l1), (2, .int l2_4), (3, .int l3_4)]) hx hb dX11_keepsRules_22 hl (by decide) rfl (fun ls hl => ?_)
        refine lv_aload_n hx hb dX11_keepsRules_24 rfl (lv_at hl 1 rfl) ?_
        refine lv_aload_n hx hb dX11_keepsRules_25 rfl (lv_at hl 1 rfl) ?_
        refine va_get (D := (dC, dI)) (ci := 11) (v := .ref h_this_after) (C := RX11) (T := TX11) (N := 30) hx hb hts in_X11_keepsRules_X11 hown hK hP 0 rfl rfl 8 (by decide) (hts _ m_X11_keepsRules_f31) (fun _ h9 => h9) rfl dX11_keepsRules_26 ?_
        refine lv_iload_n hx hb dX11_keepsRules_29 rfl (lv_at hl 4 rfl) ?_
        obtain ⟨g_30, hf⟩ := gd_some hf
        refine va_iald hx hb hK hP 3 0 rfl rfl g_30 dX11_keepsRules_30 ?_
        obtain ⟨r_31, hv_31, hf⟩ := bd1_some hf
        refine kSi (rV (C := RX11) [.int (c_after (Int32.toNatClampNeg l3_4))] [] S (c_X11_spotOf l dC dI cI cJ cZ h_this h_this_now g_this_book g_this_width g_this_key g_this_wide g_this_delay h_this_ahead h_this_after g_this_sight g_this_pad g_this_counts g_this_isOne g_this_ways g_this_image g_this_isKept s.heap.size c_rules c_sights c_signs c_reason c_acts c_meetings c_clashes c_first c_where c_door c_wider c_ordersFound c_firstOrder c_least c_leastOrder c_now (c_after (Int32.toNatClampNeg l3_4)) r_31 hv_31) (cwV 1 hts gX11_keepsRules_X11_spotOf rfl rfl rfl (by decide +kernel) ⟨Nat.le_of_ble_eq_true rfl, Nat.le_of_ble_eq_true rfl⟩) (va_recv hK hP (ci := 11) (q0 := 0) rfl rfl) hP hD hK hN [0, 1] rfl (by decide +kernel) rfl hl.1 rfl (Nat.le_of_ble_eq_true rfl) dX11_keepsRules_31 ⟨Nat.le_of_ble_eq_true rfl, Nat.le_of_ble_eq_true rfl⟩) ?_
        refine lv_istore (lv' := [(5, .int r_31), (4, .int r_19), (0, .ref h_this), (1, .int l1), (2, .int l2_4), (3, .int l3_4)]) hx hb dX11_keepsRules_34 hl (by decide) rfl (fun ls hl => ?_)
        refine lv_iload_n hx hb dX11_keepsRules_36 rfl (lv_at hl 4 rfl) ?_
        refine lv_if_eq (tgt := 79) hx hb dX11_keepsRules_37 (by decide) (fun k_37 => ?_) (fun k_37 => ?_)
        · have hf := ite_t hf k_37
          exact J_79 l3_4 ls (lv_sub hl [2, 3, 5] rfl) hf
        · have hf := ite_f hf k_37
          refine lv_iload hx hb dX11_keepsRules_40 (lv_at hl 1 rfl) ?_
          refine lv_if_lt (tgt := 75) hx hb dX11_keepsRules_42 (by decide) (fun k_42 => ?_) (fun k_42 => ?_)
          · have hf := ite_t hf k_42
            exact J_75 l3_4 ls (lv_sub hl [2, 3, 5] rfl) hf
          · have hf := ite_f hf k_42
            refine lv_iload hx hb dX11_keepsRules_45 (lv_at hl 0 rfl) ?_
            refine lv_if_lt (tgt := 75) hx hb dX11_keepsRules_47 (by decide) (fun k_47 => ?_) (fun k_47 => ?_)
            · have hf := ite_t hf k_47
              exact J_75 l3_4 ls (lv_sub hl [2, 3, 5] rfl) hf
            · have hf := ite_f hf k_47
              refine lv_iload hx hb dX11_keepsRules_50 (lv_at hl 1 rfl) ?_
              refine lv_bipush (v := 6) hx hb dX11_keepsRules_52 (by decide) ?_
              refine lv_idiv hx hb dX11_keepsRules_54 (by decide) ?_
              refine lv_iload_n hx hb dX11_keepsRules_55 rfl (lv_at hl 3 rfl) ?_
              refine lv_icmp_ne (tgt := 75) hx hb dX11_keepsRules_56 (by decide) (fun k_56 => ?_) (fun k_56 => ?_)
              · have hf := ite_f hf k_56
                exact J_75 l3_4 ls (lv_sub hl [2, 3, 5] rfl) hf
              · have hf := ite_t hf k_56
                refine lv_iload hx hb dX11_keepsRules_59 (lv_at hl 0 rfl) ?_
                refine lv_bipush (v := 6) hx hb dX11_keepsRules_61 (by decide) ?_
                refine lv_idiv hx hb dX11_keepsRules_63 (by decide) ?_
                refine lv_iload_n hx hb dX11_keepsRules_64 rfl (lv_at hl 3 rfl) ?_
                refine lv_icmp_ne (tgt := 75) hx hb dX11_keepsRules_65 (by decide) (fun k_65 => ?_) (fun k_65 => ?_)
                · have hf := ite_f hf k_65
                  exact J_75 l3_4 ls (lv_sub hl [2, 3, 5] rfl) hf
                · have hf := ite_t hf k_65
                  refine lv_iload hx hb dX11_keepsRules_68 (lv_at hl 1 rfl) ?_
                  refine lv_iload hx hb dX11_keepsRules_70 (lv_at hl 0 rfl) ?_
                  refine lv_icmp_gt (tgt := 79) hx hb dX11_keepsRules_72 (by decide) (fun k_72 => ?_) (fun k_72 => ?_)
                  · have hf := ite_t hf k_72
                    exact J_79 l3_4 ls (lv_sub hl [2, 3, 5] rfl) hf
                  · have hf := ite_f hf k_72
                    exact J_75 l3_4 ls (lv_sub hl [2, 3, 5] rfl) hf
  exact L_4 FU 1 0 ls (lv_sub hl [2, 3, 1, 0] rfl) hq_4
abbrev w_X11_layRow (cI cJ cZ : ClassId) (h_this h_this_book h_this_now g_this_width g_this_key g_this_wide g_this_delay g_this_ahead g_this_after g_this_sight g_this_pad g_this_counts g_this_isOne g_this_ways g_this_image g_this_isKept : Nat) (c_rules : Int32) (c_sights : Int32) (c_signs : Int32) (c_reason : Int32) (c_acts : Int32) (c_meetings : Int32) (c_clashes : Int32) (c_first : Int32) (c_where : Int32) (c_door : Int32) (c_wider : Int32) (c_ordersFound : Int32) (c_firstOrder : Int32) (c_least : Int32) (c_leastOrder : Int32) (c_book : Nat → Int32) (c_now : Nat → Int32) : va_W := [(h_this, .inr (11, [.ref h_this_book, .ref h_this_now, .ref g_this_width, .ref g_this_key, .ref g_this_wide, .ref g_this_delay, .int c_rules, .ref g_this_ahead, .ref g_this_after, .int c_sights, .ref g_this_sight, .int c_signs, .ref g_this_pad, .int c_reason, .int c_acts, .int c_meetings, .int c_clashes, .int c_first, .int c_where, .int c_door, .int c_wider, .int c_ordersFound, .int c_firstOrder, .int c_least, .int c_leastOrder, .ref g_this_counts, .ref g_this_isOne, .ref g_this_ways, .ref g_this_image, .ref g_this_isKept])), (h_this_book, .inl (cI, 15, .inl c_book)), (h_this_now, .inl (cI, 15, .inl c_now))]
abbrev rm_X11_layRow : Room := { frames := 1, cells := 0, slots := 0, locals := 22 }
theorem m_X11_layRow_f7 : (.fieldLink RX11 7 "WovenRowsModel" "book" "[I" : Cond) ∈ wsX11_layRow := by decide +kernel
theorem in_X11_layRow_X11 : ∀ w ∈ u_ws RX11 TX11 30, w ∈ wsX11_layRow := by decide +kernel
theorem m_X11_layRow_f13 : (.fieldLink RX11 13 "WovenRowsModel" "now" "[I" : Cond) ∈ wsX11_layRow := by decide +kernel
set_option maxRecDepth 100000 in
set_option maxHeartbeats 4000000 in
theorem c_X11_layRow (l : Launch) (dC : Nat → ClassId) (dI : Nat → Nat → Nat) (cI cJ cZ : ClassId) (h_this h_this_book h_this_now g_this_width g_this_key g_this_wide g_this_delay g_this_ahead g_this_after g_this_sight g_this_pad g_this_counts g_this_isOne g_this_ways g_this_image g_this_isKept : Nat) (sz : Nat) (c_rules : Int32) (c_sights : Int32) (c_signs : Int32) (c_reason : Int32) (c_acts : Int32) (c_meetings : Int32) (c_clashes : Int32) (c_first : Int32) (c_where : Int32) (c_door : Int32) (c_wider : Int32) (c_ordersFound : Int32) (c_firstOrder : Int32) (c_least : Int32) (c_leastOrder : Int32) (c_book : Nat → Int32) (c_now : Nat → Int32) (l1 : Int32) (l2 : Int32) (r : Int32) (z_now : Nat → Int32) (hf : f_X11_layRow c_book c_now l1 l2 = some (r, z_now)) : Met l yX11_layRow wsX11_layRow rm_X11_layRow (va_Pc [.ref h_this, .int l1, .int l2] (PRE (dC, dI) (TY cI cJ cZ) sz (w_X11_layRow cI cJ cZ h_this h_this_book h_this_now g_this_width g_this_key g_this_wide g_this_delay g_this_ahead g_this_after g_this_sight g_this_pad g_this_counts g_this_isOne g_this_ways g_this_image g_this_isKept c_rules c_sights c_signs c_reason c_acts c_meetings c_clashes c_first c_where c_door c_wider c_ordersFound c_firstOrder c_least c_leastOrder c_book c_now))) (va_Qi (fun r' (_ : Unit) => r' = r) (POW (dC, dI) (va_A (w_X11_layRow cI cJ cZ h_this h_this_book h_this_now g_this_width g_this_key g_this_wide g_this_delay g_this_ahead g_this_after g_this_sight g_this_pad g_this_counts g_this_isOne g_this_ways g_this_image g_this_isKept c_rules c_sights c_signs c_reason c_acts c_meetings c_clashes c_first c_where c_door c_wider c_ordersFound c_firstOrder c_least c_leastOrder c_book c_now) sz) (w_X11_layRow cI cJ cZ h_this h_this_book h_this_now g_this_width g_this_key g_this_wide g_this_delay g_this_ahead g_this_after g_this_sight g_this_pad g_this_counts g_this_isOne g_this_ways g_this_image g_this_isKept c_rules c_sights c_signs c_reason c_acts c_meetings c_clashes c_first c_where c_door c_wider c_ordersFound c_firstOrder c_least c_leastOrder c_book z_now)) (va_A (w_X11_layRow cI cJ cZ h_this h_this_book h_this_now g_this_width g_this_key g_this_wide g_this_delay g_this_ahead g_this_after g_this_sight g_this_pad g_this_counts g_this_isOne g_this_ways g_this_image g_this_isKept c_rules c_sights c_signs c_reason c_acts c_meetings c_clashes c_first c_where c_door c_wider c_ordersFound c_firstOrder c_least c_leastOrder c_book c_now) sz)) 0 0 (va_A (w_X11_layRow cI cJ cZ h_this h_this_book h_this_now g_this_width g_this_key g_this_wide g_this_delay g_this_ahead g_this_after g_this_sight g_this_pad g_this_counts g_this_isOne g_this_ways g_this_image g_this_isKept c_rules c_sights c_signs c_reason c_acts c_meetings c_clashes c_first c_where c_door c_wider c_ordersFound c_firstOrder c_least c_leastOrder c_book c_now) sz) := by
  refine ofWi (ty := .int) (by decide +kernel) rfl (Nat.le_of_ble_eq_true rfl) ?_
  intro p e s m args below meth c Z A ls S hP hD hK hN hA hl hret
  obtain ⟨hx, hb, hml, hown, hts⟩ := id S
  have hown : s.vm.findClass RX11 = some m.cls := hown
  have hS : va_S A s.heap s.heap [] := va_S.rf
  have hl : lv_has ls 8 [(0, .ref h_this), (1, .int l1), (2, .int l2)] := hl
  unfold f_X11_layRow at hf
  refine lv_aload_n hx hb dX11_layRow_0 rfl (lv_at hl 0 rfl) ?_
  refine va_get (D := (dC, dI)) (ci := 11) (v := .ref h_this_book) (C := RX11) (T := TX11) (N := 30) hx hb hts in_X11_layRow_X11 hown hK hP 0 rfl rfl 0 (by decide) (hts _ m_X11_layRow_f7) (fun _ h9 => h9) rfl dX11_layRow_1 ?_
  refine lv_bipush (v := 12) hx hb dX11_layRow_4 (by decide) ?_
  refine lv_iload_n hx hb dX11_layRow_6 rfl (lv_at hl 1 rfl) ?_
  refine lv_iadd hx hb dX11_layRow_7 ?_
  obtain ⟨g_8, hf⟩ := gd_some hf
  refine va_iald hx hb hK hP 1 0 rfl rfl g_8 dX11_layRow_8 ?_
  refine lv_istore_n (lv' := [(3, .int (c_book (Int32.toNatClampNeg (12 + l1)))), (0, .ref h_this), (1, .int l1), (2, .int l2)]) hx hb dX11_layRow_9 rfl hl (by decide) rfl (fun ls hl => ?_)
  refine lv_iload_n hx hb dX11_layRow_10 rfl (lv_at hl 3 rfl) ?_
  refine lv_istore (lv' := [(4, .int l2), (3, .int (c_book (Int32.toNatClampNeg (12 + l1)))), (0, .ref h_this), (1, .int l1), (2, .int l2)]) hx hb dX11_layRow_11 hl (by decide) rfl (fun ls hl => ?_)
  refine lv_iconst (v := 0) hx hb dX11_layRow_13 (by decide) ?_
  refine lv_istore (lv' := [(5, .int 0), (4, .int l2), (3, .int (c_book (Int32.toNatClampNeg (12 + l1)))), (0, .ref h_this), (1, .int l1), (2, .int l2)]) hx hb dX11_layRow_14 hl (by decide) rfl (fun ls hl => ?_)
  refine lv_iload_n hx hb dX11_layRow_16 rfl (lv_at hl 2 rfl) ?_
  refine lv_iconst (v := 1) hx hb dX11_layRow_17 (by decide) ?_
  refine lv_isub hx hb dX11_layRow_18 ?_
  obtain ⟨l6_19s, e_l6_19s, hf⟩ := nmv_some hf
  refine tpi e_l6_19s ?_
  refine lv_istore (lv' := [(6, .int l6_19s), (5, .int 0), (4, .int l2), (3, .int (c_book (Int32.toNatClampNeg (12 + l1)))), (0, .ref h_this), (1, .int l1), (2, .int l2)]) hx hb dX11_layRow_19 hl (by decide) rfl (fun ls hl => ?_)
  obtain ⟨l4_21x, l5_21x, l6_21x, c_now_21x, hq_21, hf⟩ := bd4_some hf
  have K_21 : ∀ (H : Heap) (locs : List Loc) (ls : Array Slot), va_P (dC, dI) vwCl (w_X11_layRow cI cJ cZ h_this h_this_book h_this_now g_this_width g_this_key g_this_wide g_this_delay g_this_ahead g_this_after g_this_sight g_this_pad g_this_counts g_this_isOne g_this_ways g_this_image g_this_isKept c_rules c_sights c_signs c_reason c_acts c_meetings c_clashes c_first c_where c_door c_wider c_ordersFound c_firstOrder c_least c_leastOrder c_book c_now_21x) H → va_D A (w_X11_layRow cI cJ cZ h_this h_this_book h_this_now g_this_width g_this_key g_this_wide g_this_delay g_this_ahead g_this_after g_this_sight g_this_pad g_this_counts g_this_isOne g_this_ways g_this_image g_this_isKept c_rules c_sights c_signs c_reason c_acts c_meetings c_clashes c_first c_where c_door c_wider c_ordersFound c_firstOrder c_least c_leastOrder c_book c_now_21x) → va_S A s.heap H locs → lv_has ls 8 [(0, .ref h_this), (1, .int l1), (3, .int (c_book (Int32.toNatClampNeg (12 + l1)))), (5, .int l5_21x)] → W p l e rm_X11_layRow s m args below meth c H locs 0 0 Z (F0 m 99 ls []) := by
    intro H locs ls hP hD hS hl
    refine lv_iconst (v := 0) hx hb dX11_layRow_99 (by decide) ?_
    refine lv_istore (lv' := [(6, .int 0), (0, .ref h_this), (1, .int l1), (3, .int (c_book (Int32.toNatClampNeg (12 + l1)))), (5, .int l5_21x)]) hx hb dX11_layRow_100 hl (by decide) rfl (fun ls hl => ?_)
    refine lv_iconst (v := 0) hx hb dX11_layRow_102 (by decide) ?_
    refine lv_istore (lv' := [(7, .int 0), (6, .int 0), (0, .ref h_this), (1, .int l1), (3, .int (c_book (Int32.toNatClampNeg (12 + l1)))), (5, .int l5_21x)]) hx hb dX11_layRow_103 hl (by decide) rfl (fun ls hl => ?_)
    obtain ⟨l6_105x, l7_105x, hq_105, hf⟩ := bd2_some hf
    have K_105 : ∀ (ls : Array Slot), lv_has ls 8 [(3, .int (c_book (Int32.toNatClampNeg (12 + l1)))), (5, .int l5_21x), (6, .int l6_105x)] → W p l e rm_X11_layRow s m args below meth c H locs 0 0 Z (F0 m 137 ls []) := by
      intro ls hl
      refine lv_iload hx hb dX11_layRow_137 (lv_at hl 1 rfl) ?_
      obtain ⟨r_139, hv_139, hf⟩ := bd1_some hf
      refine kSi (rS [.int l5_21x] [] S (c_X11_bits l dC dI cI cJ cZ H.size l5_21x r_139 hv_139) (va_cwS 1 hts gX11_layRow_X11_bits rfl rfl rfl (by decide +kernel) ⟨Nat.le_of_ble_eq_true rfl, Nat.le_of_ble_eq_true rfl⟩) hP hD hK hN [] rfl (by decide +kernel) rfl hl.1 rfl (Nat.le_of_ble_eq_true rfl) dX11_layRow_139 ⟨Nat.le_of_ble_eq_true rfl, Nat.le_of_ble_eq_true rfl⟩) ?_
      refine lv_iload_n hx hb dX11_layRow_142 rfl (lv_at hl 0 rfl) ?_
      refine lv_icmp_ne (tgt := 151) hx hb dX11_layRow_143 (by decide) (fun k_143 => ?_) (fun k_143 => ?_)
      · have hf := ite_f hf k_143
        refine lv_bipush (v := (-6)) hx hb dX11_layRow_151 (by decide) ?_
        have e_f := Option.some.inj hf
        cases e_f
        exact hret rfl hP hD hS dX11_layRow_153
      · have hf := ite_t hf k_143
        refine lv_iload hx hb dX11_layRow_146 (lv_at hl 2 rfl) ?_
        refine lv_goto (tgt := 153) hx hb dX11_layRow_148 (by decide) ?_
        have e_f := Option.some.inj hf
        cases e_f
        exact hret rfl hP hD hS dX11_layRow_153
    have L_105 : ∀ (n : Nat) (l6_105 : Int32) (l7_105 : Int32) (ls : Array Slot), lv_has ls 8 [(0, .ref h_this), (1, .int l1), (3, .int (c_book (Int32.toNatClampNeg (12 + l1)))), (5, .int l5_21x), (6, .int l6_105), (7, .int l7_105)] → loopN (fun (q : Int32 × Int32) => f_X11_layRow_b105 l1 c_now_21x q.1 q.2 (c_book (Int32.toNatClampNeg (12 + l1)))) n (l6_105, l7_105) = some (l6_105x, l7_105x) → W p l e rm_X11_layRow s m args below meth c H locs 0 0 Z (F0 m 105 ls []) := by
      intro n
      induction n with
      | zero => intro l6_105 l7_105 ls hl hq; exact (loopN_zero hq).elim
      | succ n ih_105 =>
        intro l6_105 l7_105 ls hl hq
        obtain ⟨o_105, hf, ho1_105, ho2_105⟩ := loopN_step hq
        have hf : f_X11_layRow_b105 l1 c_now_21x l6_105 l7_105 (c_book (Int32.toNatClampNeg (12 + l1))) = some o_105 := hf
        unfold f_X11_layRow_b105 at hf
        refine lv_iload hx hb dX11_layRow_105 (lv_at hl 5 rfl) ?_
        refine lv_iload_n hx hb dX11_layRow_107 rfl (lv_at hl 2 rfl) ?_
        refine lv_icmp_ge (tgt := 137) hx hb dX11_layRow_108 (by decide) (fun k_108 => ?_) (fun k_108 => ?_)
        · have hf := ite_t hf k_108
          have e_105 := ho2_105 _ (Option.some.inj hf).symm
          cases e_105
          exact K_105 ls (lv_sub hl [2, 3, 4] rfl)
        · have hf := ite_f hf k_108
          refine lv_bipush (v := 10) hx hb dX11_layRow_111 (by decide) ?_
          refine lv_iload hx hb dX11_layRow_113 (lv_at hl 4 rfl) ?_
          refine lv_imul hx hb dX11_layRow_115 ?_
          refine lv_aload_n hx hb dX11_layRow_116 rfl (lv_at hl 0 rfl) ?_
          refine va_get (D := (dC, dI)) (ci := 11) (v := .ref h_this_now) (C := RX11) (T := TX11) (N := 30) hx hb hts in_X11_layRow_X11 hown hK hP 0 rfl rfl 1 (by decide) (hts _ m_X11_layRow_f13) (fun _ h9 => h9) rfl dX11_layRow_117 ?_
          refine lv_bipush (v := 6) hx hb dX11_layRow_120 (by decide) ?_
          refine lv_iload_n hx hb dX11_layRow_122 rfl (lv_at hl 1 rfl) ?_
          refine lv_imul hx hb dX11_layRow_123 ?_
          refine lv_iload hx hb dX11_layRow_124 (lv_at hl 5 rfl) ?_
          refine lv_iadd hx hb dX11_layRow_126 ?_
          obtain ⟨g_127, hf⟩ := gd_some hf
          refine va_iald hx hb hK hP 2 0 rfl rfl g_127 dX11_layRow_127 ?_
          refine lv_iadd hx hb dX11_layRow_128 ?_
          obtain ⟨l6_129s, e_l6_129s, hf⟩ := nmv_some hf
          refine tpi e_l6_129s ?_
          refine lv_istore (lv' := [(6, .int l6_129s), (0, .ref h_this), (1, .int l1), (3, .int (c_book (Int32.toNatClampNeg (12 + l1)))), (5, .int l5_21x), (7, .int l7_105)]) hx hb dX11_layRow_129 hl (by decide) rfl (fun ls hl => ?_)
          refine lv_iinc (v := (l7_105 + 1)) (lv' := [(7, .int (l7_105 + 1)), (6, .int l6_129s), (0, .ref h_this), (1, .int l1), (3, .int (c_book (Int32.toNatClampNeg (12 + l1)))), (5, .int l5_21x)]) hx hb dX11_layRow_131 hl (k := 5) rfl rfl (by decide) rfl (fun ls hl => ?_)
          refine lv_goto (tgt := 105) hx hb dX11_layRow_134 (by decide) ?_
          exact ih_105 l6_129s (l7_105 + 1) ls (lv_sub hl [2, 3, 4, 5, 1, 0] rfl) (ho1_105 _ (Option.some.inj hf).symm)
    exact L_105 FU 0 0 ls (lv_sub hl [2, 3, 4, 5, 1, 0] rfl) hq_105
  have L_21 : ∀ (n : Nat) (l4_21 : Int32) (l5_21 : Int32) (l6_21 : Int32) (c_now_21 : Nat → Int32) (H : Heap) (locs : List Loc) (ls : Array Slot), va_P (dC, dI) vwCl (w_X11_layRow cI cJ cZ h_this h_this_book h_this_now g_this_width g_this_key g_this_wide g_this_delay g_this_ahead g_this_after g_this_sight g_this_pad g_this_counts g_this_isOne g_this_ways g_this_image g_this_isKept c_rules c_sights c_signs c_reason c_acts c_meetings c_clashes c_first c_where c_door c_wider c_ordersFound c_firstOrder c_least c_leastOrder c_book c_now_21) H → va_D A (w_X11_layRow cI cJ cZ h_this h_this_book h_this_now g_this_width g_this_key g_this_wide g_this_delay g_this_ahead g_this_after g_this_sight g_this_pad g_this_counts g_this_isOne g_this_ways g_this_image g_this_isKept c_rules c_sights c_signs c_reason c_acts c_meetings c_clashes c_first c_where c_door c_wider c_ordersFound c_firstOrder c_least c_leastOrder c_book c_now_21) → va_S A s.heap H locs → lv_has ls 8 [(0, .ref h_this), (1, .int l1), (3, .int (c_book (Int32.toNatClampNeg (12 + l1)))), (4, .int l4_21), (5, .int l5_21), (6, .int l6_21)] → loopN (fun (q : Int32 × Int32 × Int32 × (Nat → Int32)) => f_X11_layRow_b21 c_book l1 q.1 q.2.1 q.2.2.1 q.2.2.2 (c_book (Int32.toNatClampNeg (12 + l1)))) n (l4_21, l5_21, l6_21, c_now_21) = some (l4_21x, l5_21x, l6_21x, c_now_21x) → W p l e rm_X11_layRow s m args below meth c H locs 0 0 Z (F0 m 21 ls []) := by
    intro n
    induction n with
    | zero => intro l4_21 l5_21 l6_21 c_now_21 H locs ls hP hD hS hl hq; exact (loopN_zero hq).elim
    | succ n ih_21 =>
      intro l4_21 l5_21 l6_21 c_now_21 H locs ls hP hD hS hl hq
      obtain ⟨o_21, hf, ho1_21, ho2_21⟩ := loopN_step hq
      have hf : f_X11_layRow_b21 c_book l1 l4_21 l5_21 l6_21 c_now_21 (c_book (Int32.toNatClampNeg (12 + l1))) = some o_21 := hf
      unfold f_X11_layRow_b21 at hf
      have J_92 : ∀ (l4_92j : Int32) (l5_92j : Int32) (l6_92j : Int32) (s1_92j : Int32) (s2_92j : Int32) (c_now_92j : Nat → Int32) (H : Heap) (locs : List Loc) (ls : Array Slot), va_P (dC, dI) vwCl (w_X11_layRow cI cJ cZ h_this h_this_book h_this_now g_this_width g_this_key g_this_wide g_this_delay g_this_ahead g_this_after g_this_sight g_this_pad g_this_counts g_this_isOne g_this_ways g_this_image g_this_isKept c_rules c_sights c_signs c_reason c_acts c_meetings c_clashes c_first c_where c_door c_wider c_ordersFound c_firstOrder c_least c_leastOrder c_book c_now_92j) H → va_D A (w_X11_layRow cI cJ cZ h_this h_this_book h_this_now g_this_width g_this_key g_this_wide g_this_delay g_this_ahead g_this_after g_this_sight g_this_pad g_this_counts g_this_isOne g_this_ways g_this_image g_this_isKept c_rules c_sights c_signs c_reason c_acts c_meetings c_clashes c_first c_where c_door c_wider c_ordersFound c_firstOrder c_least c_leastOrder c_book c_now_92j) → va_S A s.heap H locs → lv_has ls 8 [(0, .ref h_this), (1, .int l1), (3, .int (c_book (Int32.toNatClampNeg (12 + l1)))), (4, .int l4_92j), (5, .int l5_92j), (6, .int l6_92j)] → f_X11_layRow_j92 l4_92j l5_92j l6_92j c_now_92j s1_92j s2_92j = some o_21 → W p l e rm_X11_layRow s m args below meth c H locs 0 0 Z (F0 m 92 ls [.int s2_92j, .int s1_92j, .ref h_this_now]) := by
        intro l4_92j l5_92j l6_92j s1_92j s2_92j c_now_92j H locs ls hP hD hS hl hf
        unfold f_X11_layRow_j92 at hf
        obtain ⟨g_92, hf⟩ := gd_some hf
        refine va_iast hx hb hK hP hD hS 2 0 rfl rfl g_92 dX11_layRow_92 (fun H locs hP hD hS => ?_)
        have hP : va_P (dC, dI) vwCl (w_X11_layRow cI cJ cZ h_this h_this_book h_this_now g_this_width g_this_key g_this_wide g_this_delay g_this_ahead g_this_after g_this_sight g_this_pad g_this_counts g_this_isOne g_this_ways g_this_image g_this_isKept c_rules c_sights c_signs c_reason c_acts c_meetings c_clashes c_first c_where c_door c_wider c_ordersFound c_firstOrder c_least c_leastOrder c_book (upd c_now_92j (Int32.toNatClampNeg s1_92j) s2_92j)) H := hP
        have hD : va_D A (w_X11_layRow cI cJ cZ h_this h_this_book h_this_now g_this_width g_this_key g_this_wide g_this_delay g_this_ahead g_this_after g_this_sight g_this_pad g_this_counts g_this_isOne g_this_ways g_this_image g_this_isKept c_rules c_sights c_signs c_reason c_acts c_meetings c_clashes c_first c_where c_door c_wider c_ordersFound c_firstOrder c_least c_leastOrder c_book (upd c_now_92j (Int32.toNatClampNeg s1_92j) s2_92j)) := hD
        refine lv_iinc (v := (l6_92j + (-1))) (lv' := [(6, .int (l6_92j + (-1))), (0, .ref h_this), (1, .int l1), (3, .int (c_book (Int32.toNatClampNeg (12 + l1)))), (4, .int l4_92j), (5, .int l5_92j)]) hx hb dX11_layRow_93 hl (k := 5) rfl rfl (by decide) rfl (fun ls hl => ?_)
        refine lv_goto (tgt := 21) hx hb dX11_layRow_96 (by decide) ?_
        exact ih_21 l4_92j l5_92j (l6_92j + (-1)) (upd c_now_92j (Int32.toNatClampNeg s1_92j) s2_92j) H locs ls hP hD hS (lv_sub hl [1, 2, 3, 4, 5, 0] rfl) (ho1_21 _ (Option.some.inj hf).symm)
      have J_56 : ∀ (l4_56j : Int32) (l6_56j : Int32) (l7_56j : Int32) (s0_56j : Int32) (s1_56j : Int32) (c_now_56j : Nat → Int32) (H : Heap) (locs : List Loc) (ls : Array Slot), va_P (dC, dI) vwCl (w_X11_layRow cI cJ cZ h_this h_this_book h_this_now g_this_width g_this_key g_this_wide g_this_delay g_this_ahead g_this_after g_this_sight g_this_pad g_this_counts g_this_isOne g_this_ways g_this_image g_this_isKept c_rules c_sights c_signs c_reason c_acts c_meetings c_clashes c_first c_where c_door c_wider c_ordersFound c_firstOrder c_least c_leastOrder c_book c_now_56j) H → va_D A (w_X11_layRow cI cJ cZ h_this h_this_book h_this_now g_this_width g_this_key g_this_wide g_this_delay g_this_ahead g_this_after g_this_sight g_this_pad g_this_counts g_this_isOne g_this_ways g_this_image g_this_isKept c_rules c_sights c_signs c_reason c_acts c_meetings c_clashes c_first c_where c_door c_wider c_ordersFound c_firstOrder c_least c_leastOrder c_book c_now_56j) → va_S A s.heap H locs → lv_has ls 8 [(0, .ref h_this), (1, .int l1), (3, .int (c_book (Int32.toNatClampNeg (12 + l1)))), (4, .int l4_56j), (6, .int l6_56j), (7, .int l7_56j)] → f_X11_layRow_j56 c_book l1 (c_book (Int32.toNatClampNeg (12 + l1))) l4_56j l6_56j l7_56j c_now_56j s0_56j s1_56j = some o_21 → W p l e rm_X11_layRow s m args below meth c H locs 0 0 Z (F0 m 56 ls [.int s1_56j, .int s0_56j]) := by
        intro l4_56j l6_56j l7_56j s0_56j s1_56j c_now_56j H locs ls hP hD hS hl hf
        unfold f_X11_layRow_j56 at hf
        refine lv_ior hx hb dX11_layRow_56 ?_
        refine lv_istore (lv' := [(5, .int (s0_56j ||| s1_56j)), (0, .ref h_this), (1, .int l1), (3, .int (c_book (Int32.toNatClampNeg (12 + l1)))), (4, .int l4_56j), (6, .int l6_56j), (7, .int l7_56j)]) hx hb dX11_layRow_57 hl (by decide) rfl (fun ls hl => ?_)
        refine lv_aload_n hx hb dX11_layRow_59 rfl (lv_at hl 1 rfl) ?_
        refine va_get (D := (dC, dI)) (ci := 11) (v := .ref h_this_now) (C := RX11) (T := TX11) (N := 30) hx hb hts in_X11_layRow_X11 hown hK hP 0 rfl rfl 1 (by decide) (hts _ m_X11_layRow_f13) (fun _ h9 => h9) rfl dX11_layRow_60 ?_
        refine lv_bipush (v := 6) hx hb dX11_layRow_63 (by decide) ?_
        refine lv_iload_n hx hb dX11_layRow_65 rfl (lv_at hl 2 rfl) ?_
        refine lv_imul hx hb dX11_layRow_66 ?_
        refine lv_iload hx hb dX11_layRow_67 (lv_at hl 5 rfl) ?_
        refine lv_iadd hx hb dX11_layRow_69 ?_
        refine lv_iload hx hb dX11_layRow_70 (lv_at hl 6 rfl) ?_
        refine lv_iload_n hx hb dX11_layRow_72 rfl (lv_at hl 3 rfl) ?_
        refine lv_icmp_ge (tgt := 91) hx hb dX11_layRow_73 (by decide) (fun k_73 => ?_) (fun k_73 => ?_)
        · have hf := ite_t hf k_73
          refine lv_iconst (v := 0) hx hb dX11_layRow_91 (by decide) ?_
          exact J_92 l4_56j (s0_56j ||| s1_56j) l6_56j ((6 * l1) + l6_56j) 0 c_now_56j H locs ls hP hD hS (lv_sub hl [1, 2, 3, 4, 0, 5] rfl) hf
        · have hf := ite_f hf k_73
          refine lv_aload_n hx hb dX11_layRow_76 rfl (lv_at hl 1 rfl) ?_
          refine va_get (D := (dC, dI)) (ci := 11) (v := .ref h_this_book) (C := RX11) (T := TX11) (N := 30) hx hb hts in_X11_layRow_X11 hown hK hP 0 rfl rfl 0 (by decide) (hts _ m_X11_layRow_f7) (fun _ h9 => h9) rfl dX11_layRow_77 ?_
          refine lv_bipush (v := 6) hx hb dX11_layRow_80 (by decide) ?_
          refine lv_iload_n hx hb dX11_layRow_82 rfl (lv_at hl 2 rfl) ?_
          refine lv_imul hx hb dX11_layRow_83 ?_
          refine lv_iload hx hb dX11_layRow_84 (lv_at hl 6 rfl) ?_
          refine lv_iadd hx hb dX11_layRow_86 ?_
          obtain ⟨g_87, hf⟩ := gd_some hf
          refine va_iald hx hb hK hP 1 0 rfl rfl g_87 dX11_layRow_87 ?_
          refine lv_goto (tgt := 92) hx hb dX11_layRow_88 (by decide) ?_
          exact J_92 l4_56j (s0_56j ||| s1_56j) l6_56j ((6 * l1) + l6_56j) (c_book (Int32.toNatClampNeg ((6 * l1) + l7_56j))) c_now_56j H locs ls hP hD hS (lv_sub hl [1, 2, 3, 4, 0, 5] rfl) hf
      refine lv_iload hx hb dX11_layRow_21 (lv_at hl 5 rfl) ?_
      refine lv_if_lt (tgt := 99) hx hb dX11_layRow_23 (by decide) (fun k_23 => ?_) (fun k_23 => ?_)
      · have hf := ite_t hf k_23
        have e_21 := ho2_21 _ (Option.some.inj hf).symm
        cases e_21
        exact K_21 H locs ls hP hD hS (lv_sub hl [0, 1, 2, 4] rfl)
      · have hf := ite_f hf k_23
        refine lv_iload hx hb dX11_layRow_26 (lv_at hl 3 rfl) ?_
        refine lv_bipush (v := 6) hx hb dX11_layRow_28 (by decide) ?_
        refine lv_irem hx hb dX11_layRow_30 (by decide) ?_
        refine lv_istore (lv' := [(7, .int (l4_21 - (l4_21 / 6) * 6)), (0, .ref h_this), (1, .int l1), (3, .int (c_book (Int32.toNatClampNeg (12 + l1)))), (4, .int l4_21), (5, .int l5_21), (6, .int l6_21)]) hx hb dX11_layRow_31 hl (by decide) rfl (fun ls hl => ?_)
        refine lv_iload hx hb dX11_layRow_33 (lv_at hl 4 rfl) ?_
        refine lv_bipush (v := 6) hx hb dX11_layRow_35 (by decide) ?_
        refine lv_idiv hx hb dX11_layRow_37 (by decide) ?_
        refine lv_istore (lv' := [(4, .int (l4_21 / 6)), (7, .int (l4_21 - (l4_21 / 6) * 6)), (0, .ref h_this), (1, .int l1), (3, .int (c_book (Int32.toNatClampNeg (12 + l1)))), (5, .int l5_21), (6, .int l6_21)]) hx hb dX11_layRow_38 hl (by decide) rfl (fun ls hl => ?_)
        refine lv_iload hx hb dX11_layRow_40 (lv_at hl 5 rfl) ?_
        refine lv_iload hx hb dX11_layRow_42 (lv_at hl 1 rfl) ?_
        refine lv_iload_n hx hb dX11_layRow_44 rfl (lv_at hl 4 rfl) ?_
        refine lv_icmp_ge (tgt := 55) hx hb dX11_layRow_45 (by decide) (fun k_45 => ?_) (fun k_45 => ?_)
        · have hf := ite_t hf k_45
          refine lv_iconst (v := 0) hx hb dX11_layRow_55 (by decide) ?_
          exact J_56 (l4_21 / 6) l6_21 (l4_21 - (l4_21 / 6) * 6) l5_21 0 c_now_21 H locs ls hP hD hS (lv_sub hl [2, 3, 4, 0, 6, 1] rfl) hf
        · have hf := ite_f hf k_45
          refine lv_iconst (v := 1) hx hb dX11_layRow_48 (by decide) ?_
          refine lv_iload hx hb dX11_layRow_49 (lv_at hl 1 rfl) ?_
          refine lv_ishl hx hb dX11_layRow_51 ?_
          refine lv_goto (tgt := 56) hx hb dX11_layRow_52 (by decide) ?_
          exact J_56 (l4_21 / 6) l6_21 (l4_21 - (l4_21 / 6) * 6) l5_21 (1 <<< ((l4_21 - (l4_21 / 6) * 6) &&& 31)) c_now_21 H locs ls hP hD hS (lv_sub hl [2, 3, 4, 0, 6, 1] rfl) hf
  exact L_21 FU l2 0 l6_19s c_now s.heap [] ls hP hD hS (lv_sub hl [4, 5, 3, 2, 1, 0] rfl) hq_21
abbrev w_X11_layOrders (cI cJ cZ : ClassId) (h_this h_this_book h_this_now h_this_width h_this_wide h_this_delay h_this_ahead h_this_after g_this_key g_this_sight g_this_pad g_this_counts g_this_isOne g_this_ways g_this_image g_this_isKept : Nat) (c_rules : Int32) (c_sights : Int32) (c_signs : Int32) (c_reason : Int32) (c_acts : Int32) (c_meetings : Int32) (c_clashes : Int32) (c_first : Int32) (c_where : Int32) (c_door : Int32) (c_wider : Int32) (c_ordersFound : Int32) (c_firstOrder : Int32) (c_least : Int32) (c_leastOrder : Int32) (c_book : Nat → Int32) (c_now : Nat → Int32) (c_width : Nat → Int32) (c_wide : Nat → Int32) (c_delay : Nat → Int32) (c_ahead : Nat → Int32) (c_after : Nat → Int32) : va_W := [(h_this, .inr (11, [.ref h_this_book, .ref h_this_now, .ref h_this_width, .ref g_this_key, .ref h_this_wide, .ref h_this_delay, .int c_rules, .ref h_this_ahead, .ref h_this_after, .int c_sights, .ref g_this_sight, .int c_signs, .ref g_this_pad, .int c_reason, .int c_acts, .int c_meetings, .int c_clashes, .int c_first, .int c_where, .int c_door, .int c_wider, .int c_ordersFound, .int c_firstOrder, .int c_least, .int c_leastOrder, .ref g_this_counts, .ref g_this_isOne, .ref g_this_ways, .ref g_this_image, .ref g_this_isKept])), (h_this_book, .inl (cI, 15, .inl c_book)), (h_this_now, .inl (cI, 15, .inl c_now)), (h_this_width, .inl (cI, 10, .inl c_width)), (h_this_wide, .inl (cI, 17, .inl c_wide)), (h_this_delay, .inl (cI, 2, .inl c_delay)), (h_this_ahead, .inl (cI, 10, .inl c_ahead)), (h_this_after, .inl (cI, 10, .inl c_after))]
abbrev rm_X11_layOrders : Room := { frames := 3, cells := 0, slots := 0, locals := 69 }
theorem m_X11_layOrders_f151 : (.fieldLink RX11 151 "WovenRowsModel" "ordersFound" "I" : Cond) ∈ wsX11_layOrders := by decide +kernel
theorem in_X11_layOrders_X11 : ∀ w ∈ u_ws RX11 TX11 30, w ∈ wsX11_layOrders := by decide +kernel
theorem m_X11_layOrders_f154 : (.fieldLink RX11 154 "WovenRowsModel" "firstOrder" "I" : Cond) ∈ wsX11_layOrders := by decide +kernel
theorem m_X11_layOrders_k157 : (.constant RX11 157 (1000000) : Cond) ∈ wsX11_layOrders := by decide +kernel
theorem m_X11_layOrders_f158 : (.fieldLink RX11 158 "WovenRowsModel" "least" "I" : Cond) ∈ wsX11_layOrders := by decide +kernel
theorem m_X11_layOrders_f161 : (.fieldLink RX11 161 "WovenRowsModel" "leastOrder" "I" : Cond) ∈ wsX11_layOrders := by decide +kernel
theorem m_X11_layOrders_f7 : (.fieldLink RX11 7 "WovenRowsModel" "book" "[I" : Cond) ∈ wsX11_layOrders := by decide +kernel
theorem m_X11_layOrders_f126 : (.fieldLink RX11 126 "WovenRowsModel" "clashes" "I" : Cond) ∈ wsX11_layOrders := by decide +kernel
set_option maxRecDepth 100000 in
set_option maxHeartbeats 4000000 in
theorem c_X11_layOrders (l : Launch) (dC : Nat → ClassId) (dI : Nat → Nat → Nat) (cI cJ cZ : ClassId) (h_this h_this_book h_this_now h_this_width h_this_wide h_this_delay h_this_ahead h_this_after g_this_key g_this_sight g_this_pad g_this_counts g_this_isOne g_this_ways g_this_image g_this_isKept : Nat) (sz : Nat) (c_rules : Int32) (c_sights : Int32) (c_signs : Int32) (c_reason : Int32) (c_acts : Int32) (c_meetings : Int32) (c_clashes : Int32) (c_first : Int32) (c_where : Int32) (c_door : Int32) (c_wider : Int32) (c_ordersFound : Int32) (c_firstOrder : Int32) (c_least : Int32) (c_leastOrder : Int32) (c_book : Nat → Int32) (c_now : Nat → Int32) (c_width : Nat → Int32) (c_wide : Nat → Int32) (c_delay : Nat → Int32) (c_ahead : Nat → Int32) (c_after : Nat → Int32) (l1 : Int32) (z_meetings : Int32) (z_clashes : Int32) (z_first : Int32) (z_where : Int32) (z_door : Int32) (z_wider : Int32) (z_ordersFound : Int32) (z_firstOrder : Int32) (z_least : Int32) (z_leastOrder : Int32) (z_now : Nat → Int32) (hf : f_X11_layOrders c_rules c_meetings c_clashes c_first c_where c_book c_now c_width c_wide c_delay c_ahead c_after l1 = some (z_meetings, z_clashes, z_first, z_where, z_door, z_wider, z_ordersFound, z_firstOrder, z_least, z_leastOrder, z_now)) : Met l yX11_layOrders wsX11_layOrders rm_X11_layOrders (va_Pc [.ref h_this, .int l1] (PRE (dC, dI) (TY cI cJ cZ) sz (w_X11_layOrders cI cJ cZ h_this h_this_book h_this_now h_this_width h_this_wide h_this_delay h_this_ahead h_this_after g_this_key g_this_sight g_this_pad g_this_counts g_this_isOne g_this_ways g_this_image g_this_isKept c_rules c_sights c_signs c_reason c_acts c_meetings c_clashes c_first c_where c_door c_wider c_ordersFound c_firstOrder c_least c_leastOrder c_book c_now c_width c_wide c_delay c_ahead c_after))) (va_Qv (fun _ : Unit => True) (POW (dC, dI) (va_A (w_X11_layOrders cI cJ cZ h_this h_this_book h_this_now h_this_width h_this_wide h_this_delay h_this_ahead h_this_after g_this_key g_this_sight g_this_pad g_this_counts g_this_isOne g_this_ways g_this_image g_this_isKept c_rules c_sights c_signs c_reason c_acts c_meetings c_clashes c_first c_where c_door c_wider c_ordersFound c_firstOrder c_least c_leastOrder c_book c_now c_width c_wide c_delay c_ahead c_after) sz) (w_X11_layOrders cI cJ cZ h_this h_this_book h_this_now h_this_width h_this_wide h_this_delay h_this_ahead h_this_after g_this_key g_this_sight g_this_pad g_this_counts g_this_isOne g_this_ways g_this_image g_this_isKept c_rules c_sights c_signs c_reason c_acts z_meetings z_clashes z_first z_where z_door z_wider z_ordersFound z_firstOrder z_least z_leastOrder c_book z_now c_width c_wide c_delay c_ahead c_after)) (va_A (w_X11_layOrders cI cJ cZ h_this h_this_book h_this_now h_this_width h_this_wide h_this_delay h_this_ahead h_this_after g_this_key g_this_sight g_this_pad g_this_counts g_this_isOne g_this_ways g_this_image g_this_isKept c_rules c_sights c_signs c_reason c_acts c_meetings c_clashes c_first c_where c_door c_wider c_ordersFound c_firstOrder c_least c_leastOrder c_book c_now c_width c_wide c_delay c_ahead c_after) sz)) 0 0 (va_A (w_X11_layOrders cI cJ cZ h_this h_this_book h_this_now h_this_width h_this_wide h_this_delay h_this_ahead h_this_after g_this_key g_this_sight g_this_pad g_this_counts g_this_isOne g_this_ways g_this_image g_this_isKept c_rules c_sights c_signs c_reason c_acts c_meetings c_clashes c_first c_where c_door c_wider c_ordersFound c_firstOrder c_least c_leastOrder c_book c_now c_width c_wide c_delay c_ahead c_after) sz) := by
  refine ofWv (by decide +kernel) rfl (Nat.le_of_ble_eq_true rfl) ?_
  intro p e s m args below meth c Z A ls S hP hD hK hN hA hl hret
  obtain ⟨hx, hb, hml, hown, hts⟩ := id S
  have hown : s.vm.findClass RX11 = some m.cls := hown
  have hS : va_S A s.heap s.heap [] := va_S.rf
  have hl : lv_has ls 6 [(0, .ref h_this), (1, .int l1)] := hl
  unfold f_X11_layOrders at hf
  refine lv_aload_n hx hb dX11_layOrders_0 rfl (lv_at hl 0 rfl) ?_
  obtain ⟨c_door_1, c_wider_1, c_now_1, hv_1, hf⟩ := bd3_some hf
  refine kWv (rV (C := RX11) [] [] S (c_X11_plain l dC dI cI cJ cZ h_this h_this_book h_this_now h_this_width g_this_key h_this_wide h_this_delay h_this_ahead h_this_after g_this_sight g_this_pad g_this_counts g_this_isOne g_this_ways g_this_image g_this_isKept s.heap.size c_rules c_sights c_signs c_reason c_acts c_meetings c_clashes c_first c_where c_door c_wider c_ordersFound c_firstOrder c_least c_leastOrder c_book c_now c_door_1 c_wider_1 c_now_1 hv_1) (cwV 0 hts gX11_layOrders_X11_plain rfl rfl rfl (by decide +kernel) ⟨Nat.le_of_ble_eq_true rfl, Nat.le_of_ble_eq_true rfl⟩) (va_recv hK hP (ci := 11) (q0 := 0) rfl rfl) hP hD hK hN [0, 1, 2] rfl (by decide +kernel) rfl hl.1 rfl (Nat.le_of_ble_eq_true rfl) dX11_layOrders_1 ⟨Nat.le_of_ble_eq_true rfl, Nat.le_of_ble_eq_true rfl⟩) hP hD hS hA [0, 1, 2] rfl rfl [some 0, some 1, some 2, none, none, none, none, none] (by decide +kernel) rfl (fun H locs hP hD hS => ?_)
  have hP : va_P (dC, dI) vwCl (w_X11_layOrders cI cJ cZ h_this h_this_book h_this_now h_this_width h_this_wide h_this_delay h_this_ahead h_this_after g_this_key g_this_sight g_this_pad g_this_counts g_this_isOne g_this_ways g_this_image g_this_isKept c_rules c_sights c_signs c_reason c_acts c_meetings c_clashes c_first c_where c_door_1 c_wider_1 c_ordersFound c_firstOrder c_least c_leastOrder c_book c_now_1 c_width c_wide c_delay c_ahead c_after) H := hP
  have hD : va_D A (w_X11_layOrders cI cJ cZ h_this h_this_book h_this_now h_this_width h_this_wide h_this_delay h_this_ahead h_this_after g_this_key g_this_sight g_this_pad g_this_counts g_this_isOne g_this_ways g_this_image g_this_isKept c_rules c_sights c_signs c_reason c_acts c_meetings c_clashes c_first c_where c_door_1 c_wider_1 c_ordersFound c_firstOrder c_least c_leastOrder c_book c_now_1 c_width c_wide c_delay c_ahead c_after) := hD
  refine lv_aload_n hx hb dX11_layOrders_4 rfl (lv_at hl 0 rfl) ?_
  refine lv_iconst (v := 0) hx hb dX11_layOrders_5 (by decide) ?_
  refine va_put (D := (dC, dI)) (ci := 11) (v := .int 0) (ty := .int) (C := RX11) (T := TX11) (N := 30) hx hb hts in_X11_layOrders_X11 tyX11 tyX11_ok nmX11 hown hK hP hD hS 0 rfl rfl 21 (by decide) (hts _ m_X11_layOrders_f151) (fun _ h9 => h9) rfl (by decide +kernel) rfl rfl (Nat.le_of_ble_eq_true rfl) dX11_layOrders_6 (fun H locs hP hD hS => ?_)
  have hP : va_P (dC, dI) vwCl (w_X11_layOrders cI cJ cZ h_this h_this_book h_this_now h_this_width h_this_wide h_this_delay h_this_ahead h_this_after g_this_key g_this_sight g_this_pad g_this_counts g_this_isOne g_this_ways g_this_image g_this_isKept c_rules c_sights c_signs c_reason c_acts c_meetings c_clashes c_first c_where c_door_1 c_wider_1 0 c_firstOrder c_least c_leastOrder c_book c_now_1 c_width c_wide c_delay c_ahead c_after) H := hP
  have hD : va_D A (w_X11_layOrders cI cJ cZ h_this h_this_book h_this_now h_this_width h_this_wide h_this_delay h_this_ahead h_this_after g_this_key g_this_sight g_this_pad g_this_counts g_this_isOne g_this_ways g_this_image g_this_isKept c_rules c_sights c_signs c_reason c_acts c_meetings c_clashes c_first c_where c_door_1 c_wider_1 0 c_firstOrder c_least c_leastOrder c_book c_now_1 c_width c_wide c_delay c_ahead c_after) := hD
  refine lv_aload_n hx hb dX11_layOrders_9 rfl (lv_at hl 0 rfl) ?_
  refine lv_bipush (v := (-6)) hx hb dX11_layOrders_10 (by decide) ?_
  refine va_put (D := (dC, dI)) (ci := 11) (v := .int (-6)) (ty := .int) (C := RX11) (T := TX11) (N := 30) hx hb hts in_X11_layOrders_X11 tyX11 tyX11_ok nmX11 hown hK hP hD hS 0 rfl rfl 22 (by decide) (hts _ m_X11_layOrders_f154) (fun _ h9 => h9) rfl (by decide +kernel) rfl rfl (Nat.le_of_ble_eq_true rfl) dX11_layOrders_12 (fun H locs hP hD hS => ?_)
  have hP : va_P (dC, dI) vwCl (w_X11_layOrders cI cJ cZ h_this h_this_book h_this_now h_this_width h_this_wide h_this_delay h_this_ahead h_this_after g_this_key g_this_sight g_this_pad g_this_counts g_this_isOne g_this_ways g_this_image g_this_isKept c_rules c_sights c_signs c_reason c_acts c_meetings c_clashes c_first c_where c_door_1 c_wider_1 0 (-6) c_least c_leastOrder c_book c_now_1 c_width c_wide c_delay c_ahead c_after) H := hP
  have hD : va_D A (w_X11_layOrders cI cJ cZ h_this h_this_book h_this_now h_this_width h_this_wide h_this_delay h_this_ahead h_this_after g_this_key g_this_sight g_this_pad g_this_counts g_this_isOne g_this_ways g_this_image g_this_isKept c_rules c_sights c_signs c_reason c_acts c_meetings c_clashes c_first c_where c_door_1 c_wider_1 0 (-6) c_least c_leastOrder c_book c_now_1 c_width c_wide c_delay c_ahead c_after) := hD
  refine lv_aload_n hx hb dX11_layOrders_15 rfl (lv_at hl 0 rfl) ?_
  refine lv_ldc (v := 1000000) hx hb hown (hts _ m_X11_layOrders_k157) dX11_layOrders_16 ?_
  refine va_put (D := (dC, dI)) (ci := 11) (v := .int 1000000) (ty := .int) (C := RX11) (T := TX11) (N := 30) hx hb hts in_X11_layOrders_X11 tyX11 tyX11_ok nmX11 hown hK hP hD hS 0 rfl rfl 23 (by decide) (hts _ m_X11_layOrders_f158) (fun _ h9 => h9) rfl (by decide +kernel) rfl rfl (Nat.le_of_ble_eq_true rfl) dX11_layOrders_18 (fun H locs hP hD hS => ?_)
  have hP : va_P (dC, dI) vwCl (w_X11_layOrders cI cJ cZ h_this h_this_book h_this_now h_this_width h_this_wide h_this_delay h_this_ahead h_this_after g_this_key g_this_sight g_this_pad g_this_counts g_this_isOne g_this_ways g_this_image g_this_isKept c_rules c_sights c_signs c_reason c_acts c_meetings c_clashes c_first c_where c_door_1 c_wider_1 0 (-6) 1000000 c_leastOrder c_book c_now_1 c_width c_wide c_delay c_ahead c_after) H := hP
  have hD : va_D A (w_X11_layOrders cI cJ cZ h_this h_this_book h_this_now h_this_width h_this_wide h_this_delay h_this_ahead h_this_after g_this_key g_this_sight g_this_pad g_this_counts g_this_isOne g_this_ways g_this_image g_this_isKept c_rules c_sights c_signs c_reason c_acts c_meetings c_clashes c_first c_where c_door_1 c_wider_1 0 (-6) 1000000 c_leastOrder c_book c_now_1 c_width c_wide c_delay c_ahead c_after) := hD
  refine lv_aload_n hx hb dX11_layOrders_21 rfl (lv_at hl 0 rfl) ?_
  refine lv_iconst (v := 0) hx hb dX11_layOrders_22 (by decide) ?_
  refine va_put (D := (dC, dI)) (ci := 11) (v := .int 0) (ty := .int) (C := RX11) (T := TX11) (N := 30) hx hb hts in_X11_layOrders_X11 tyX11 tyX11_ok nmX11 hown hK hP hD hS 0 rfl rfl 24 (by decide) (hts _ m_X11_layOrders_f161) (fun _ h9 => h9) rfl (by decide +kernel) rfl rfl (Nat.le_of_ble_eq_true rfl) dX11_layOrders_23 (fun H locs hP hD hS => ?_)
  have hP : va_P (dC, dI) vwCl (w_X11_layOrders cI cJ cZ h_this h_this_book h_this_now h_this_width h_this_wide h_this_delay h_this_ahead h_this_after g_this_key g_this_sight g_this_pad g_this_counts g_this_isOne g_this_ways g_this_image g_this_isKept c_rules c_sights c_signs c_reason c_acts c_meetings c_clashes c_first c_where c_door_1 c_wider_1 0 (-6) 1000000 0 c_book c_now_1 c_width c_wide c_delay c_ahead c_after) H := hP
  have hD : va_D A (w_X11_layOrders cI cJ cZ h_this h_this_book h_this_now h_this_width h_this_wide h_this_delay h_this_ahead h_this_after g_this_key g_this_sight g_this_pad g_this_counts g_this_isOne g_this_ways g_this_image g_this_isKept c_rules c_sights c_signs c_reason c_acts c_meetings c_clashes c_first c_where c_door_1 c_wider_1 0 (-6) 1000000 0 c_book c_now_1 c_width c_wide c_delay c_ahead c_after) := hD
  refine lv_iconst (v := 1) hx hb dX11_layOrders_26 (by decide) ?_
  refine lv_istore_n (lv' := [(2, .int 1), (0, .ref h_this), (1, .int l1)]) hx hb dX11_layOrders_27 rfl hl (by decide) rfl (fun ls hl => ?_)
  refine lv_iconst (v := 0) hx hb dX11_layOrders_28 (by decide) ?_
  refine lv_istore_n (lv' := [(3, .int 0), (2, .int 1), (0, .ref h_this), (1, .int l1)]) hx hb dX11_layOrders_29 rfl hl (by decide) rfl (fun ls hl => ?_)
  obtain ⟨l2_30x, l3_30x, hq_30, hf⟩ := bd2_some hf
  have K_30 : ∀ (ls : Array Slot), lv_has ls 6 [(0, .ref h_this), (1, .int l1), (2, .int l2_30x)] → W p l e rm_X11_layOrders s m args below meth c H locs 0 0 Z (F0 m 54 ls []) := by
    intro ls hl
    refine lv_iconst (v := 0) hx hb dX11_layOrders_54 (by decide) ?_
    refine lv_istore_n (lv' := [(3, .int 0), (0, .ref h_this), (1, .int l1), (2, .int l2_30x)]) hx hb dX11_layOrders_55 rfl hl (by decide) rfl (fun ls hl => ?_)
    obtain ⟨l3_56x, c_meetings_56x, c_clashes_56x, c_first_56x, c_where_56x, c_ordersFound_56x, c_firstOrder_56x, c_least_56x, c_leastOrder_56x, c_now_56x, hq_56, hf⟩ := bd10_some hf
    have K_56 : ∀ (H : Heap) (locs : List Loc) (ls : Array Slot), va_P (dC, dI) vwCl (w_X11_layOrders cI cJ cZ h_this h_this_book h_this_now h_this_width h_this_wide h_this_delay h_this_ahead h_this_after g_this_key g_this_sight g_this_pad g_this_counts g_this_isOne g_this_ways g_this_image g_this_isKept c_rules c_sights c_signs c_reason c_acts c_meetings_56x c_clashes_56x c_first_56x c_where_56x c_door_1 c_wider_1 c_ordersFound_56x c_firstOrder_56x c_least_56x c_leastOrder_56x c_book c_now_56x c_width c_wide c_delay c_ahead c_after) H → va_D A (w_X11_layOrders cI cJ cZ h_this h_this_book h_this_now h_this_width h_this_wide h_this_delay h_this_ahead h_this_after g_this_key g_this_sight g_this_pad g_this_counts g_this_isOne g_this_ways g_this_image g_this_isKept c_rules c_sights c_signs c_reason c_acts c_meetings_56x c_clashes_56x c_first_56x c_where_56x c_door_1 c_wider_1 c_ordersFound_56x c_firstOrder_56x c_least_56x c_leastOrder_56x c_book c_now_56x c_width c_wide c_delay c_ahead c_after) → va_S A s.heap H locs → lv_has ls 6 [] → W p l e rm_X11_layOrders s m args below meth c H locs 0 0 Z (F0 m 207 ls []) := by
      intro H locs ls hP hD hS hl
      have e_f := Option.some.inj hf
      cases e_f
      exact hret hP hD hS dX11_layOrders_207
    have L_56 : ∀ (n : Nat) (l3_56 : Int32) (c_meetings_56 : Int32) (c_clashes_56 : Int32) (c_first_56 : Int32) (c_where_56 : Int32) (c_ordersFound_56 : Int32) (c_firstOrder_56 : Int32) (c_least_56 : Int32) (c_leastOrder_56 : Int32) (c_now_56 : Nat → Int32) (H : Heap) (locs : List Loc) (ls : Array Slot), va_P (dC, dI) vwCl (w_X11_layOrders cI cJ cZ h_this h_this_book h_this_now h_this_width h_this_wide h_this_delay h_this_ahead h_this_after g_this_key g_this_sight g_this_pad g_this_counts g_this_isOne g_this_ways g_this_image g_this_isKept c_rules c_sights c_signs c_reason c_acts c_meetings_56 c_clashes_56 c_first_56 c_where_56 c_door_1 c_wider_1 c_ordersFound_56 c_firstOrder_56 c_least_56 c_leastOrder_56 c_book c_now_56 c_width c_wide c_delay c_ahead c_after) H → va_D A (w_X11_layOrders cI cJ cZ h_this h_this_book h_this_now h_this_width h_this_wide h_this_delay h_this_ahead h_this_after g_this_key g_this_sight g_this_pad g_this_counts g_this_isOne g_this_ways g_this_image g_this_isKept c_rules c_sights c_signs c_reason c_acts c_meetings_56 c_clashes_56 c_first_56 c_where_56 c_door_1 c_wider_1 c_ordersFound_56 c_firstOrder_56 c_least_56 c_leastOrder_56 c_book c_now_56 c_width c_wide c_delay c_ahead c_after) → va_S A s.heap H locs → lv_has ls 6 [(0, .ref h_this), (1, .int l1), (2, .int l2_30x), (3, .int l3_56)] → loopN (fun (q : Int32 × Int32 × Int32 × Int32 × Int32 × Int32 × Int32 × Int32 × Int32 × (Nat → Int32)) => f_X11_layOrders_b56 c_rules c_book c_width c_wide c_delay c_ahead c_after l1 c_door_1 c_wider_1 l2_30x q.1 q.2.1 q.2.2.1 q.2.2.2.1 q.2.2.2.2.1 q.2.2.2.2.2.1 q.2.2.2.2.2.2.1 q.2.2.2.2.2.2.2.1 q.2.2.2.2.2.2.2.2.1 q.2.2.2.2.2.2.2.2.2) n (l3_56, c_meetings_56, c_clashes_56, c_first_56, c_where_56, c_ordersFound_56, c_firstOrder_56, c_least_56, c_leastOrder_56, c_now_56) = some (l3_56x, c_meetings_56x, c_clashes_56x, c_first_56x, c_where_56x, c_ordersFound_56x, c_firstOrder_56x, c_least_56x, c_leastOrder_56x, c_now_56x) → W p l e rm_X11_layOrders s m args below meth c H locs 0 0 Z (F0 m 56 ls []) := by
      intro n
      induction n with
      | zero => intro l3_56 c_meetings_56 c_clashes_56 c_first_56 c_where_56 c_ordersFound_56 c_firstOrder_56 c_least_56 c_leastOrder_56 c_now_56 H locs ls hP hD hS hl hq; exact (loopN_zero hq).elim
      | succ n ih_56 =>
        intro l3_56 c_meetings_56 c_clashes_56 c_first_56 c_where_56 c_ordersFound_56 c_firstOrder_56 c_least_56 c_leastOrder_56 c_now_56 H locs ls hP hD hS hl hq
        obtain ⟨o_56, hf, ho1_56, ho2_56⟩ := loopN_step hq
        have hf : f_X11_layOrders_b56 c_rules c_book c_width c_wide c_delay c_ahead c_after l1 c_door_1 c_wider_1 l2_30x l3_56 c_meetings_56 c_clashes_56 c_first_56 c_where_56 c_ordersFound_56 c_firstOrder_56 c_least_56 c_leastOrder_56 c_now_56 = some o_56 := hf
        unfold f_X11_layOrders_b56 at hf
        have J_198 : ∀ (l3_198j : Int32) (s1_198j : Int32) (c_meetings_198j : Int32) (c_clashes_198j : Int32) (c_first_198j : Int32) (c_where_198j : Int32) (c_ordersFound_198j : Int32) (c_firstOrder_198j : Int32) (c_least_198j : Int32) (c_leastOrder_198j : Int32) (c_now_198j : Nat → Int32) (H : Heap) (locs : List Loc) (ls : Array Slot), va_P (dC, dI) vwCl (w_X11_layOrders cI cJ cZ h_this h_this_book h_this_now h_this_width h_this_wide h_this_delay h_this_ahead h_this_after g_this_key g_this_sight g_this_pad g_this_counts g_this_isOne g_this_ways g_this_image g_this_isKept c_rules c_sights c_signs c_reason c_acts c_meetings_198j c_clashes_198j c_first_198j c_where_198j c_door_1 c_wider_1 c_ordersFound_198j c_firstOrder_198j c_least_198j c_leastOrder_198j c_book c_now_198j c_width c_wide c_delay c_ahead c_after) H → va_D A (w_X11_layOrders cI cJ cZ h_this h_this_book h_this_now h_this_width h_this_wide h_this_delay h_this_ahead h_this_after g_this_key g_this_sight g_this_pad g_this_counts g_this_isOne g_this_ways g_this_image g_this_isKept c_rules c_sights c_signs c_reason c_acts c_meetings_198j c_clashes_198j c_first_198j c_where_198j c_door_1 c_wider_1 c_ordersFound_198j c_firstOrder_198j c_least_198j c_leastOrder_198j c_book c_now_198j c_width c_wide c_delay c_ahead c_after) → va_S A s.heap H locs → lv_has ls 6 [(0, .ref h_this), (1, .int l1), (2, .int l2_30x), (3, .int l3_198j)] → f_X11_layOrders_j198 l3_198j c_meetings_198j c_clashes_198j c_first_198j c_where_198j c_ordersFound_198j c_firstOrder_198j c_leastOrder_198j c_now_198j s1_198j = some o_56 → W p l e rm_X11_layOrders s m args below meth c H locs 0 0 Z (F0 m 198 ls [.int s1_198j, .ref h_this]) := by
          intro l3_198j s1_198j c_meetings_198j c_clashes_198j c_first_198j c_where_198j c_ordersFound_198j c_firstOrder_198j c_least_198j c_leastOrder_198j c_now_198j H locs ls hP hD hS hl hf
          unfold f_X11_layOrders_j198 at hf
          refine va_put (D := (dC, dI)) (ci := 11) (v := .int s1_198j) (ty := .int) (C := RX11) (T := TX11) (N := 30) hx hb hts in_X11_layOrders_X11 tyX11 tyX11_ok nmX11 hown hK hP hD hS 0 rfl rfl 23 (by decide) (hts _ m_X11_layOrders_f158) (fun _ h9 => h9) rfl (by decide +kernel) rfl rfl (Nat.le_of_ble_eq_true rfl) dX11_layOrders_198 (fun H locs hP hD hS => ?_)
          have hP : va_P (dC, dI) vwCl (w_X11_layOrders cI cJ cZ h_this h_this_book h_this_now h_this_width h_this_wide h_this_delay h_this_ahead h_this_after g_this_key g_this_sight g_this_pad g_this_counts g_this_isOne g_this_ways g_this_image g_this_isKept c_rules c_sights c_signs c_reason c_acts c_meetings_198j c_clashes_198j c_first_198j c_where_198j c_door_1 c_wider_1 c_ordersFound_198j c_firstOrder_198j s1_198j c_leastOrder_198j c_book c_now_198j c_width c_wide c_delay c_ahead c_after) H := hP
          have hD : va_D A (w_X11_layOrders cI cJ cZ h_this h_this_book h_this_now h_this_width h_this_wide h_this_delay h_this_ahead h_this_after g_this_key g_this_sight g_this_pad g_this_counts g_this_isOne g_this_ways g_this_image g_this_isKept c_rules c_sights c_signs c_reason c_acts c_meetings_198j c_clashes_198j c_first_198j c_where_198j c_door_1 c_wider_1 c_ordersFound_198j c_firstOrder_198j s1_198j c_leastOrder_198j c_book c_now_198j c_width c_wide c_delay c_ahead c_after) := hD
          refine lv_iinc (v := (l3_198j + 1)) (lv' := [(3, .int (l3_198j + 1)), (0, .ref h_this), (1, .int l1), (2, .int l2_30x)]) hx hb dX11_layOrders_201 hl (k := 3) rfl rfl (by decide) rfl (fun ls hl => ?_)
          refine lv_goto (tgt := 56) hx hb dX11_layOrders_204 (by decide) ?_
          exact ih_56 (l3_198j + 1) c_meetings_198j c_clashes_198j c_first_198j c_where_198j c_ordersFound_198j c_firstOrder_198j s1_198j c_leastOrder_198j c_now_198j H locs ls hP hD hS (lv_sub hl [1, 2, 3, 0] rfl) (ho1_56 _ (Option.some.inj hf).symm)
        have J_178 : ∀ (l3_178j : Int32) (l5_178j : Int32) (s1_178j : Int32) (c_meetings_178j : Int32) (c_clashes_178j : Int32) (c_first_178j : Int32) (c_where_178j : Int32) (c_ordersFound_178j : Int32) (c_firstOrder_178j : Int32) (c_least_178j : Int32) (c_leastOrder_178j : Int32) (c_now_178j : Nat → Int32) (H : Heap) (locs : List Loc) (ls : Array Slot), va_P (dC, dI) vwCl (w_X11_layOrders cI cJ cZ h_this h_this_book h_this_now h_this_width h_this_wide h_this_delay h_this_ahead h_this_after g_this_key g_this_sight g_this_pad g_this_counts g_this_isOne g_this_ways g_this_image g_this_isKept c_rules c_sights c_signs c_reason c_acts c_meetings_178j c_clashes_178j c_first_178j c_where_178j c_door_1 c_wider_1 c_ordersFound_178j c_firstOrder_178j c_least_178j c_leastOrder_178j c_book c_now_178j c_width c_wide c_delay c_ahead c_after) H → va_D A (w_X11_layOrders cI cJ cZ h_this h_this_book h_this_now h_this_width h_this_wide h_this_delay h_this_ahead h_this_after g_this_key g_this_sight g_this_pad g_this_counts g_this_isOne g_this_ways g_this_image g_this_isKept c_rules c_sights c_signs c_reason c_acts c_meetings_178j c_clashes_178j c_first_178j c_where_178j c_door_1 c_wider_1 c_ordersFound_178j c_firstOrder_178j c_least_178j c_leastOrder_178j c_book c_now_178j c_width c_wide c_delay c_ahead c_after) → va_S A s.heap H locs → lv_has ls 6 [(0, .ref h_this), (1, .int l1), (2, .int l2_30x), (3, .int l3_178j), (5, .int l5_178j)] → f_X11_layOrders_j178 l3_178j l5_178j c_meetings_178j c_clashes_178j c_first_178j c_where_178j c_ordersFound_178j c_firstOrder_178j c_least_178j c_now_178j s1_178j = some o_56 → W p l e rm_X11_layOrders s m args below meth c H locs 0 0 Z (F0 m 178 ls [.int s1_178j, .ref h_this]) := by
          intro l3_178j l5_178j s1_178j c_meetings_178j c_clashes_178j c_first_178j c_where_178j c_ordersFound_178j c_firstOrder_178j c_least_178j c_leastOrder_178j c_now_178j H locs ls hP hD hS hl hf
          unfold f_X11_layOrders_j178 at hf
          refine va_put (D := (dC, dI)) (ci := 11) (v := .int s1_178j) (ty := .int) (C := RX11) (T := TX11) (N := 30) hx hb hts in_X11_layOrders_X11 tyX11 tyX11_ok nmX11 hown hK hP hD hS 0 rfl rfl 24 (by decide) (hts _ m_X11_layOrders_f161) (fun _ h9 => h9) rfl (by decide +kernel) rfl rfl (Nat.le_of_ble_eq_true rfl) dX11_layOrders_178 (fun H locs hP hD hS => ?_)
          have hP : va_P (dC, dI) vwCl (w_X11_layOrders cI cJ cZ h_this h_this_book h_this_now h_this_width h_this_wide h_this_delay h_this_ahead h_this_after g_this_key g_this_sight g_this_pad g_this_counts g_this_isOne g_this_ways g_this_image g_this_isKept c_rules c_sights c_signs c_reason c_acts c_meetings_178j c_clashes_178j c_first_178j c_where_178j c_door_1 c_wider_1 c_ordersFound_178j c_firstOrder_178j c_least_178j s1_178j c_book c_now_178j c_width c_wide c_delay c_ahead c_after) H := hP
          have hD : va_D A (w_X11_layOrders cI cJ cZ h_this h_this_book h_this_now h_this_width h_this_wide h_this_delay h_this_ahead h_this_after g_this_key g_this_sight g_this_pad g_this_counts g_this_isOne g_this_ways g_this_image g_this_isKept c_rules c_sights c_signs c_reason c_acts c_meetings_178j c_clashes_178j c_first_178j c_where_178j c_door_1 c_wider_1 c_ordersFound_178j c_firstOrder_178j c_least_178j s1_178j c_book c_now_178j c_width c_wide c_delay c_ahead c_after) := hD
          refine lv_aload_n hx hb dX11_layOrders_181 rfl (lv_at hl 0 rfl) ?_
          refine lv_iload hx hb dX11_layOrders_182 (lv_at hl 4 rfl) ?_
          refine lv_if_eq (tgt := 194) hx hb dX11_layOrders_184 (by decide) (fun k_184 => ?_) (fun k_184 => ?_)
          · have hf := ite_t hf k_184
            refine lv_aload_n hx hb dX11_layOrders_194 rfl (lv_at hl 0 rfl) ?_
            refine va_get (D := (dC, dI)) (ci := 11) (v := .int c_least_178j) (C := RX11) (T := TX11) (N := 30) hx hb hts in_X11_layOrders_X11 hown hK hP 0 rfl rfl 23 (by decide) (hts _ m_X11_layOrders_f158) (fun _ h9 => h9) rfl dX11_layOrders_195 ?_
            exact J_198 l3_178j c_least_178j c_meetings_178j c_clashes_178j c_first_178j c_where_178j c_ordersFound_178j c_firstOrder_178j c_least_178j s1_178j c_now_178j H locs ls hP hD hS (lv_sub hl [0, 1, 2, 3] rfl) hf
          · have hf := ite_f hf k_184
            refine lv_aload_n hx hb dX11_layOrders_187 rfl (lv_at hl 0 rfl) ?_
            refine va_get (D := (dC, dI)) (ci := 11) (v := .int c_clashes_178j) (C := RX11) (T := TX11) (N := 30) hx hb hts in_X11_layOrders_X11 hown hK hP 0 rfl rfl 16 (by decide) (hts _ m_X11_layOrders_f126) (fun _ h9 => h9) rfl dX11_layOrders_188 ?_
            refine lv_goto (tgt := 198) hx hb dX11_layOrders_191 (by decide) ?_
            exact J_198 l3_178j c_clashes_178j c_meetings_178j c_clashes_178j c_first_178j c_where_178j c_ordersFound_178j c_firstOrder_178j c_least_178j s1_178j c_now_178j H locs ls hP hD hS (lv_sub hl [0, 1, 2, 3] rfl) hf
        have J_161 : ∀ (l3_161j : Int32) (l4_161j : Int32) (s0_161j : Int32) (c_meetings_161j : Int32) (c_clashes_161j : Int32) (c_first_161j : Int32) (c_where_161j : Int32) (c_ordersFound_161j : Int32) (c_firstOrder_161j : Int32) (c_least_161j : Int32) (c_leastOrder_161j : Int32) (c_now_161j : Nat → Int32) (H : Heap) (locs : List Loc) (ls : Array Slot), va_P (dC, dI) vwCl (w_X11_layOrders cI cJ cZ h_this h_this_book h_this_now h_this_width h_this_wide h_this_delay h_this_ahead h_this_after g_this_key g_this_sight g_this_pad g_this_counts g_this_isOne g_this_ways g_this_image g_this_isKept c_rules c_sights c_signs c_reason c_acts c_meetings_161j c_clashes_161j c_first_161j c_where_161j c_door_1 c_wider_1 c_ordersFound_161j c_firstOrder_161j c_least_161j c_leastOrder_161j c_book c_now_161j c_width c_wide c_delay c_ahead c_after) H → va_D A (w_X11_layOrders cI cJ cZ h_this h_this_book h_this_now h_this_width h_this_wide h_this_delay h_this_ahead h_this_after g_this_key g_this_sight g_this_pad g_this_counts g_this_isOne g_this_ways g_this_image g_this_isKept c_rules c_sights c_signs c_reason c_acts c_meetings_161j c_clashes_161j c_first_161j c_where_161j c_door_1 c_wider_1 c_ordersFound_161j c_firstOrder_161j c_least_161j c_leastOrder_161j c_book c_now_161j c_width c_wide c_delay c_ahead c_after) → va_S A s.heap H locs → lv_has ls 6 [(0, .ref h_this), (1, .int l1), (2, .int l2_30x), (3, .int l3_161j), (4, .int l4_161j)] → f_X11_layOrders_j161 l3_161j l4_161j c_meetings_161j c_clashes_161j c_first_161j c_where_161j c_ordersFound_161j c_firstOrder_161j c_least_161j c_leastOrder_161j c_now_161j s0_161j = some o_56 → W p l e rm_X11_layOrders s m args below meth c H locs 0 0 Z (F0 m 161 ls [.int s0_161j]) := by
          intro l3_161j l4_161j s0_161j c_meetings_161j c_clashes_161j c_first_161j c_where_161j c_ordersFound_161j c_firstOrder_161j c_least_161j c_leastOrder_161j c_now_161j H locs ls hP hD hS hl hf
          unfold f_X11_layOrders_j161 at hf
          refine lv_istore (lv' := [(5, .int s0_161j), (0, .ref h_this), (1, .int l1), (2, .int l2_30x), (3, .int l3_161j), (4, .int l4_161j)]) hx hb dX11_layOrders_161 hl (by decide) rfl (fun ls hl => ?_)
          refine lv_aload_n hx hb dX11_layOrders_163 rfl (lv_at hl 1 rfl) ?_
          refine lv_iload hx hb dX11_layOrders_164 (lv_at hl 0 rfl) ?_
          refine lv_if_eq (tgt := 174) hx hb dX11_layOrders_166 (by decide) (fun k_166 => ?_) (fun k_166 => ?_)
          · have hf := ite_t hf k_166
            refine lv_aload_n hx hb dX11_layOrders_174 rfl (lv_at hl 1 rfl) ?_
            refine va_get (D := (dC, dI)) (ci := 11) (v := .int c_leastOrder_161j) (C := RX11) (T := TX11) (N := 30) hx hb hts in_X11_layOrders_X11 hown hK hP 0 rfl rfl 24 (by decide) (hts _ m_X11_layOrders_f161) (fun _ h9 => h9) rfl dX11_layOrders_175 ?_
            exact J_178 l3_161j s0_161j c_leastOrder_161j c_meetings_161j c_clashes_161j c_first_161j c_where_161j c_ordersFound_161j c_firstOrder_161j c_least_161j c_leastOrder_161j c_now_161j H locs ls hP hD hS (lv_sub hl [1, 2, 3, 4, 0] rfl) hf
          · have hf := ite_f hf k_166
            refine lv_iload hx hb dX11_layOrders_169 (lv_at hl 5 rfl) ?_
            refine lv_goto (tgt := 178) hx hb dX11_layOrders_171 (by decide) ?_
            exact J_178 l3_161j s0_161j l4_161j c_meetings_161j c_clashes_161j c_first_161j c_where_161j c_ordersFound_161j c_firstOrder_161j c_least_161j c_leastOrder_161j c_now_161j H locs ls hP hD hS (lv_sub hl [1, 2, 3, 4, 0] rfl) hf
        have J_160 : ∀ (l3_160j : Int32) (l4_160j : Int32) (c_meetings_160j : Int32) (c_clashes_160j : Int32) (c_first_160j : Int32) (c_where_160j : Int32) (c_ordersFound_160j : Int32) (c_firstOrder_160j : Int32) (c_least_160j : Int32) (c_leastOrder_160j : Int32) (c_now_160j : Nat → Int32) (H : Heap) (locs : List Loc) (ls : Array Slot), va_P (dC, dI) vwCl (w_X11_layOrders cI cJ cZ h_this h_this_book h_this_now h_this_width h_this_wide h_this_delay h_this_ahead h_this_after g_this_key g_this_sight g_this_pad g_this_counts g_this_isOne g_this_ways g_this_image g_this_isKept c_rules c_sights c_signs c_reason c_acts c_meetings_160j c_clashes_160j c_first_160j c_where_160j c_door_1 c_wider_1 c_ordersFound_160j c_firstOrder_160j c_least_160j c_leastOrder_160j c_book c_now_160j c_width c_wide c_delay c_ahead c_after) H → va_D A (w_X11_layOrders cI cJ cZ h_this h_this_book h_this_now h_this_width h_this_wide h_this_delay h_this_ahead h_this_after g_this_key g_this_sight g_this_pad g_this_counts g_this_isOne g_this_ways g_this_image g_this_isKept c_rules c_sights c_signs c_reason c_acts c_meetings_160j c_clashes_160j c_first_160j c_where_160j c_door_1 c_wider_1 c_ordersFound_160j c_firstOrder_160j c_least_160j c_leastOrder_160j c_book c_now_160j c_width c_wide c_delay c_ahead c_after) → va_S A s.heap H locs → lv_has ls 6 [(0, .ref h_this), (1, .int l1), (2, .int l2_30x), (3, .int l3_160j), (4, .int l4_160j)] → f_X11_layOrders_j160 l3_160j l4_160j c_meetings_160j c_clashes_160j c_first_160j c_where_160j c_ordersFound_160j c_firstOrder_160j c_least_160j c_leastOrder_160j c_now_160j = some o_56 → W p l e rm_X11_layOrders s m args below meth c H locs 0 0 Z (F0 m 160 ls []) := by
          intro l3_160j l4_160j c_meetings_160j c_clashes_160j c_first_160j c_where_160j c_ordersFound_160j c_firstOrder_160j c_least_160j c_leastOrder_160j c_now_160j H locs ls hP hD hS hl hf
          unfold f_X11_layOrders_j160 at hf
          refine lv_iconst (v := 0) hx hb dX11_layOrders_160 (by decide) ?_
          exact J_161 l3_160j l4_160j 0 c_meetings_160j c_clashes_160j c_first_160j c_where_160j c_ordersFound_160j c_firstOrder_160j c_least_160j c_leastOrder_160j c_now_160j H locs ls hP hD hS (lv_sub hl [0, 1, 2, 3, 4] rfl) hf
        have J_156 : ∀ (l3_156j : Int32) (l4_156j : Int32) (c_meetings_156j : Int32) (c_clashes_156j : Int32) (c_first_156j : Int32) (c_where_156j : Int32) (c_ordersFound_156j : Int32) (c_firstOrder_156j : Int32) (c_least_156j : Int32) (c_leastOrder_156j : Int32) (c_now_156j : Nat → Int32) (H : Heap) (locs : List Loc) (ls : Array Slot), va_P (dC, dI) vwCl (w_X11_layOrders cI cJ cZ h_this h_this_book h_this_now h_this_width h_this_wide h_this_delay h_this_ahead h_this_after g_this_key g_this_sight g_this_pad g_this_counts g_this_isOne g_this_ways g_this_image g_this_isKept c_rules c_sights c_signs c_reason c_acts c_meetings_156j c_clashes_156j c_first_156j c_where_156j c_door_1 c_wider_1 c_ordersFound_156j c_firstOrder_156j c_least_156j c_leastOrder_156j c_book c_now_156j c_width c_wide c_delay c_ahead c_after) H → va_D A (w_X11_layOrders cI cJ cZ h_this h_this_book h_this_now h_this_width h_this_wide h_this_delay h_this_ahead h_this_after g_this_key g_this_sight g_this_pad g_this_counts g_this_isOne g_this_ways g_this_image g_this_isKept c_rules c_sights c_signs c_reason c_acts c_meetings_156j c_clashes_156j c_first_156j c_where_156j c_door_1 c_wider_1 c_ordersFound_156j c_firstOrder_156j c_least_156j c_leastOrder_156j c_book c_now_156j c_width c_wide c_delay c_ahead c_after) → va_S A s.heap H locs → lv_has ls 6 [(0, .ref h_this), (1, .int l1), (2, .int l2_30x), (3, .int l3_156j), (4, .int l4_156j)] → f_X11_layOrders_j156 l3_156j l4_156j c_meetings_156j c_clashes_156j c_first_156j c_where_156j c_ordersFound_156j c_firstOrder_156j c_least_156j c_leastOrder_156j c_now_156j = some o_56 → W p l e rm_X11_layOrders s m args below meth c H locs 0 0 Z (F0 m 156 ls []) := by
          intro l3_156j l4_156j c_meetings_156j c_clashes_156j c_first_156j c_where_156j c_ordersFound_156j c_firstOrder_156j c_least_156j c_leastOrder_156j c_now_156j H locs ls hP hD hS hl hf
          unfold f_X11_layOrders_j156 at hf
          refine lv_iconst (v := 1) hx hb dX11_layOrders_156 (by decide) ?_
          refine lv_goto (tgt := 161) hx hb dX11_layOrders_157 (by decide) ?_
          exact J_161 l3_156j l4_156j 1 c_meetings_156j c_clashes_156j c_first_156j c_where_156j c_ordersFound_156j c_firstOrder_156j c_least_156j c_leastOrder_156j c_now_156j H locs ls hP hD hS (lv_sub hl [0, 1, 2, 3, 4] rfl) hf
        have J_121 : ∀ (l3_121j : Int32) (l4_121j : Int32) (c_meetings_121j : Int32) (c_clashes_121j : Int32) (c_first_121j : Int32) (c_where_121j : Int32) (c_ordersFound_121j : Int32) (c_firstOrder_121j : Int32) (c_least_121j : Int32) (c_leastOrder_121j : Int32) (c_now_121j : Nat → Int32) (H : Heap) (locs : List Loc) (ls : Array Slot), va_P (dC, dI) vwCl (w_X11_layOrders cI cJ cZ h_this h_this_book h_this_now h_this_width h_this_wide h_this_delay h_this_ahead h_this_after g_this_key g_this_sight g_this_pad g_this_counts g_this_isOne g_this_ways g_this_image g_this_isKept c_rules c_sights c_signs c_reason c_acts c_meetings_121j c_clashes_121j c_first_121j c_where_121j c_door_1 c_wider_1 c_ordersFound_121j c_firstOrder_121j c_least_121j c_leastOrder_121j c_book c_now_121j c_width c_wide c_delay c_ahead c_after) H → va_D A (w_X11_layOrders cI cJ cZ h_this h_this_book h_this_now h_this_width h_this_wide h_this_delay h_this_ahead h_this_after g_this_key g_this_sight g_this_pad g_this_counts g_this_isOne g_this_ways g_this_image g_this_isKept c_rules c_sights c_signs c_reason c_acts c_meetings_121j c_clashes_121j c_first_121j c_where_121j c_door_1 c_wider_1 c_ordersFound_121j c_firstOrder_121j c_least_121j c_leastOrder_121j c_book c_now_121j c_width c_wide c_delay c_ahead c_after) → va_S A s.heap H locs → lv_has ls 6 [(0, .ref h_this), (1, .int l1), (2, .int l2_30x), (3, .int l3_121j), (4, .int l4_121j)] → f_X11_layOrders_j121 c_width c_wide c_delay c_door_1 c_wider_1 l3_121j l4_121j c_ordersFound_121j c_firstOrder_121j c_least_121j c_leastOrder_121j c_now_121j = some o_56 → W p l e rm_X11_layOrders s m args below meth c H locs 0 0 Z (F0 m 121 ls []) := by
          intro l3_121j l4_121j c_meetings_121j c_clashes_121j c_first_121j c_where_121j c_ordersFound_121j c_firstOrder_121j c_least_121j c_leastOrder_121j c_now_121j H locs ls hP hD hS hl hf
          unfold f_X11_layOrders_j121 at hf
          refine lv_aload_n hx hb dX11_layOrders_121 rfl (lv_at hl 0 rfl) ?_
          obtain ⟨c_meetings_122, c_clashes_122, c_first_122, c_where_122, hv_122, hf⟩ := bd4_some hf
          refine kWv (rV (C := RX11) [] [] S (c_X11_layMeetings l dC dI cI cJ cZ h_this h_this_now h_this_width h_this_wide h_this_delay h_this_book g_this_key h_this_ahead h_this_after g_this_sight g_this_pad g_this_counts g_this_isOne g_this_ways g_this_image g_this_isKept H.size c_rules c_sights c_signs c_reason c_acts c_meetings_121j c_clashes_121j c_first_121j c_where_121j c_door_1 c_wider_1 c_ordersFound_121j c_firstOrder_121j c_least_121j c_leastOrder_121j c_now_121j c_width c_wide c_delay c_meetings_122 c_clashes_122 c_first_122 c_where_122 hv_122) (cwV 0 hts gX11_layOrders_X11_layMeetings rfl rfl rfl (by decide +kernel) ⟨Nat.le_of_ble_eq_true rfl, Nat.le_of_ble_eq_true rfl⟩) (va_recv hK hP (ci := 11) (q0 := 0) rfl rfl) hP hD hK hN [0, 2, 3, 4, 5] rfl (by decide +kernel) rfl hl.1 rfl (Nat.le_of_ble_eq_true rfl) dX11_layOrders_122 ⟨Nat.le_of_ble_eq_true rfl, Nat.le_of_ble_eq_true rfl⟩) hP hD hS hA [0, 2, 3, 4, 5] rfl rfl [some 0, none, some 1, some 2, some 3, some 4, none, none] (by decide +kernel) rfl (fun H locs hP hD hS => ?_)
          have hP : va_P (dC, dI) vwCl (w_X11_layOrders cI cJ cZ h_this h_this_book h_this_now h_this_width h_this_wide h_this_delay h_this_ahead h_this_after g_this_key g_this_sight g_this_pad g_this_counts g_this_isOne g_this_ways g_this_image g_this_isKept c_rules c_sights c_signs c_reason c_acts c_meetings_122 c_clashes_122 c_first_122 c_where_122 c_door_1 c_wider_1 c_ordersFound_121j c_firstOrder_121j c_least_121j c_leastOrder_121j c_book c_now_121j c_width c_wide c_delay c_ahead c_after) H := hP
          have hD : va_D A (w_X11_layOrders cI cJ cZ h_this h_this_book h_this_now h_this_width h_this_wide h_this_delay h_this_ahead h_this_after g_this_key g_this_sight g_this_pad g_this_counts g_this_isOne g_this_ways g_this_image g_this_isKept c_rules c_sights c_signs c_reason c_acts c_meetings_122 c_clashes_122 c_first_122 c_where_122 c_door_1 c_wider_1 c_ordersFound_121j c_firstOrder_121j c_least_121j c_leastOrder_121j c_book c_now_121j c_width c_wide c_delay c_ahead c_after) := hD
          refine lv_aload_n hx hb dX11_layOrders_125 rfl (lv_at hl 0 rfl) ?_
          refine va_get (D := (dC, dI)) (ci := 11) (v := .int c_clashes_122) (C := RX11) (T := TX11) (N := 30) hx hb hts in_X11_layOrders_X11 hown hK hP 0 rfl rfl 16 (by decide) (hts _ m_X11_layOrders_f126) (fun _ h9 => h9) rfl dX11_layOrders_126 ?_
          refine lv_aload_n hx hb dX11_layOrders_129 rfl (lv_at hl 0 rfl) ?_
          refine va_get (D := (dC, dI)) (ci := 11) (v := .int c_least_121j) (C := RX11) (T := TX11) (N := 30) hx hb hts in_X11_layOrders_X11 hown hK hP 0 rfl rfl 23 (by decide) (hts _ m_X11_layOrders_f158) (fun _ h9 => h9) rfl dX11_layOrders_130 ?_
          refine lv_icmp_lt (tgt := 156) hx hb dX11_layOrders_133 (by decide) (fun k_133 => ?_) (fun k_133 => ?_)
          · have hf := ite_t hf k_133
            exact J_156 l3_121j l4_121j c_meetings_122 c_clashes_122 c_first_122 c_where_122 c_ordersFound_121j c_firstOrder_121j c_least_121j c_leastOrder_121j c_now_121j H locs ls hP hD hS (lv_sub hl [0, 1, 2, 3, 4] rfl) hf
          · have hf := ite_f hf k_133
            refine lv_aload_n hx hb dX11_layOrders_136 rfl (lv_at hl 0 rfl) ?_
            refine va_get (D := (dC, dI)) (ci := 11) (v := .int c_clashes_122) (C := RX11) (T := TX11) (N := 30) hx hb hts in_X11_layOrders_X11 hown hK hP 0 rfl rfl 16 (by decide) (hts _ m_X11_layOrders_f126) (fun _ h9 => h9) rfl dX11_layOrders_137 ?_
            refine lv_aload_n hx hb dX11_layOrders_140 rfl (lv_at hl 0 rfl) ?_
            refine va_get (D := (dC, dI)) (ci := 11) (v := .int c_least_121j) (C := RX11) (T := TX11) (N := 30) hx hb hts in_X11_layOrders_X11 hown hK hP 0 rfl rfl 23 (by decide) (hts _ m_X11_layOrders_f158) (fun _ h9 => h9) rfl dX11_layOrders_141 ?_
            refine lv_icmp_ne (tgt := 160) hx hb dX11_layOrders_144 (by decide) (fun k_144 => ?_) (fun k_144 => ?_)
            · have hf := ite_f hf k_144
              exact J_160 l3_121j l4_121j c_meetings_122 c_clashes_122 c_first_122 c_where_122 c_ordersFound_121j c_firstOrder_121j c_least_121j c_leastOrder_121j c_now_121j H locs ls hP hD hS (lv_sub hl [0, 1, 2, 3, 4] rfl) hf
            · have hf := ite_t hf k_144
              refine lv_iload hx hb dX11_layOrders_147 (lv_at hl 4 rfl) ?_
              refine lv_aload_n hx hb dX11_layOrders_149 rfl (lv_at hl 0 rfl) ?_
              refine va_get (D := (dC, dI)) (ci := 11) (v := .int c_leastOrder_121j) (C := RX11) (T := TX11) (N := 30) hx hb hts in_X11_layOrders_X11 hown hK hP 0 rfl rfl 24 (by decide) (hts _ m_X11_layOrders_f161) (fun _ h9 => h9) rfl dX11_layOrders_150 ?_
              refine lv_icmp_ge (tgt := 160) hx hb dX11_layOrders_153 (by decide) (fun k_153 => ?_) (fun k_153 => ?_)
              · have hf := ite_t hf k_153
                exact J_160 l3_121j l4_121j c_meetings_122 c_clashes_122 c_first_122 c_where_122 c_ordersFound_121j c_firstOrder_121j c_least_121j c_leastOrder_121j c_now_121j H locs ls hP hD hS (lv_sub hl [0, 1, 2, 3, 4] rfl) hf
              · have hf := ite_f hf k_153
                exact J_156 l3_121j l4_121j c_meetings_122 c_clashes_122 c_first_122 c_where_122 c_ordersFound_121j c_firstOrder_121j c_least_121j c_leastOrder_121j c_now_121j H locs ls hP hD hS (lv_sub hl [0, 1, 2, 3, 4] rfl) hf
        have J_108 : ∀ (l3_108j : Int32) (l4_108j : Int32) (s1_108j : Int32) (c_meetings_108j : Int32) (c_clashes_108j : Int32) (c_first_108j : Int32) (c_where_108j : Int32) (c_ordersFound_108j : Int32) (c_firstOrder_108j : Int32) (c_least_108j : Int32) (c_leastOrder_108j : Int32) (c_now_108j : Nat → Int32) (H : Heap) (locs : List Loc) (ls : Array Slot), va_P (dC, dI) vwCl (w_X11_layOrders cI cJ cZ h_this h_this_book h_this_now h_this_width h_this_wide h_this_delay h_this_ahead h_this_after g_this_key g_this_sight g_this_pad g_this_counts g_this_isOne g_this_ways g_this_image g_this_isKept c_rules c_sights c_signs c_reason c_acts c_meetings_108j c_clashes_108j c_first_108j c_where_108j c_door_1 c_wider_1 c_ordersFound_108j c_firstOrder_108j c_least_108j c_leastOrder_108j c_book c_now_108j c_width c_wide c_delay c_ahead c_after) H → va_D A (w_X11_layOrders cI cJ cZ h_this h_this_book h_this_now h_this_width h_this_wide h_this_delay h_this_ahead h_this_after g_this_key g_this_sight g_this_pad g_this_counts g_this_isOne g_this_ways g_this_image g_this_isKept c_rules c_sights c_signs c_reason c_acts c_meetings_108j c_clashes_108j c_first_108j c_where_108j c_door_1 c_wider_1 c_ordersFound_108j c_firstOrder_108j c_least_108j c_leastOrder_108j c_book c_now_108j c_width c_wide c_delay c_ahead c_after) → va_S A s.heap H locs → lv_has ls 6 [(0, .ref h_this), (1, .int l1), (2, .int l2_30x), (3, .int l3_108j), (4, .int l4_108j)] → f_X11_layOrders_j108 c_width c_wide c_delay c_door_1 c_wider_1 l3_108j l4_108j c_ordersFound_108j c_least_108j c_leastOrder_108j c_now_108j s1_108j = some o_56 → W p l e rm_X11_layOrders s m args below meth c H locs 0 0 Z (F0 m 108 ls [.int s1_108j, .ref h_this]) := by
          intro l3_108j l4_108j s1_108j c_meetings_108j c_clashes_108j c_first_108j c_where_108j c_ordersFound_108j c_firstOrder_108j c_least_108j c_leastOrder_108j c_now_108j H locs ls hP hD hS hl hf
          unfold f_X11_layOrders_j108 at hf
          refine va_put (D := (dC, dI)) (ci := 11) (v := .int s1_108j) (ty := .int) (C := RX11) (T := TX11) (N := 30) hx hb hts in_X11_layOrders_X11 tyX11 tyX11_ok nmX11 hown hK hP hD hS 0 rfl rfl 22 (by decide) (hts _ m_X11_layOrders_f154) (fun _ h9 => h9) rfl (by decide +kernel) rfl rfl (Nat.le_of_ble_eq_true rfl) dX11_layOrders_108 (fun H locs hP hD hS => ?_)
          have hP : va_P (dC, dI) vwCl (w_X11_layOrders cI cJ cZ h_this h_this_book h_this_now h_this_width h_this_wide h_this_delay h_this_ahead h_this_after g_this_key g_this_sight g_this_pad g_this_counts g_this_isOne g_this_ways g_this_image g_this_isKept c_rules c_sights c_signs c_reason c_acts c_meetings_108j c_clashes_108j c_first_108j c_where_108j c_door_1 c_wider_1 c_ordersFound_108j s1_108j c_least_108j c_leastOrder_108j c_book c_now_108j c_width c_wide c_delay c_ahead c_after) H := hP
          have hD : va_D A (w_X11_layOrders cI cJ cZ h_this h_this_book h_this_now h_this_width h_this_wide h_this_delay h_this_ahead h_this_after g_this_key g_this_sight g_this_pad g_this_counts g_this_isOne g_this_ways g_this_image g_this_isKept c_rules c_sights c_signs c_reason c_acts c_meetings_108j c_clashes_108j c_first_108j c_where_108j c_door_1 c_wider_1 c_ordersFound_108j s1_108j c_least_108j c_leastOrder_108j c_book c_now_108j c_width c_wide c_delay c_ahead c_after) := hD
          refine lv_aload_n hx hb dX11_layOrders_111 rfl (lv_at hl 0 rfl) ?_
          refine lv_dup hx hb dX11_layOrders_112 rfl ?_
          refine va_get (D := (dC, dI)) (ci := 11) (v := .int c_ordersFound_108j) (C := RX11) (T := TX11) (N := 30) hx hb hts in_X11_layOrders_X11 hown hK hP 0 rfl rfl 21 (by decide) (hts _ m_X11_layOrders_f151) (fun _ h9 => h9) rfl dX11_layOrders_113 ?_
          refine lv_iconst (v := 1) hx hb dX11_layOrders_116 (by decide) ?_
          refine lv_iadd hx hb dX11_layOrders_117 ?_
          refine va_put (D := (dC, dI)) (ci := 11) (v := .int (c_ordersFound_108j + 1)) (ty := .int) (C := RX11) (T := TX11) (N := 30) hx hb hts in_X11_layOrders_X11 tyX11 tyX11_ok nmX11 hown hK hP hD hS 0 rfl rfl 21 (by decide) (hts _ m_X11_layOrders_f151) (fun _ h9 => h9) rfl (by decide +kernel) rfl rfl (Nat.le_of_ble_eq_true rfl) dX11_layOrders_118 (fun H locs hP hD hS => ?_)
          have hP : va_P (dC, dI) vwCl (w_X11_layOrders cI cJ cZ h_this h_this_book h_this_now h_this_width h_this_wide h_this_delay h_this_ahead h_this_after g_this_key g_this_sight g_this_pad g_this_counts g_this_isOne g_this_ways g_this_image g_this_isKept c_rules c_sights c_signs c_reason c_acts c_meetings_108j c_clashes_108j c_first_108j c_where_108j c_door_1 c_wider_1 (c_ordersFound_108j + 1) s1_108j c_least_108j c_leastOrder_108j c_book c_now_108j c_width c_wide c_delay c_ahead c_after) H := hP
          have hD : va_D A (w_X11_layOrders cI cJ cZ h_this h_this_book h_this_now h_this_width h_this_wide h_this_delay h_this_ahead h_this_after g_this_key g_this_sight g_this_pad g_this_counts g_this_isOne g_this_ways g_this_image g_this_isKept c_rules c_sights c_signs c_reason c_acts c_meetings_108j c_clashes_108j c_first_108j c_where_108j c_door_1 c_wider_1 (c_ordersFound_108j + 1) s1_108j c_least_108j c_leastOrder_108j c_book c_now_108j c_width c_wide c_delay c_ahead c_after) := hD
          exact J_121 l3_108j l4_108j c_meetings_108j c_clashes_108j c_first_108j c_where_108j (c_ordersFound_108j + 1) s1_108j c_least_108j c_leastOrder_108j c_now_108j H locs ls hP hD hS (lv_sub hl [0, 1, 2, 3, 4] rfl) hf
        have J_99 : ∀ (l3_99j : Int32) (l4_99j : Int32) (c_meetings_99j : Int32) (c_clashes_99j : Int32) (c_first_99j : Int32) (c_where_99j : Int32) (c_ordersFound_99j : Int32) (c_firstOrder_99j : Int32) (c_least_99j : Int32) (c_leastOrder_99j : Int32) (c_now_99j : Nat → Int32) (H : Heap) (locs : List Loc) (ls : Array Slot), va_P (dC, dI) vwCl (w_X11_layOrders cI cJ cZ h_this h_this_book h_this_now h_this_width h_this_wide h_this_delay h_this_ahead h_this_after g_this_key g_this_sight g_this_pad g_this_counts g_this_isOne g_this_ways g_this_image g_this_isKept c_rules c_sights c_signs c_reason c_acts c_meetings_99j c_clashes_99j c_first_99j c_where_99j c_door_1 c_wider_1 c_ordersFound_99j c_firstOrder_99j c_least_99j c_leastOrder_99j c_book c_now_99j c_width c_wide c_delay c_ahead c_after) H → va_D A (w_X11_layOrders cI cJ cZ h_this h_this_book h_this_now h_this_width h_this_wide h_this_delay h_this_ahead h_this_after g_this_key g_this_sight g_this_pad g_this_counts g_this_isOne g_this_ways g_this_image g_this_isKept c_rules c_sights c_signs c_reason c_acts c_meetings_99j c_clashes_99j c_first_99j c_where_99j c_door_1 c_wider_1 c_ordersFound_99j c_firstOrder_99j c_least_99j c_leastOrder_99j c_book c_now_99j c_width c_wide c_delay c_ahead c_after) → va_S A s.heap H locs → lv_has ls 6 [(0, .ref h_this), (1, .int l1), (2, .int l2_30x), (3, .int l3_99j), (4, .int l4_99j)] → f_X11_layOrders_j99 c_width c_wide c_delay c_door_1 c_wider_1 l3_99j l4_99j c_ordersFound_99j c_least_99j c_leastOrder_99j c_now_99j = some o_56 → W p l e rm_X11_layOrders s m args below meth c H locs 0 0 Z (F0 m 99 ls [.ref h_this]) := by
          intro l3_99j l4_99j c_meetings_99j c_clashes_99j c_first_99j c_where_99j c_ordersFound_99j c_firstOrder_99j c_least_99j c_leastOrder_99j c_now_99j H locs ls hP hD hS hl hf
          unfold f_X11_layOrders_j99 at hf
          refine lv_iload hx hb dX11_layOrders_99 (lv_at hl 4 rfl) ?_
          refine lv_goto (tgt := 108) hx hb dX11_layOrders_101 (by decide) ?_
          exact J_108 l3_99j l4_99j l4_99j c_meetings_99j c_clashes_99j c_first_99j c_where_99j c_ordersFound_99j c_firstOrder_99j c_least_99j c_leastOrder_99j c_now_99j H locs ls hP hD hS (lv_sub hl [0, 1, 2, 3, 4] rfl) hf
        refine lv_iload_n hx hb dX11_layOrders_56 rfl (lv_at hl 3 rfl) ?_
        refine lv_iload_n hx hb dX11_layOrders_57 rfl (lv_at hl 2 rfl) ?_
        refine lv_icmp_ge (tgt := 207) hx hb dX11_layOrders_58 (by decide) (fun k_58 => ?_) (fun k_58 => ?_)
        · have hf := ite_t hf k_58
          have e_56 := ho2_56 _ (Option.some.inj hf).symm
          cases e_56
          exact K_56 H locs ls hP hD hS (lv_sub hl [] rfl)
        · have hf := ite_f hf k_58
          refine lv_aload_n hx hb dX11_layOrders_61 rfl (lv_at hl 0 rfl) ?_
          refine lv_iload_n hx hb dX11_layOrders_62 rfl (lv_at hl 1 rfl) ?_
          refine lv_iload_n hx hb dX11_layOrders_63 rfl (lv_at hl 3 rfl) ?_
          obtain ⟨r_64, c_now_64, hv_64, hf⟩ := bd2_some hf
          refine kWi (rV (C := RX11) [.int l1, .int l3_56] [] S (c_X11_layRow l dC dI cI cJ cZ h_this h_this_book h_this_now h_this_width g_this_key h_this_wide h_this_delay h_this_ahead h_this_after g_this_sight g_this_pad g_this_counts g_this_isOne g_this_ways g_this_image g_this_isKept H.size c_rules c_sights c_signs c_reason c_acts c_meetings_56 c_clashes_56 c_first_56 c_where_56 c_door_1 c_wider_1 c_ordersFound_56 c_firstOrder_56 c_least_56 c_leastOrder_56 c_book c_now_56 l1 l3_56 r_64 c_now_64 hv_64) (cwV 2 hts gX11_layOrders_X11_layRow rfl rfl rfl (by decide +kernel) ⟨Nat.le_of_ble_eq_true rfl, Nat.le_of_ble_eq_true rfl⟩) (va_recv hK hP (ci := 11) (q0 := 0) rfl rfl) hP hD hK hN [0, 1, 2] rfl (by decide +kernel) rfl hl.1 rfl (Nat.le_of_ble_eq_true rfl) dX11_layOrders_64 ⟨Nat.le_of_ble_eq_true rfl, Nat.le_of_ble_eq_true rfl⟩) hP hD hS hA [0, 1, 2] rfl rfl [some 0, some 1, some 2, none, none, none, none, none] (by decide +kernel) rfl (fun H locs hP hD hS => ?_)
          have hP : va_P (dC, dI) vwCl (w_X11_layOrders cI cJ cZ h_this h_this_book h_this_now h_this_width h_this_wide h_this_delay h_this_ahead h_this_after g_this_key g_this_sight g_this_pad g_this_counts g_this_isOne g_this_ways g_this_image g_this_isKept c_rules c_sights c_signs c_reason c_acts c_meetings_56 c_clashes_56 c_first_56 c_where_56 c_door_1 c_wider_1 c_ordersFound_56 c_firstOrder_56 c_least_56 c_leastOrder_56 c_book c_now_64 c_width c_wide c_delay c_ahead c_after) H := hP
          have hD : va_D A (w_X11_layOrders cI cJ cZ h_this h_this_book h_this_now h_this_width h_this_wide h_this_delay h_this_ahead h_this_after g_this_key g_this_sight g_this_pad g_this_counts g_this_isOne g_this_ways g_this_image g_this_isKept c_rules c_sights c_signs c_reason c_acts c_meetings_56 c_clashes_56 c_first_56 c_where_56 c_door_1 c_wider_1 c_ordersFound_56 c_firstOrder_56 c_least_56 c_leastOrder_56 c_book c_now_64 c_width c_wide c_delay c_ahead c_after) := hD
          refine lv_istore (lv' := [(4, .int r_64), (0, .ref h_this), (1, .int l1), (2, .int l2_30x), (3, .int l3_56)]) hx hb dX11_layOrders_67 hl (by decide) rfl (fun ls hl => ?_)
          refine lv_iload hx hb dX11_layOrders_69 (lv_at hl 0 rfl) ?_
          refine lv_if_lt (tgt := 201) hx hb dX11_layOrders_71 (by decide) (fun k_71 => ?_) (fun k_71 => ?_)
          · have hf := ite_t hf k_71
            refine lv_iinc (v := (l3_56 + 1)) (lv' := [(3, .int (l3_56 + 1)), (4, .int r_64), (0, .ref h_this), (1, .int l1), (2, .int l2_30x)]) hx hb dX11_layOrders_201 hl (k := 4) rfl rfl (by decide) rfl (fun ls hl => ?_)
            refine lv_goto (tgt := 56) hx hb dX11_layOrders_204 (by decide) ?_
            exact ih_56 (l3_56 + 1) c_meetings_56 c_clashes_56 c_first_56 c_where_56 c_ordersFound_56 c_firstOrder_56 c_least_56 c_leastOrder_56 c_now_64 H locs ls hP hD hS (lv_sub hl [2, 3, 4, 0] rfl) (ho1_56 _ (Option.some.inj hf).symm)
          · have hf := ite_f hf k_71
            refine lv_aload_n hx hb dX11_layOrders_74 rfl (lv_at hl 1 rfl) ?_
            refine lv_iload_n hx hb dX11_layOrders_75 rfl (lv_at hl 2 rfl) ?_
            obtain ⟨r_76, hv_76, hf⟩ := bd1_some hf
            refine kSi (rV (C := RX11) [.int l1] [] S (c_X11_keepsRules l dC dI cI cJ cZ h_this h_this_now h_this_ahead h_this_after h_this_book h_this_width g_this_key h_this_wide h_this_delay g_this_sight g_this_pad g_this_counts g_this_isOne g_this_ways g_this_image g_this_isKept H.size c_rules c_sights c_signs c_reason c_acts c_meetings_56 c_clashes_56 c_first_56 c_where_56 c_door_1 c_wider_1 c_ordersFound_56 c_firstOrder_56 c_least_56 c_leastOrder_56 c_now_64 c_ahead c_after l1 r_76 hv_76) (cwV 1 hts gX11_layOrders_X11_keepsRules rfl rfl rfl (by decide +kernel) ⟨Nat.le_of_ble_eq_true rfl, Nat.le_of_ble_eq_true rfl⟩) (va_recv hK hP (ci := 11) (q0 := 0) rfl rfl) hP hD hK hN [0, 2, 6, 7] rfl (by decide +kernel) rfl hl.1 rfl (Nat.le_of_ble_eq_true rfl) dX11_layOrders_76 ⟨Nat.le_of_ble_eq_true rfl, Nat.le_of_ble_eq_true rfl⟩) ?_
            refine lv_if_eq (tgt := 121) hx hb dX11_layOrders_79 (by decide) (fun k_79 => ?_) (fun k_79 => ?_)
            · have hf := ite_t hf k_79
              exact J_121 l3_56 r_64 c_meetings_56 c_clashes_56 c_first_56 c_where_56 c_ordersFound_56 c_firstOrder_56 c_least_56 c_leastOrder_56 c_now_64 H locs ls hP hD hS (lv_sub hl [1, 2, 3, 4, 0] rfl) hf
            · have hf := ite_f hf k_79
              refine lv_aload_n hx hb dX11_layOrders_82 rfl (lv_at hl 1 rfl) ?_
              refine lv_aload_n hx hb dX11_layOrders_83 rfl (lv_at hl 1 rfl) ?_
              refine va_get (D := (dC, dI)) (ci := 11) (v := .int c_ordersFound_56) (C := RX11) (T := TX11) (N := 30) hx hb hts in_X11_layOrders_X11 hown hK hP 0 rfl rfl 21 (by decide) (hts _ m_X11_layOrders_f151) (fun _ h9 => h9) rfl dX11_layOrders_84 ?_
              refine lv_if_eq (tgt := 99) hx hb dX11_layOrders_87 (by decide) (fun k_87 => ?_) (fun k_87 => ?_)
              · have hf := ite_t hf k_87
                exact J_99 l3_56 r_64 c_meetings_56 c_clashes_56 c_first_56 c_where_56 c_ordersFound_56 c_firstOrder_56 c_least_56 c_leastOrder_56 c_now_64 H locs ls hP hD hS (lv_sub hl [1, 2, 3, 4, 0] rfl) hf
              · have hf := ite_f hf k_87
                refine lv_iload hx hb dX11_layOrders_90 (lv_at hl 0 rfl) ?_
                refine lv_aload_n hx hb dX11_layOrders_92 rfl (lv_at hl 1 rfl) ?_
                refine va_get (D := (dC, dI)) (ci := 11) (v := .int c_firstOrder_56) (C := RX11) (T := TX11) (N := 30) hx hb hts in_X11_layOrders_X11 hown hK hP 0 rfl rfl 22 (by decide) (hts _ m_X11_layOrders_f154) (fun _ h9 => h9) rfl dX11_layOrders_93 ?_
                refine lv_icmp_ge (tgt := 104) hx hb dX11_layOrders_96 (by decide) (fun k_96 => ?_) (fun k_96 => ?_)
                · have hf := ite_t hf k_96
                  refine lv_aload_n hx hb dX11_layOrders_104 rfl (lv_at hl 1 rfl) ?_
                  refine va_get (D := (dC, dI)) (ci := 11) (v := .int c_firstOrder_56) (C := RX11) (T := TX11) (N := 30) hx hb hts in_X11_layOrders_X11 hown hK hP 0 rfl rfl 22 (by decide) (hts _ m_X11_layOrders_f154) (fun _ h9 => h9) rfl dX11_layOrders_105 ?_
                  exact J_108 l3_56 r_64 c_firstOrder_56 c_meetings_56 c_clashes_56 c_first_56 c_where_56 c_ordersFound_56 c_firstOrder_56 c_least_56 c_leastOrder_56 c_now_64 H locs ls hP hD hS (lv_sub hl [1, 2, 3, 4, 0] rfl) hf
                · have hf := ite_f hf k_96
                  exact J_99 l3_56 r_64 c_meetings_56 c_clashes_56 c_first_56 c_where_56 c_ordersFound_56 c_firstOrder_56 c_least_56 c_leastOrder_56 c_now_64 H locs ls hP hD hS (lv_sub hl [1, 2, 3, 4, 0] rfl) hf
    exact L_56 FU 0 c_meetings c_clashes c_first c_where 0 (-6) 1000000 0 c_now_1 H locs ls hP hD hS (lv_sub hl [1, 2, 3, 0] rfl) hq_56
  have L_30 : ∀ (n : Nat) (l2_30 : Int32) (l3_30 : Int32) (ls : Array Slot), lv_has ls 6 [(0, .ref h_this), (1, .int l1), (2, .int l2_30), (3, .int l3_30)] → loopN (fun (q : Int32 × Int32) => f_X11_layOrders_b30 c_book l1 q.1 q.2) n (l2_30, l3_30) = some (l2_30x, l3_30x) → W p l e rm_X11_layOrders s m args below meth c H locs 0 0 Z (F0 m 30 ls []) := by
    intro n
    induction n with
    | zero => intro l2_30 l3_30 ls hl hq; exact (loopN_zero hq).elim
    | succ n ih_30 =>
      intro l2_30 l3_30 ls hl hq
      obtain ⟨o_30, hf, ho1_30, ho2_30⟩ := loopN_step hq
      have hf : f_X11_layOrders_b30 c_book l1 l2_30 l3_30 = some o_30 := hf
      unfold f_X11_layOrders_b30 at hf
      refine lv_iload_n hx hb dX11_layOrders_30 rfl (lv_at hl 3 rfl) ?_
      refine lv_aload_n hx hb dX11_layOrders_31 rfl (lv_at hl 0 rfl) ?_
      refine va_get (D := (dC, dI)) (ci := 11) (v := .ref h_this_book) (C := RX11) (T := TX11) (N := 30) hx hb hts in_X11_layOrders_X11 hown hK hP 0 rfl rfl 0 (by decide) (hts _ m_X11_layOrders_f7) (fun _ h9 => h9) rfl dX11_layOrders_32 ?_
      refine lv_bipush (v := 12) hx hb dX11_layOrders_35 (by decide) ?_
      refine lv_iload_n hx hb dX11_layOrders_37 rfl (lv_at hl 1 rfl) ?_
      refine lv_iadd hx hb dX11_layOrders_38 ?_
      obtain ⟨g_39, hf⟩ := gd_some hf
      refine va_iald hx hb hK hP 1 0 rfl rfl g_39 dX11_layOrders_39 ?_
      refine lv_icmp_ge (tgt := 54) hx hb dX11_layOrders_40 (by decide) (fun k_40 => ?_) (fun k_40 => ?_)
      · have hf := ite_t hf k_40
        have e_30 := ho2_30 _ (Option.some.inj hf).symm
        cases e_30
        exact K_30 ls (lv_sub hl [0, 1, 2] rfl)
      · have hf := ite_f hf k_40
        refine lv_iload_n hx hb dX11_layOrders_43 rfl (lv_at hl 2 rfl) ?_
        refine lv_bipush (v := 6) hx hb dX11_layOrders_44 (by decide) ?_
        refine lv_imul hx hb dX11_layOrders_46 ?_
        refine lv_istore_n (lv' := [(2, .int (l2_30 * 6)), (0, .ref h_this), (1, .int l1), (3, .int l3_30)]) hx hb dX11_layOrders_47 rfl hl (by decide) rfl (fun ls hl => ?_)
        refine lv_iinc (v := (l3_30 + 1)) (lv' := [(3, .int (l3_30 + 1)), (2, .int (l2_30 * 6)), (0, .ref h_this), (1, .int l1)]) hx hb dX11_layOrders_48 hl (k := 3) rfl rfl (by decide) rfl (fun ls hl => ?_)
        refine lv_goto (tgt := 30) hx hb dX11_layOrders_51 (by decide) ?_
        exact ih_30 (l2_30 * 6) (l3_30 + 1) ls (lv_sub hl [2, 3, 1, 0] rfl) (ho1_30 _ (Option.some.inj hf).symm)
  exact L_30 FU 1 0 ls (lv_sub hl [2, 3, 1, 0] rfl) hq_30
abbrev w_X11_order (cI cJ cZ : ClassId) (h_this h_this_book h_this_now h_this_width h_this_wide h_this_delay h_this_ahead h_this_after g_this_key g_this_sight g_this_pad g_this_counts g_this_isOne g_this_ways g_this_image g_this_isKept : Nat) (c_rules : Int32) (c_sights : Int32) (c_signs : Int32) (c_reason : Int32) (c_acts : Int32) (c_meetings : Int32) (c_clashes : Int32) (c_first : Int32) (c_where : Int32) (c_door : Int32) (c_wider : Int32) (c_ordersFound : Int32) (c_firstOrder : Int32) (c_least : Int32) (c_leastOrder : Int32) (c_book : Nat → Int32) (c_now : Nat → Int32) (c_width : Nat → Int32) (c_wide : Nat → Int32) (c_delay : Nat → Int32) (c_ahead : Nat → Int32) (c_after : Nat → Int32) : va_W := [(h_this, .inr (11, [.ref h_this_book, .ref h_this_now, .ref h_this_width, .ref g_this_key, .ref h_this_wide, .ref h_this_delay, .int c_rules, .ref h_this_ahead, .ref h_this_after, .int c_sights, .ref g_this_sight, .int c_signs, .ref g_this_pad, .int c_reason, .int c_acts, .int c_meetings, .int c_clashes, .int c_first, .int c_where, .int c_door, .int c_wider, .int c_ordersFound, .int c_firstOrder, .int c_least, .int c_leastOrder, .ref g_this_counts, .ref g_this_isOne, .ref g_this_ways, .ref g_this_image, .ref g_this_isKept])), (h_this_book, .inl (cI, 15, .inl c_book)), (h_this_now, .inl (cI, 15, .inl c_now)), (h_this_width, .inl (cI, 10, .inl c_width)), (h_this_wide, .inl (cI, 17, .inl c_wide)), (h_this_delay, .inl (cI, 2, .inl c_delay)), (h_this_ahead, .inl (cI, 10, .inl c_ahead)), (h_this_after, .inl (cI, 10, .inl c_after))]
abbrev rm_X11_order : Room := { frames := 4, cells := 0, slots := 0, locals := 94 }
theorem m_X11_order_f158 : (.fieldLink RX11 158 "WovenRowsModel" "least" "I" : Cond) ∈ wsX11_order := by decide +kernel
theorem in_X11_order_X11 : ∀ w ∈ u_ws RX11 TX11 30, w ∈ wsX11_order := by decide +kernel
theorem m_X11_order_f161 : (.fieldLink RX11 161 "WovenRowsModel" "leastOrder" "I" : Cond) ∈ wsX11_order := by decide +kernel
set_option maxRecDepth 100000 in
set_option maxHeartbeats 4000000 in
theorem c_X11_order (l : Launch) (dC : Nat → ClassId) (dI : Nat → Nat → Nat) (cI cJ cZ : ClassId) (h_this h_this_book h_this_now h_this_width h_this_wide h_this_delay h_this_ahead h_this_after g_this_key g_this_sight g_this_pad g_this_counts g_this_isOne g_this_ways g_this_image g_this_isKept : Nat) (sz : Nat) (c_rules : Int32) (c_sights : Int32) (c_signs : Int32) (c_reason : Int32) (c_acts : Int32) (c_meetings : Int32) (c_clashes : Int32) (c_first : Int32) (c_where : Int32) (c_door : Int32) (c_wider : Int32) (c_ordersFound : Int32) (c_firstOrder : Int32) (c_least : Int32) (c_leastOrder : Int32) (c_book : Nat → Int32) (c_now : Nat → Int32) (c_width : Nat → Int32) (c_wide : Nat → Int32) (c_delay : Nat → Int32) (c_ahead : Nat → Int32) (c_after : Nat → Int32) (l1 : Int32) (l2 : Int32) (r : Int32) (z_meetings : Int32) (z_clashes : Int32) (z_first : Int32) (z_where : Int32) (z_door : Int32) (z_wider : Int32) (z_ordersFound : Int32) (z_firstOrder : Int32) (z_least : Int32) (z_leastOrder : Int32) (z_now : Nat → Int32) (hf : f_X11_order c_rules c_meetings c_clashes c_first c_where c_door c_wider c_ordersFound c_firstOrder c_least c_leastOrder c_book c_now c_width c_wide c_delay c_ahead c_after l1 l2 = some (r, z_meetings, z_clashes, z_first, z_where, z_door, z_wider, z_ordersFound, z_firstOrder, z_least, z_leastOrder, z_now)) : Met l yX11_order wsX11_order rm_X11_order (va_Pc [.ref h_this, .int l1, .int l2] (PRE (dC, dI) (TY cI cJ cZ) sz (w_X11_order cI cJ cZ h_this h_this_book h_this_now h_this_width h_this_wide h_this_delay h_this_ahead h_this_after g_this_key g_this_sight g_this_pad g_this_counts g_this_isOne g_this_ways g_this_image g_this_isKept c_rules c_sights c_signs c_reason c_acts c_meetings c_clashes c_first c_where c_door c_wider c_ordersFound c_firstOrder c_least c_leastOrder c_book c_now c_width c_wide c_delay c_ahead c_after))) (va_Qi (fun r' (_ : Unit) => r' = r) (POW (dC, dI) (va_A (w_X11_order cI cJ cZ h_this h_this_book h_this_now h_this_width h_this_wide h_this_delay h_this_ahead h_this_after g_this_key g_this_sight g_this_pad g_this_counts g_this_isOne g_this_ways g_this_image g_this_isKept c_rules c_sights c_signs c_reason c_acts c_meetings c_clashes c_first c_where c_door c_wider c_ordersFound c_firstOrder c_least c_leastOrder c_book c_now c_width c_wide c_delay c_ahead c_after) sz) (w_X11_order cI cJ cZ h_this h_this_book h_this_now h_this_width h_this_wide h_this_delay h_this_ahead h_this_after g_this_key g_this_sight g_this_pad g_this_counts g_this_isOne g_this_ways g_this_image g_this_isKept c_rules c_sights c_signs c_reason c_acts z_meetings z_clashes z_first z_where z_door z_wider z_ordersFound z_firstOrder z_least z_leastOrder c_book z_now c_width c_wide c_delay c_ahead c_after)) (va_A (w_X11_order cI cJ cZ h_this h_this_book h_this_now h_this_width h_this_wide h_this_delay h_this_ahead h_this_after g_this_key g_this_sight g_this_pad g_this_counts g_this_isOne g_this_ways g_this_image g_this_isKept c_rules c_sights c_signs c_reason c_acts c_meetings c_clashes c_first c_where c_door c_wider c_ordersFound c_firstOrder c_least c_leastOrder c_book c_now c_width c_wide c_delay c_ahead c_after) sz)) 0 0 (va_A (w_X11_order cI cJ cZ h_this h_this_book h_this_now h_this_width h_this_wide h_this_delay h_this_ahead h_this_after g_this_key g_this_sight g_this_pad g_this_counts g_this_isOne g_this_ways g_this_image g_this_isKept c_rules c_sights c_signs c_reason c_acts c_meetings c_clashes c_first c_where c_door c_wider c_ordersFound c_firstOrder c_least c_leastOrder c_book c_now c_width c_wide c_delay c_ahead c_after) sz) := by
  refine ofWi (ty := .int) (by decide +kernel) rfl (Nat.le_of_ble_eq_true rfl) ?_
  intro p e s m args below meth c Z A ls S hP hD hK hN hA hl hret
  obtain ⟨hx, hb, hml, hown, hts⟩ := id S
  have hown : s.vm.findClass RX11 = some m.cls := hown
  have hS : va_S A s.heap s.heap [] := va_S.rf
  have hl : lv_has ls 3 [(0, .ref h_this), (1, .int l1), (2, .int l2)] := hl
  unfold f_X11_order at hf
  refine lv_iload_n hx hb dX11_order_0 rfl (lv_at hl 1 rfl) ?_
  obtain ⟨r_1, hv_1, hf⟩ := bd1_some hf
  refine kSi (rS [.int l1] [] S (c_X11_isRow l dC dI cI cJ cZ s.heap.size l1 r_1 hv_1) (va_cwS 1 hts gX11_order_X11_isRow rfl rfl rfl (by decide +kernel) ⟨Nat.le_of_ble_eq_true rfl, Nat.le_of_ble_eq_true rfl⟩) hP hD hK hN [] rfl (by decide +kernel) rfl hl.1 rfl (Nat.le_of_ble_eq_true rfl) dX11_order_1 ⟨Nat.le_of_ble_eq_true rfl, Nat.le_of_ble_eq_true rfl⟩) ?_
  refine lv_if_eq (tgt := 16) hx hb dX11_order_4 (by decide) (fun k_4 => ?_) (fun k_4 => ?_)
  · have hf := ite_t hf k_4
    refine lv_bipush (v := (-2)) hx hb dX11_order_16 (by decide) ?_
    have e_f := Option.some.inj hf
    cases e_f
    exact hret rfl hP hD hS dX11_order_18
  · have hf := ite_f hf k_4
    refine lv_iload_n hx hb dX11_order_7 rfl (lv_at hl 2 rfl) ?_
    refine lv_iconst (v := 0) hx hb dX11_order_8 (by decide) ?_
    refine lv_iconst (v := 1) hx hb dX11_order_9 (by decide) ?_
    obtain ⟨r_10, hv_10, hf⟩ := bd1_some hf
    refine kSi (rS [.int l2, .int 0, .int 1] [] S (c_X11_in l dC dI cI cJ cZ s.heap.size l2 0 1 r_10 hv_10) (va_cwS 3 hts gX11_order_X11_in rfl rfl rfl (by decide +kernel) ⟨Nat.le_of_ble_eq_true rfl, Nat.le_of_ble_eq_true rfl⟩) hP hD hK hN [] rfl (by decide +kernel) rfl hl.1 rfl (Nat.le_of_ble_eq_true rfl) dX11_order_10 ⟨Nat.le_of_ble_eq_true rfl, Nat.le_of_ble_eq_true rfl⟩) ?_
    refine lv_if_ne (tgt := 19) hx hb dX11_order_13 (by decide) (fun k_13 => ?_) (fun k_13 => ?_)
    · have hf := ite_f hf k_13
      refine lv_aload_n hx hb dX11_order_19 rfl (lv_at hl 0 rfl) ?_
      refine lv_iload_n hx hb dX11_order_20 rfl (lv_at hl 1 rfl) ?_
      obtain ⟨c_meetings_21, c_clashes_21, c_first_21, c_where_21, c_door_21, c_wider_21, c_ordersFound_21, c_firstOrder_21, c_least_21, c_leastOrder_21, c_now_21, hv_21, hf⟩ := bd11_some hf
      refine kWv (rV (C := RX11) [.int l1] [] S (c_X11_layOrders l dC dI cI cJ cZ h_this h_this_book h_this_now h_this_width h_this_wide h_this_delay h_this_ahead h_this_after g_this_key g_this_sight g_this_pad g_this_counts g_this_isOne g_this_ways g_this_image g_this_isKept s.heap.size c_rules c_sights c_signs c_reason c_acts c_meetings c_clashes c_first c_where c_door c_wider c_ordersFound c_firstOrder c_least c_leastOrder c_book c_now c_width c_wide c_delay c_ahead c_after l1 c_meetings_21 c_clashes_21 c_first_21 c_where_21 c_door_21 c_wider_21 c_ordersFound_21 c_firstOrder_21 c_least_21 c_leastOrder_21 c_now_21 hv_21) (cwV 1 hts gX11_order_X11_layOrders rfl rfl rfl (by decide +kernel) ⟨Nat.le_of_ble_eq_true rfl, Nat.le_of_ble_eq_true rfl⟩) (va_recv hK hP (ci := 11) (q0 := 0) rfl rfl) hP hD hK hN [0, 1, 2, 3, 4, 5, 6, 7] rfl (by decide +kernel) rfl hl.1 rfl (Nat.le_of_ble_eq_true rfl) dX11_order_21 ⟨Nat.le_of_ble_eq_true rfl, Nat.le_of_ble_eq_true rfl⟩) hP hD hS hA [0, 1, 2, 3, 4, 5, 6, 7] rfl rfl [some 0, some 1, some 2, some 3, some 4, some 5, some 6, some 7] (by decide +kernel) rfl (fun H locs hP hD hS => ?_)
      have hP : va_P (dC, dI) vwCl (w_X11_order cI cJ cZ h_this h_this_book h_this_now h_this_width h_this_wide h_this_delay h_this_ahead h_this_after g_this_key g_this_sight g_this_pad g_this_counts g_this_isOne g_this_ways g_this_image g_this_isKept c_rules c_sights c_signs c_reason c_acts c_meetings_21 c_clashes_21 c_first_21 c_where_21 c_door_21 c_wider_21 c_ordersFound_21 c_firstOrder_21 c_least_21 c_leastOrder_21 c_book c_now_21 c_width c_wide c_delay c_ahead c_after) H := hP
      have hD : va_D A (w_X11_order cI cJ cZ h_this h_this_book h_this_now h_this_width h_this_wide h_this_delay h_this_ahead h_this_after g_this_key g_this_sight g_this_pad g_this_counts g_this_isOne g_this_ways g_this_image g_this_isKept c_rules c_sights c_signs c_reason c_acts c_meetings_21 c_clashes_21 c_first_21 c_where_21 c_door_21 c_wider_21 c_ordersFound_21 c_firstOrder_21 c_least_21 c_leastOrder_21 c_book c_now_21 c_width c_wide c_delay c_ahead c_after) := hD
      refine lv_iload_n hx hb dX11_order_24 rfl (lv_at hl 2 rfl) ?_
      refine lv_if_ne (tgt := 35) hx hb dX11_order_25 (by decide) (fun k_25 => ?_) (fun k_25 => ?_)
      · have hf := ite_f hf k_25
        refine lv_aload_n hx hb dX11_order_35 rfl (lv_at hl 0 rfl) ?_
        refine va_get (D := (dC, dI)) (ci := 11) (v := .int c_leastOrder_21) (C := RX11) (T := TX11) (N := 30) hx hb hts in_X11_order_X11 hown hK hP 0 rfl rfl 24 (by decide) (hts _ m_X11_order_f161) (fun _ h9 => h9) rfl dX11_order_36 ?_
        have e_f := Option.some.inj hf
        cases e_f
        exact hret rfl hP hD hS dX11_order_39
      · have hf := ite_t hf k_25
        refine lv_aload_n hx hb dX11_order_28 rfl (lv_at hl 0 rfl) ?_
        refine va_get (D := (dC, dI)) (ci := 11) (v := .int c_least_21) (C := RX11) (T := TX11) (N := 30) hx hb hts in_X11_order_X11 hown hK hP 0 rfl rfl 23 (by decide) (hts _ m_X11_order_f158) (fun _ h9 => h9) rfl dX11_order_29 ?_
        refine lv_goto (tgt := 39) hx hb dX11_order_32 (by decide) ?_
        have e_f := Option.some.inj hf
        cases e_f
        exact hret rfl hP hD hS dX11_order_39
    · have hf := ite_t hf k_13
      refine lv_bipush (v := (-2)) hx hb dX11_order_16 (by decide) ?_
      have e_f := Option.some.inj hf
      cases e_f
      exact hret rfl hP hD hS dX11_order_18
abbrev w_X11_start (cI cJ cZ : ClassId) (h_this h_this_book h_this_now h_this_width h_this_wide h_this_delay g_this_key g_this_ahead g_this_after g_this_sight g_this_pad g_this_counts g_this_isOne g_this_ways g_this_image g_this_isKept : Nat) (c_rules : Int32) (c_sights : Int32) (c_signs : Int32) (c_reason : Int32) (c_acts : Int32) (c_meetings : Int32) (c_clashes : Int32) (c_first : Int32) (c_where : Int32) (c_door : Int32) (c_wider : Int32) (c_ordersFound : Int32) (c_firstOrder : Int32) (c_least : Int32) (c_leastOrder : Int32) (c_book : Nat → Int32) (c_now : Nat → Int32) (c_width : Nat → Int32) (c_wide : Nat → Int32) (c_delay : Nat → Int32) : va_W := [(h_this, .inr (11, [.ref h_this_book, .ref h_this_now, .ref h_this_width, .ref g_this_key, .ref h_this_wide, .ref h_this_delay, .int c_rules, .ref g_this_ahead, .ref g_this_after, .int c_sights, .ref g_this_sight, .int c_signs, .ref g_this_pad, .int c_reason, .int c_acts, .int c_meetings, .int c_clashes, .int c_first, .int c_where, .int c_door, .int c_wider, .int c_ordersFound, .int c_firstOrder, .int c_least, .int c_leastOrder, .ref g_this_counts, .ref g_this_isOne, .ref g_this_ways, .ref g_this_image, .ref g_this_isKept])), (h_this_book, .inl (cI, 15, .inl c_book)), (h_this_now, .inl (cI, 15, .inl c_now)), (h_this_width, .inl (cI, 10, .inl c_width)), (h_this_wide, .inl (cI, 17, .inl c_wide)), (h_this_delay, .inl (cI, 2, .inl c_delay))]
abbrev rm_X11_start : Room := { frames := 3, cells := 0, slots := 0, locals := 69 }
theorem m_X11_start_f25 : (.fieldLink RX11 25 "WovenRowsModel" "delay" "[I" : Cond) ∈ wsX11_start := by decide +kernel
theorem in_X11_start_X11 : ∀ w ∈ u_ws RX11 TX11 30, w ∈ wsX11_start := by decide +kernel
theorem m_X11_start_k157 : (.constant RX11 157 (1000000) : Cond) ∈ wsX11_start := by decide +kernel
theorem m_X11_start_f126 : (.fieldLink RX11 126 "WovenRowsModel" "clashes" "I" : Cond) ∈ wsX11_start := by decide +kernel
set_option maxRecDepth 100000 in
set_option maxHeartbeats 4000000 in
theorem c_X11_start (l : Launch) (dC : Nat → ClassId) (dI : Nat → Nat → Nat) (cI cJ cZ : ClassId) (h_this h_this_book h_this_now h_this_width h_this_wide h_this_delay g_this_key g_this_ahead g_this_after g_this_sight g_this_pad g_this_counts g_this_isOne g_this_ways g_this_image g_this_isKept : Nat) (sz : Nat) (c_rules : Int32) (c_sights : Int32) (c_signs : Int32) (c_reason : Int32) (c_acts : Int32) (c_meetings : Int32) (c_clashes : Int32) (c_first : Int32) (c_where : Int32) (c_door : Int32) (c_wider : Int32) (c_ordersFound : Int32) (c_firstOrder : Int32) (c_least : Int32) (c_leastOrder : Int32) (c_book : Nat → Int32) (c_now : Nat → Int32) (c_width : Nat → Int32) (c_wide : Nat → Int32) (c_delay : Nat → Int32) (l1 : Int32) (r : Int32) (z_meetings : Int32) (z_clashes : Int32) (z_first : Int32) (z_where : Int32) (z_door : Int32) (z_wider : Int32) (z_now : Nat → Int32) (z_delay : Nat → Int32) (hf : f_X11_start c_meetings c_clashes c_first c_where c_door c_wider c_book c_now c_width c_wide c_delay l1 = some (r, z_meetings, z_clashes, z_first, z_where, z_door, z_wider, z_now, z_delay)) : Met l yX11_start wsX11_start rm_X11_start (va_Pc [.ref h_this, .int l1] (PRE (dC, dI) (TY cI cJ cZ) sz (w_X11_start cI cJ cZ h_this h_this_book h_this_now h_this_width h_this_wide h_this_delay g_this_key g_this_ahead g_this_after g_this_sight g_this_pad g_this_counts g_this_isOne g_this_ways g_this_image g_this_isKept c_rules c_sights c_signs c_reason c_acts c_meetings c_clashes c_first c_where c_door c_wider c_ordersFound c_firstOrder c_least c_leastOrder c_book c_now c_width c_wide c_delay))) (va_Qi (fun r' (_ : Unit) => r' = r) (POW (dC, dI) (va_A (w_X11_start cI cJ cZ h_this h_this_book h_this_now h_this_width h_this_wide h_this_delay g_this_key g_this_ahead g_this_after g_this_sight g_this_pad g_this_counts g_this_isOne g_this_ways g_this_image g_this_isKept c_rules c_sights c_signs c_reason c_acts c_meetings c_clashes c_first c_where c_door c_wider c_ordersFound c_firstOrder c_least c_leastOrder c_book c_now c_width c_wide c_delay) sz) (w_X11_start cI cJ cZ h_this h_this_book h_this_now h_this_width h_this_wide h_this_delay g_this_key g_this_ahead g_this_after g_this_sight g_this_pad g_this_counts g_this_isOne g_this_ways g_this_image g_this_isKept c_rules c_sights c_signs c_reason c_acts z_meetings z_clashes z_first z_where z_door z_wider c_ordersFound c_firstOrder c_least c_leastOrder c_book z_now c_width c_wide z_delay)) (va_A (w_X11_start cI cJ cZ h_this h_this_book h_this_now h_this_width h_this_wide h_this_delay g_this_key g_this_ahead g_this_after g_this_sight g_this_pad g_this_counts g_this_isOne g_this_ways g_this_image g_this_isKept c_rules c_sights c_signs c_reason c_acts c_meetings c_clashes c_first c_where c_door c_wider c_ordersFound c_firstOrder c_least c_leastOrder c_book c_now c_width c_wide c_delay) sz)) 0 0 (va_A (w_X11_start cI cJ cZ h_this h_this_book h_this_now h_this_width h_this_wide h_this_delay g_this_key g_this_ahead g_this_after g_this_sight g_this_pad g_this_counts g_this_isOne g_this_ways g_this_image g_this_isKept c_rules c_sights c_signs c_reason c_acts c_meetings c_clashes c_first c_where c_door c_wider c_ordersFound c_firstOrder c_least c_leastOrder c_book c_now c_width c_wide c_delay) sz) := by
  refine ofWi (ty := .int) (by decide +kernel) rfl (Nat.le_of_ble_eq_true rfl) ?_
  intro p e s m args below meth c Z A ls S hP hD hK hN hA hl hret
  obtain ⟨hx, hb, hml, hown, hts⟩ := id S
  have hown : s.vm.findClass RX11 = some m.cls := hown
  have hS : va_S A s.heap s.heap [] := va_S.rf
  have hl : lv_has ls 6 [(0, .ref h_this), (1, .int l1)] := hl
  unfold f_X11_start at hf
  refine lv_iload_n hx hb dX11_start_0 rfl (lv_at hl 1 rfl) ?_
  refine lv_iconst (v := 0) hx hb dX11_start_1 (by decide) ?_
  refine lv_iconst (v := 1) hx hb dX11_start_2 (by decide) ?_
  obtain ⟨r_3, hv_3, hf⟩ := bd1_some hf
  refine kSi (rS [.int l1, .int 0, .int 1] [] S (c_X11_in l dC dI cI cJ cZ s.heap.size l1 0 1 r_3 hv_3) (va_cwS 3 hts gX11_start_X11_in rfl rfl rfl (by decide +kernel) ⟨Nat.le_of_ble_eq_true rfl, Nat.le_of_ble_eq_true rfl⟩) hP hD hK hN [] rfl (by decide +kernel) rfl hl.1 rfl (Nat.le_of_ble_eq_true rfl) dX11_start_3 ⟨Nat.le_of_ble_eq_true rfl, Nat.le_of_ble_eq_true rfl⟩) ?_
  refine lv_if_ne (tgt := 12) hx hb dX11_start_6 (by decide) (fun k_6 => ?_) (fun k_6 => ?_)
  · have hf := ite_f hf k_6
    refine lv_aload_n hx hb dX11_start_12 rfl (lv_at hl 0 rfl) ?_
    obtain ⟨c_door_13, c_wider_13, c_now_13, hv_13, hf⟩ := bd3_some hf
    refine kWv (rV (C := RX11) [] [] S (c_X11_plain l dC dI cI cJ cZ h_this h_this_book h_this_now h_this_width g_this_key h_this_wide h_this_delay g_this_ahead g_this_after g_this_sight g_this_pad g_this_counts g_this_isOne g_this_ways g_this_image g_this_isKept s.heap.size c_rules c_sights c_signs c_reason c_acts c_meetings c_clashes c_first c_where c_door c_wider c_ordersFound c_firstOrder c_least c_leastOrder c_book c_now c_door_13 c_wider_13 c_now_13 hv_13) (cwV 0 hts gX11_start_X11_plain rfl rfl rfl (by decide +kernel) ⟨Nat.le_of_ble_eq_true rfl, Nat.le_of_ble_eq_true rfl⟩) (va_recv hK hP (ci := 11) (q0 := 0) rfl rfl) hP hD hK hN [0, 1, 2] rfl (by decide +kernel) rfl hl.1 rfl (Nat.le_of_ble_eq_true rfl) dX11_start_13 ⟨Nat.le_of_ble_eq_true rfl, Nat.le_of_ble_eq_true rfl⟩) hP hD hS hA [0, 1, 2] rfl rfl [some 0, some 1, some 2, none, none, none] (by decide +kernel) rfl (fun H locs hP hD hS => ?_)
    have hP : va_P (dC, dI) vwCl (w_X11_start cI cJ cZ h_this h_this_book h_this_now h_this_width h_this_wide h_this_delay g_this_key g_this_ahead g_this_after g_this_sight g_this_pad g_this_counts g_this_isOne g_this_ways g_this_image g_this_isKept c_rules c_sights c_signs c_reason c_acts c_meetings c_clashes c_first c_where c_door_13 c_wider_13 c_ordersFound c_firstOrder c_least c_leastOrder c_book c_now_13 c_width c_wide c_delay) H := hP
    have hD : va_D A (w_X11_start cI cJ cZ h_this h_this_book h_this_now h_this_width h_this_wide h_this_delay g_this_key g_this_ahead g_this_after g_this_sight g_this_pad g_this_counts g_this_isOne g_this_ways g_this_image g_this_isKept c_rules c_sights c_signs c_reason c_acts c_meetings c_clashes c_first c_where c_door_13 c_wider_13 c_ordersFound c_firstOrder c_least c_leastOrder c_book c_now_13 c_width c_wide c_delay) := hD
    refine lv_aload_n hx hb dX11_start_16 rfl (lv_at hl 0 rfl) ?_
    refine va_get (D := (dC, dI)) (ci := 11) (v := .ref h_this_delay) (C := RX11) (T := TX11) (N := 30) hx hb hts in_X11_start_X11 hown hK hP 0 rfl rfl 5 (by decide) (hts _ m_X11_start_f25) (fun _ h9 => h9) rfl dX11_start_17 ?_
    refine lv_iconst (v := 0) hx hb dX11_start_20 (by decide) ?_
    obtain ⟨g_21, hf⟩ := gd_some hf
    refine va_iald hx hb hK hP 5 0 rfl rfl g_21 dX11_start_21 ?_
    refine lv_istore_n (lv' := [(2, .int (c_delay (Int32.toNatClampNeg 0))), (0, .ref h_this), (1, .int l1)]) hx hb dX11_start_22 rfl hl (by decide) rfl (fun ls hl => ?_)
    refine lv_iconst (v := 0) hx hb dX11_start_23 (by decide) ?_
    refine lv_istore_n (lv' := [(3, .int 0), (2, .int (c_delay (Int32.toNatClampNeg 0))), (0, .ref h_this), (1, .int l1)]) hx hb dX11_start_24 rfl hl (by decide) rfl (fun ls hl => ?_)
    refine lv_ldc (v := 1000000) hx hb hown (hts _ m_X11_start_k157) dX11_start_25 ?_
    refine lv_istore (lv' := [(4, .int 1000000), (3, .int 0), (2, .int (c_delay (Int32.toNatClampNeg 0))), (0, .ref h_this), (1, .int l1)]) hx hb dX11_start_27 hl (by decide) rfl (fun ls hl => ?_)
    refine lv_iconst (v := 0) hx hb dX11_start_29 (by decide) ?_
    refine lv_istore (lv' := [(5, .int 0), (4, .int 1000000), (3, .int 0), (2, .int (c_delay (Int32.toNatClampNeg 0))), (0, .ref h_this), (1, .int l1)]) hx hb dX11_start_30 hl (by decide) rfl (fun ls hl => ?_)
    obtain ⟨l3_32x, l4_32x, l5_32x, c_meetings_32x, c_clashes_32x, c_first_32x, c_where_32x, c_delay_32x, hq_32, hf⟩ := bd8_some hf
    have K_32 : ∀ (H : Heap) (locs : List Loc) (ls : Array Slot), va_P (dC, dI) vwCl (w_X11_start cI cJ cZ h_this h_this_book h_this_now h_this_width h_this_wide h_this_delay g_this_key g_this_ahead g_this_after g_this_sight g_this_pad g_this_counts g_this_isOne g_this_ways g_this_image g_this_isKept c_rules c_sights c_signs c_reason c_acts c_meetings_32x c_clashes_32x c_first_32x c_where_32x c_door_13 c_wider_13 c_ordersFound c_firstOrder c_least c_leastOrder c_book c_now_13 c_width c_wide c_delay_32x) H → va_D A (w_X11_start cI cJ cZ h_this h_this_book h_this_now h_this_width h_this_wide h_this_delay g_this_key g_this_ahead g_this_after g_this_sight g_this_pad g_this_counts g_this_isOne g_this_ways g_this_image g_this_isKept c_rules c_sights c_signs c_reason c_acts c_meetings_32x c_clashes_32x c_first_32x c_where_32x c_door_13 c_wider_13 c_ordersFound c_firstOrder c_least c_leastOrder c_book c_now_13 c_width c_wide c_delay_32x) → va_S A s.heap H locs → lv_has ls 6 [(0, .ref h_this), (1, .int l1), (2, .int (c_delay (Int32.toNatClampNeg 0))), (3, .int l3_32x), (4, .int l4_32x)] → W p l e rm_X11_start s m args below meth c H locs 0 0 Z (F0 m 93 ls []) := by
      intro H locs ls hP hD hS hl
      refine lv_aload_n hx hb dX11_start_93 rfl (lv_at hl 0 rfl) ?_
      refine va_get (D := (dC, dI)) (ci := 11) (v := .ref h_this_delay) (C := RX11) (T := TX11) (N := 30) hx hb hts in_X11_start_X11 hown hK hP 0 rfl rfl 5 (by decide) (hts _ m_X11_start_f25) (fun _ h9 => h9) rfl dX11_start_94 ?_
      refine lv_iconst (v := 0) hx hb dX11_start_97 (by decide) ?_
      refine lv_iload_n hx hb dX11_start_98 rfl (lv_at hl 2 rfl) ?_
      obtain ⟨g_99, hf⟩ := gd_some hf
      refine va_iast hx hb hK hP hD hS 5 0 rfl rfl g_99 dX11_start_99 (fun H locs hP hD hS => ?_)
      have hP : va_P (dC, dI) vwCl (w_X11_start cI cJ cZ h_this h_this_book h_this_now h_this_width h_this_wide h_this_delay g_this_key g_this_ahead g_this_after g_this_sight g_this_pad g_this_counts g_this_isOne g_this_ways g_this_image g_this_isKept c_rules c_sights c_signs c_reason c_acts c_meetings_32x c_clashes_32x c_first_32x c_where_32x c_door_13 c_wider_13 c_ordersFound c_firstOrder c_least c_leastOrder c_book c_now_13 c_width c_wide (upd c_delay_32x (Int32.toNatClampNeg 0) (c_delay (Int32.toNatClampNeg 0)))) H := hP
      have hD : va_D A (w_X11_start cI cJ cZ h_this h_this_book h_this_now h_this_width h_this_wide h_this_delay g_this_key g_this_ahead g_this_after g_this_sight g_this_pad g_this_counts g_this_isOne g_this_ways g_this_image g_this_isKept c_rules c_sights c_signs c_reason c_acts c_meetings_32x c_clashes_32x c_first_32x c_where_32x c_door_13 c_wider_13 c_ordersFound c_firstOrder c_least c_leastOrder c_book c_now_13 c_width c_wide (upd c_delay_32x (Int32.toNatClampNeg 0) (c_delay (Int32.toNatClampNeg 0)))) := hD
      refine lv_iload_n hx hb dX11_start_100 rfl (lv_at hl 1 rfl) ?_
      refine lv_if_ne (tgt := 109) hx hb dX11_start_101 (by decide) (fun k_101 => ?_) (fun k_101 => ?_)
      · have hf := ite_f hf k_101
        refine lv_iload_n hx hb dX11_start_109 rfl (lv_at hl 3 rfl) ?_
        have e_f := Option.some.inj hf
        cases e_f
        exact hret rfl hP hD hS dX11_start_110
      · have hf := ite_t hf k_101
        refine lv_iload hx hb dX11_start_104 (lv_at hl 4 rfl) ?_
        refine lv_goto (tgt := 110) hx hb dX11_start_106 (by decide) ?_
        have e_f := Option.some.inj hf
        cases e_f
        exact hret rfl hP hD hS dX11_start_110
    have L_32 : ∀ (n : Nat) (l3_32 : Int32) (l4_32 : Int32) (l5_32 : Int32) (c_meetings_32 : Int32) (c_clashes_32 : Int32) (c_first_32 : Int32) (c_where_32 : Int32) (c_delay_32 : Nat → Int32) (H : Heap) (locs : List Loc) (ls : Array Slot), va_P (dC, dI) vwCl (w_X11_start cI cJ cZ h_this h_this_book h_this_now h_this_width h_this_wide h_this_delay g_this_key g_this_ahead g_this_after g_this_sight g_this_pad g_this_counts g_this_isOne g_this_ways g_this_image g_this_isKept c_rules c_sights c_signs c_reason c_acts c_meetings_32 c_clashes_32 c_first_32 c_where_32 c_door_13 c_wider_13 c_ordersFound c_firstOrder c_least c_leastOrder c_book c_now_13 c_width c_wide c_delay_32) H → va_D A (w_X11_start cI cJ cZ h_this h_this_book h_this_now h_this_width h_this_wide h_this_delay g_this_key g_this_ahead g_this_after g_this_sight g_this_pad g_this_counts g_this_isOne g_this_ways g_this_image g_this_isKept c_rules c_sights c_signs c_reason c_acts c_meetings_32 c_clashes_32 c_first_32 c_where_32 c_door_13 c_wider_13 c_ordersFound c_firstOrder c_least c_leastOrder c_book c_now_13 c_width c_wide c_delay_32) → va_S A s.heap H locs → lv_has ls 6 [(0, .ref h_this), (1, .int l1), (2, .int (c_delay (Int32.toNatClampNeg 0))), (3, .int l3_32), (4, .int l4_32), (5, .int l5_32)] → loopN (fun (q : Int32 × Int32 × Int32 × Int32 × Int32 × Int32 × Int32 × (Nat → Int32)) => f_X11_start_b32 c_width c_wide c_door_13 c_wider_13 c_now_13 q.1 q.2.1 q.2.2.1 q.2.2.2.1 q.2.2.2.2.1 q.2.2.2.2.2.1 q.2.2.2.2.2.2.1 q.2.2.2.2.2.2.2) n (l3_32, l4_32, l5_32, c_meetings_32, c_clashes_32, c_first_32, c_where_32, c_delay_32) = some (l3_32x, l4_32x, l5_32x, c_meetings_32x, c_clashes_32x, c_first_32x, c_where_32x, c_delay_32x) → W p l e rm_X11_start s m args below meth c H locs 0 0 Z (F0 m 32 ls []) := by
      intro n
      induction n with
      | zero => intro l3_32 l4_32 l5_32 c_meetings_32 c_clashes_32 c_first_32 c_where_32 c_delay_32 H locs ls hP hD hS hl hq; exact (loopN_zero hq).elim
      | succ n ih_32 =>
        intro l3_32 l4_32 l5_32 c_meetings_32 c_clashes_32 c_first_32 c_where_32 c_delay_32 H locs ls hP hD hS hl hq
        obtain ⟨o_32, hf, ho1_32, ho2_32⟩ := loopN_step hq
        have hf : f_X11_start_b32 c_width c_wide c_door_13 c_wider_13 c_now_13 l3_32 l4_32 l5_32 c_meetings_32 c_clashes_32 c_first_32 c_where_32 c_delay_32 = some o_32 := hf
        unfold f_X11_start_b32 at hf
        have J_85 : ∀ (l3_85j : Int32) (l5_85j : Int32) (s0_85j : Int32) (c_meetings_85j : Int32) (c_clashes_85j : Int32) (c_first_85j : Int32) (c_where_85j : Int32) (c_delay_85j : Nat → Int32) (H : Heap) (locs : List Loc) (ls : Array Slot), va_P (dC, dI) vwCl (w_X11_start cI cJ cZ h_this h_this_book h_this_now h_this_width h_this_wide h_this_delay g_this_key g_this_ahead g_this_after g_this_sight g_this_pad g_this_counts g_this_isOne g_this_ways g_this_image g_this_isKept c_rules c_sights c_signs c_reason c_acts c_meetings_85j c_clashes_85j c_first_85j c_where_85j c_door_13 c_wider_13 c_ordersFound c_firstOrder c_least c_leastOrder c_book c_now_13 c_width c_wide c_delay_85j) H → va_D A (w_X11_start cI cJ cZ h_this h_this_book h_this_now h_this_width h_this_wide h_this_delay g_this_key g_this_ahead g_this_after g_this_sight g_this_pad g_this_counts g_this_isOne g_this_ways g_this_image g_this_isKept c_rules c_sights c_signs c_reason c_acts c_meetings_85j c_clashes_85j c_first_85j c_where_85j c_door_13 c_wider_13 c_ordersFound c_firstOrder c_least c_leastOrder c_book c_now_13 c_width c_wide c_delay_85j) → va_S A s.heap H locs → lv_has ls 6 [(0, .ref h_this), (1, .int l1), (2, .int (c_delay (Int32.toNatClampNeg 0))), (3, .int l3_85j), (5, .int l5_85j)] → f_X11_start_j85 l3_85j l5_85j c_meetings_85j c_clashes_85j c_first_85j c_where_85j c_delay_85j s0_85j = some o_32 → W p l e rm_X11_start s m args below meth c H locs 0 0 Z (F0 m 85 ls [.int s0_85j]) := by
          intro l3_85j l5_85j s0_85j c_meetings_85j c_clashes_85j c_first_85j c_where_85j c_delay_85j H locs ls hP hD hS hl hf
          unfold f_X11_start_j85 at hf
          refine lv_istore (lv' := [(4, .int s0_85j), (0, .ref h_this), (1, .int l1), (2, .int (c_delay (Int32.toNatClampNeg 0))), (3, .int l3_85j), (5, .int l5_85j)]) hx hb dX11_start_85 hl (by decide) rfl (fun ls hl => ?_)
          refine lv_iinc (v := (l5_85j + 1)) (lv' := [(5, .int (l5_85j + 1)), (4, .int s0_85j), (0, .ref h_this), (1, .int l1), (2, .int (c_delay (Int32.toNatClampNeg 0))), (3, .int l3_85j)]) hx hb dX11_start_87 hl (k := 5) rfl rfl (by decide) rfl (fun ls hl => ?_)
          refine lv_goto (tgt := 32) hx hb dX11_start_90 (by decide) ?_
          exact ih_32 l3_85j s0_85j (l5_85j + 1) c_meetings_85j c_clashes_85j c_first_85j c_where_85j c_delay_85j H locs ls hP hD hS (lv_sub hl [2, 3, 4, 5, 1, 0] rfl) (ho1_32 _ (Option.some.inj hf).symm)
        have J_66 : ∀ (l4_66j : Int32) (l5_66j : Int32) (s0_66j : Int32) (c_meetings_66j : Int32) (c_clashes_66j : Int32) (c_first_66j : Int32) (c_where_66j : Int32) (c_delay_66j : Nat → Int32) (H : Heap) (locs : List Loc) (ls : Array Slot), va_P (dC, dI) vwCl (w_X11_start cI cJ cZ h_this h_this_book h_this_now h_this_width h_this_wide h_this_delay g_this_key g_this_ahead g_this_after g_this_sight g_this_pad g_this_counts g_this_isOne g_this_ways g_this_image g_this_isKept c_rules c_sights c_signs c_reason c_acts c_meetings_66j c_clashes_66j c_first_66j c_where_66j c_door_13 c_wider_13 c_ordersFound c_firstOrder c_least c_leastOrder c_book c_now_13 c_width c_wide c_delay_66j) H → va_D A (w_X11_start cI cJ cZ h_this h_this_book h_this_now h_this_width h_this_wide h_this_delay g_this_key g_this_ahead g_this_after g_this_sight g_this_pad g_this_counts g_this_isOne g_this_ways g_this_image g_this_isKept c_rules c_sights c_signs c_reason c_acts c_meetings_66j c_clashes_66j c_first_66j c_where_66j c_door_13 c_wider_13 c_ordersFound c_firstOrder c_least c_leastOrder c_book c_now_13 c_width c_wide c_delay_66j) → va_S A s.heap H locs → lv_has ls 6 [(0, .ref h_this), (1, .int l1), (2, .int (c_delay (Int32.toNatClampNeg 0))), (4, .int l4_66j), (5, .int l5_66j)] → f_X11_start_j66 l4_66j l5_66j c_meetings_66j c_clashes_66j c_first_66j c_where_66j c_delay_66j s0_66j = some o_32 → W p l e rm_X11_start s m args below meth c H locs 0 0 Z (F0 m 66 ls [.int s0_66j]) := by
          intro l4_66j l5_66j s0_66j c_meetings_66j c_clashes_66j c_first_66j c_where_66j c_delay_66j H locs ls hP hD hS hl hf
          unfold f_X11_start_j66 at hf
          refine lv_istore_n (lv' := [(3, .int s0_66j), (0, .ref h_this), (1, .int l1), (2, .int (c_delay (Int32.toNatClampNeg 0))), (4, .int l4_66j), (5, .int l5_66j)]) hx hb dX11_start_66 rfl hl (by decide) rfl (fun ls hl => ?_)
          refine lv_aload_n hx hb dX11_start_67 rfl (lv_at hl 1 rfl) ?_
          refine va_get (D := (dC, dI)) (ci := 11) (v := .int c_clashes_66j) (C := RX11) (T := TX11) (N := 30) hx hb hts in_X11_start_X11 hown hK hP 0 rfl rfl 16 (by decide) (hts _ m_X11_start_f126) (fun _ h9 => h9) rfl dX11_start_68 ?_
          refine lv_iload hx hb dX11_start_71 (lv_at hl 4 rfl) ?_
          refine lv_icmp_ge (tgt := 83) hx hb dX11_start_73 (by decide) (fun k_73 => ?_) (fun k_73 => ?_)
          · have hf := ite_t hf k_73
            refine lv_iload hx hb dX11_start_83 (lv_at hl 4 rfl) ?_
            exact J_85 s0_66j l5_66j l4_66j c_meetings_66j c_clashes_66j c_first_66j c_where_66j c_delay_66j H locs ls hP hD hS (lv_sub hl [1, 2, 3, 0, 5] rfl) hf
          · have hf := ite_f hf k_73
            refine lv_aload_n hx hb dX11_start_76 rfl (lv_at hl 1 rfl) ?_
            refine va_get (D := (dC, dI)) (ci := 11) (v := .int c_clashes_66j) (C := RX11) (T := TX11) (N := 30) hx hb hts in_X11_start_X11 hown hK hP 0 rfl rfl 16 (by decide) (hts _ m_X11_start_f126) (fun _ h9 => h9) rfl dX11_start_77 ?_
            refine lv_goto (tgt := 85) hx hb dX11_start_80 (by decide) ?_
            exact J_85 s0_66j l5_66j c_clashes_66j c_meetings_66j c_clashes_66j c_first_66j c_where_66j c_delay_66j H locs ls hP hD hS (lv_sub hl [1, 2, 3, 0, 5] rfl) hf
        refine lv_iload hx hb dX11_start_32 (lv_at hl 5 rfl) ?_
        refine lv_bipush (v := 21) hx hb dX11_start_34 (by decide) ?_
        refine lv_icmp_ge (tgt := 93) hx hb dX11_start_36 (by decide) (fun k_36 => ?_) (fun k_36 => ?_)
        · have hf := ite_t hf k_36
          have e_32 := ho2_32 _ (Option.some.inj hf).symm
          cases e_32
          exact K_32 H locs ls hP hD hS (lv_sub hl [0, 1, 2, 3, 4] rfl)
        · have hf := ite_f hf k_36
          refine lv_aload_n hx hb dX11_start_39 rfl (lv_at hl 0 rfl) ?_
          refine va_get (D := (dC, dI)) (ci := 11) (v := .ref h_this_delay) (C := RX11) (T := TX11) (N := 30) hx hb hts in_X11_start_X11 hown hK hP 0 rfl rfl 5 (by decide) (hts _ m_X11_start_f25) (fun _ h9 => h9) rfl dX11_start_40 ?_
          refine lv_iconst (v := 0) hx hb dX11_start_43 (by decide) ?_
          refine lv_iload hx hb dX11_start_44 (lv_at hl 5 rfl) ?_
          obtain ⟨g_46, hf⟩ := gd_some hf
          refine va_iast hx hb hK hP hD hS 5 0 rfl rfl g_46 dX11_start_46 (fun H locs hP hD hS => ?_)
          have hP : va_P (dC, dI) vwCl (w_X11_start cI cJ cZ h_this h_this_book h_this_now h_this_width h_this_wide h_this_delay g_this_key g_this_ahead g_this_after g_this_sight g_this_pad g_this_counts g_this_isOne g_this_ways g_this_image g_this_isKept c_rules c_sights c_signs c_reason c_acts c_meetings_32 c_clashes_32 c_first_32 c_where_32 c_door_13 c_wider_13 c_ordersFound c_firstOrder c_least c_leastOrder c_book c_now_13 c_width c_wide (upd c_delay_32 (Int32.toNatClampNeg 0) l5_32)) H := hP
          have hD : va_D A (w_X11_start cI cJ cZ h_this h_this_book h_this_now h_this_width h_this_wide h_this_delay g_this_key g_this_ahead g_this_after g_this_sight g_this_pad g_this_counts g_this_isOne g_this_ways g_this_image g_this_isKept c_rules c_sights c_signs c_reason c_acts c_meetings_32 c_clashes_32 c_first_32 c_where_32 c_door_13 c_wider_13 c_ordersFound c_firstOrder c_least c_leastOrder c_book c_now_13 c_width c_wide (upd c_delay_32 (Int32.toNatClampNeg 0) l5_32)) := hD
          refine lv_aload_n hx hb dX11_start_47 rfl (lv_at hl 0 rfl) ?_
          obtain ⟨c_meetings_48, c_clashes_48, c_first_48, c_where_48, hv_48, hf⟩ := bd4_some hf
          refine kWv (rV (C := RX11) [] [] S (c_X11_layMeetings l dC dI cI cJ cZ h_this h_this_now h_this_width h_this_wide h_this_delay h_this_book g_this_key g_this_ahead g_this_after g_this_sight g_this_pad g_this_counts g_this_isOne g_this_ways g_this_image g_this_isKept H.size c_rules c_sights c_signs c_reason c_acts c_meetings_32 c_clashes_32 c_first_32 c_where_32 c_door_13 c_wider_13 c_ordersFound c_firstOrder c_least c_leastOrder c_now_13 c_width c_wide (upd c_delay_32 (Int32.toNatClampNeg 0) l5_32) c_meetings_48 c_clashes_48 c_first_48 c_where_48 hv_48) (cwV 0 hts gX11_start_X11_layMeetings rfl rfl rfl (by decide +kernel) ⟨Nat.le_of_ble_eq_true rfl, Nat.le_of_ble_eq_true rfl⟩) (va_recv hK hP (ci := 11) (q0 := 0) rfl rfl) hP hD hK hN [0, 2, 3, 4, 5] rfl (by decide +kernel) rfl hl.1 rfl (Nat.le_of_ble_eq_true rfl) dX11_start_48 ⟨Nat.le_of_ble_eq_true rfl, Nat.le_of_ble_eq_true rfl⟩) hP hD hS hA [0, 2, 3, 4, 5] rfl rfl [some 0, none, some 1, some 2, some 3, some 4] (by decide +kernel) rfl (fun H locs hP hD hS => ?_)
          have hP : va_P (dC, dI) vwCl (w_X11_start cI cJ cZ h_this h_this_book h_this_now h_this_width h_this_wide h_this_delay g_this_key g_this_ahead g_this_after g_this_sight g_this_pad g_this_counts g_this_isOne g_this_ways g_this_image g_this_isKept c_rules c_sights c_signs c_reason c_acts c_meetings_48 c_clashes_48 c_first_48 c_where_48 c_door_13 c_wider_13 c_ordersFound c_firstOrder c_least c_leastOrder c_book c_now_13 c_width c_wide (upd c_delay_32 (Int32.toNatClampNeg 0) l5_32)) H := hP
          have hD : va_D A (w_X11_start cI cJ cZ h_this h_this_book h_this_now h_this_width h_this_wide h_this_delay g_this_key g_this_ahead g_this_after g_this_sight g_this_pad g_this_counts g_this_isOne g_this_ways g_this_image g_this_isKept c_rules c_sights c_signs c_reason c_acts c_meetings_48 c_clashes_48 c_first_48 c_where_48 c_door_13 c_wider_13 c_ordersFound c_firstOrder c_least c_leastOrder c_book c_now_13 c_width c_wide (upd c_delay_32 (Int32.toNatClampNeg 0) l5_32)) := hD
          refine lv_aload_n hx hb dX11_start_51 rfl (lv_at hl 0 rfl) ?_
          refine va_get (D := (dC, dI)) (ci := 11) (v := .int c_clashes_48) (C := RX11) (T := TX11) (N := 30) hx hb hts in_X11_start_X11 hown hK hP 0 rfl rfl 16 (by decide) (hts _ m_X11_start_f126) (fun _ h9 => h9) rfl dX11_start_52 ?_
          refine lv_iload hx hb dX11_start_55 (lv_at hl 4 rfl) ?_
          refine lv_icmp_ge (tgt := 65) hx hb dX11_start_57 (by decide) (fun k_57 => ?_) (fun k_57 => ?_)
          · have hf := ite_t hf k_57
            refine lv_iload_n hx hb dX11_start_65 rfl (lv_at hl 3 rfl) ?_
            exact J_66 l4_32 l5_32 l3_32 c_meetings_48 c_clashes_48 c_first_48 c_where_48 (upd c_delay_32 (Int32.toNatClampNeg 0) l5_32) H locs ls hP hD hS (lv_sub hl [0, 1, 2, 4, 5] rfl) hf
          · have hf := ite_f hf k_57
            refine lv_iload hx hb dX11_start_60 (lv_at hl 5 rfl) ?_
            refine lv_goto (tgt := 66) hx hb dX11_start_62 (by decide) ?_
            exact J_66 l4_32 l5_32 l5_32 c_meetings_48 c_clashes_48 c_first_48 c_where_48 (upd c_delay_32 (Int32.toNatClampNeg 0) l5_32) H locs ls hP hD hS (lv_sub hl [0, 1, 2, 4, 5] rfl) hf
    exact L_32 FU 0 1000000 0 c_meetings c_clashes c_first c_where c_delay H locs ls hP hD hS (lv_sub hl [4, 5, 3, 2, 1, 0] rfl) hq_32
  · have hf := ite_t hf k_6
    refine lv_bipush (v := (-2)) hx hb dX11_start_9 (by decide) ?_
    have e_f := Option.some.inj hf
    cases e_f
    exact hret rfl hP hD hS dX11_start_11
abbrev w_X11_door (cI cJ cZ : ClassId) (h_this h_this_book h_this_now h_this_width h_this_wide h_this_delay g_this_key g_this_ahead g_this_after g_this_sight g_this_pad g_this_counts g_this_isOne g_this_ways g_this_image g_this_isKept : Nat) (c_rules : Int32) (c_sights : Int32) (c_signs : Int32) (c_reason : Int32) (c_acts : Int32) (c_meetings : Int32) (c_clashes : Int32) (c_first : Int32) (c_where : Int32) (c_door : Int32) (c_wider : Int32) (c_ordersFound : Int32) (c_firstOrder : Int32) (c_least : Int32) (c_leastOrder : Int32) (c_book : Nat → Int32) (c_now : Nat → Int32) (c_width : Nat → Int32) (c_wide : Nat → Int32) (c_delay : Nat → Int32) : va_W := [(h_this, .inr (11, [.ref h_this_book, .ref h_this_now, .ref h_this_width, .ref g_this_key, .ref h_this_wide, .ref h_this_delay, .int c_rules, .ref g_this_ahead, .ref g_this_after, .int c_sights, .ref g_this_sight, .int c_signs, .ref g_this_pad, .int c_reason, .int c_acts, .int c_meetings, .int c_clashes, .int c_first, .int c_where, .int c_door, .int c_wider, .int c_ordersFound, .int c_firstOrder, .int c_least, .int c_leastOrder, .ref g_this_counts, .ref g_this_isOne, .ref g_this_ways, .ref g_this_image, .ref g_this_isKept])), (h_this_book, .inl (cI, 15, .inl c_book)), (h_this_now, .inl (cI, 15, .inl c_now)), (h_this_width, .inl (cI, 10, .inl c_width)), (h_this_wide, .inl (cI, 17, .inl c_wide)), (h_this_delay, .inl (cI, 2, .inl c_delay))]
abbrev rm_X11_door : Room := { frames := 3, cells := 0, slots := 0, locals := 69 }
theorem m_X11_door_f114 : (.fieldLink RX11 114 "WovenRowsModel" "wider" "I" : Cond) ∈ wsX11_door := by decide +kernel
theorem in_X11_door_X11 : ∀ w ∈ u_ws RX11 TX11 30, w ∈ wsX11_door := by decide +kernel
theorem m_X11_door_k157 : (.constant RX11 157 (1000000) : Cond) ∈ wsX11_door := by decide +kernel
theorem m_X11_door_f126 : (.fieldLink RX11 126 "WovenRowsModel" "clashes" "I" : Cond) ∈ wsX11_door := by decide +kernel
theorem m_X11_door_f111 : (.fieldLink RX11 111 "WovenRowsModel" "door" "I" : Cond) ∈ wsX11_door := by decide +kernel
set_option maxRecDepth 100000 in
set_option maxHeartbeats 4000000 in
theorem c_X11_door (l : Launch) (dC : Nat → ClassId) (dI : Nat → Nat → Nat) (cI cJ cZ : ClassId) (h_this h_this_book h_this_now h_this_width h_this_wide h_this_delay g_this_key g_this_ahead g_this_after g_this_sight g_this_pad g_this_counts g_this_isOne g_this_ways g_this_image g_this_isKept : Nat) (sz : Nat) (c_rules : Int32) (c_sights : Int32) (c_signs : Int32) (c_reason : Int32) (c_acts : Int32) (c_meetings : Int32) (c_clashes : Int32) (c_first : Int32) (c_where : Int32) (c_door : Int32) (c_wider : Int32) (c_ordersFound : Int32) (c_firstOrder : Int32) (c_least : Int32) (c_leastOrder : Int32) (c_book : Nat → Int32) (c_now : Nat → Int32) (c_width : Nat → Int32) (c_wide : Nat → Int32) (c_delay : Nat → Int32) (l1 : Int32) (l2 : Int32) (r : Int32) (z_meetings : Int32) (z_clashes : Int32) (z_first : Int32) (z_where : Int32) (z_door : Int32) (z_wider : Int32) (z_now : Nat → Int32) (hf : f_X11_door c_meetings c_clashes c_first c_where c_door c_wider c_book c_now c_width c_wide c_delay l1 l2 = some (r, z_meetings, z_clashes, z_first, z_where, z_door, z_wider, z_now)) : Met l yX11_door wsX11_door rm_X11_door (va_Pc [.ref h_this, .int l1, .int l2] (PRE (dC, dI) (TY cI cJ cZ) sz (w_X11_door cI cJ cZ h_this h_this_book h_this_now h_this_width h_this_wide h_this_delay g_this_key g_this_ahead g_this_after g_this_sight g_this_pad g_this_counts g_this_isOne g_this_ways g_this_image g_this_isKept c_rules c_sights c_signs c_reason c_acts c_meetings c_clashes c_first c_where c_door c_wider c_ordersFound c_firstOrder c_least c_leastOrder c_book c_now c_width c_wide c_delay))) (va_Qi (fun r' (_ : Unit) => r' = r) (POW (dC, dI) (va_A (w_X11_door cI cJ cZ h_this h_this_book h_this_now h_this_width h_this_wide h_this_delay g_this_key g_this_ahead g_this_after g_this_sight g_this_pad g_this_counts g_this_isOne g_this_ways g_this_image g_this_isKept c_rules c_sights c_signs c_reason c_acts c_meetings c_clashes c_first c_where c_door c_wider c_ordersFound c_firstOrder c_least c_leastOrder c_book c_now c_width c_wide c_delay) sz) (w_X11_door cI cJ cZ h_this h_this_book h_this_now h_this_width h_this_wide h_this_delay g_this_key g_this_ahead g_this_after g_this_sight g_this_pad g_this_counts g_this_isOne g_this_ways g_this_image g_this_isKept c_rules c_sights c_signs c_reason c_acts z_meetings z_clashes z_first z_where z_door z_wider c_ordersFound c_firstOrder c_least c_leastOrder c_book z_now c_width c_wide c_delay)) (va_A (w_X11_door cI cJ cZ h_this h_this_book h_this_now h_this_width h_this_wide h_this_delay g_this_key g_this_ahead g_this_after g_this_sight g_this_pad g_this_counts g_this_isOne g_this_ways g_this_image g_this_isKept c_rules c_sights c_signs c_reason c_acts c_meetings c_clashes c_first c_where c_door c_wider c_ordersFound c_firstOrder c_least c_leastOrder c_book c_now c_width c_wide c_delay) sz)) 0 0 (va_A (w_X11_door cI cJ cZ h_this h_this_book h_this_now h_this_width h_this_wide h_this_delay g_this_key g_this_ahead g_this_after g_this_sight g_this_pad g_this_counts g_this_isOne g_this_ways g_this_image g_this_isKept c_rules c_sights c_signs c_reason c_acts c_meetings c_clashes c_first c_where c_door c_wider c_ordersFound c_firstOrder c_least c_leastOrder c_book c_now c_width c_wide c_delay) sz) := by
  refine ofWi (ty := .int) (by decide +kernel) rfl (Nat.le_of_ble_eq_true rfl) ?_
  intro p e s m args below meth c Z A ls S hP hD hK hN hA hl hret
  obtain ⟨hx, hb, hml, hown, hts⟩ := id S
  have hown : s.vm.findClass RX11 = some m.cls := hown
  have hS : va_S A s.heap s.heap [] := va_S.rf
  have hl : lv_has ls 6 [(0, .ref h_this), (1, .int l1), (2, .int l2)] := hl
  unfold f_X11_door at hf
  refine lv_iload_n hx hb dX11_door_0 rfl (lv_at hl 1 rfl) ?_
  refine lv_iconst (v := 0) hx hb dX11_door_1 (by decide) ?_
  refine lv_bipush (v := 30) hx hb dX11_door_2 (by decide) ?_
  obtain ⟨r_4, hv_4, hf⟩ := bd1_some hf
  refine kSi (rS [.int l1, .int 0, .int 30] [] S (c_X11_in l dC dI cI cJ cZ s.heap.size l1 0 30 r_4 hv_4) (va_cwS 3 hts gX11_door_X11_in rfl rfl rfl (by decide +kernel) ⟨Nat.le_of_ble_eq_true rfl, Nat.le_of_ble_eq_true rfl⟩) hP hD hK hN [] rfl (by decide +kernel) rfl hl.1 rfl (Nat.le_of_ble_eq_true rfl) dX11_door_4 ⟨Nat.le_of_ble_eq_true rfl, Nat.le_of_ble_eq_true rfl⟩) ?_
  refine lv_if_eq (tgt := 19) hx hb dX11_door_7 (by decide) (fun k_7 => ?_) (fun k_7 => ?_)
  · have hf := ite_t hf k_7
    refine lv_bipush (v := (-2)) hx hb dX11_door_19 (by decide) ?_
    have e_f := Option.some.inj hf
    cases e_f
    exact hret rfl hP hD hS dX11_door_21
  · have hf := ite_f hf k_7
    refine lv_iload_n hx hb dX11_door_10 rfl (lv_at hl 2 rfl) ?_
    refine lv_iconst (v := 0) hx hb dX11_door_11 (by decide) ?_
    refine lv_iconst (v := 1) hx hb dX11_door_12 (by decide) ?_
    obtain ⟨r_13, hv_13, hf⟩ := bd1_some hf
    refine kSi (rS [.int l2, .int 0, .int 1] [] S (c_X11_in l dC dI cI cJ cZ s.heap.size l2 0 1 r_13 hv_13) (va_cwS 3 hts gX11_door_X11_in rfl rfl rfl (by decide +kernel) ⟨Nat.le_of_ble_eq_true rfl, Nat.le_of_ble_eq_true rfl⟩) hP hD hK hN [] rfl (by decide +kernel) rfl hl.1 rfl (Nat.le_of_ble_eq_true rfl) dX11_door_13 ⟨Nat.le_of_ble_eq_true rfl, Nat.le_of_ble_eq_true rfl⟩) ?_
    refine lv_if_ne (tgt := 22) hx hb dX11_door_16 (by decide) (fun k_16 => ?_) (fun k_16 => ?_)
    · have hf := ite_f hf k_16
      refine lv_aload_n hx hb dX11_door_22 rfl (lv_at hl 0 rfl) ?_
      obtain ⟨c_door_23, c_wider_23, c_now_23, hv_23, hf⟩ := bd3_some hf
      refine kWv (rV (C := RX11) [] [] S (c_X11_plain l dC dI cI cJ cZ h_this h_this_book h_this_now h_this_width g_this_key h_this_wide h_this_delay g_this_ahead g_this_after g_this_sight g_this_pad g_this_counts g_this_isOne g_this_ways g_this_image g_this_isKept s.heap.size c_rules c_sights c_signs c_reason c_acts c_meetings c_clashes c_first c_where c_door c_wider c_ordersFound c_firstOrder c_least c_leastOrder c_book c_now c_door_23 c_wider_23 c_now_23 hv_23) (cwV 0 hts gX11_door_X11_plain rfl rfl rfl (by decide +kernel) ⟨Nat.le_of_ble_eq_true rfl, Nat.le_of_ble_eq_true rfl⟩) (va_recv hK hP (ci := 11) (q0 := 0) rfl rfl) hP hD hK hN [0, 1, 2] rfl (by decide +kernel) rfl hl.1 rfl (Nat.le_of_ble_eq_true rfl) dX11_door_23 ⟨Nat.le_of_ble_eq_true rfl, Nat.le_of_ble_eq_true rfl⟩) hP hD hS hA [0, 1, 2] rfl rfl [some 0, some 1, some 2, none, none, none] (by decide +kernel) rfl (fun H locs hP hD hS => ?_)
      have hP : va_P (dC, dI) vwCl (w_X11_door cI cJ cZ h_this h_this_book h_this_now h_this_width h_this_wide h_this_delay g_this_key g_this_ahead g_this_after g_this_sight g_this_pad g_this_counts g_this_isOne g_this_ways g_this_image g_this_isKept c_rules c_sights c_signs c_reason c_acts c_meetings c_clashes c_first c_where c_door_23 c_wider_23 c_ordersFound c_firstOrder c_least c_leastOrder c_book c_now_23 c_width c_wide c_delay) H := hP
      have hD : va_D A (w_X11_door cI cJ cZ h_this h_this_book h_this_now h_this_width h_this_wide h_this_delay g_this_key g_this_ahead g_this_after g_this_sight g_this_pad g_this_counts g_this_isOne g_this_ways g_this_image g_this_isKept c_rules c_sights c_signs c_reason c_acts c_meetings c_clashes c_first c_where c_door_23 c_wider_23 c_ordersFound c_firstOrder c_least c_leastOrder c_book c_now_23 c_width c_wide c_delay) := hD
      refine lv_aload_n hx hb dX11_door_26 rfl (lv_at hl 0 rfl) ?_
      refine lv_iload_n hx hb dX11_door_27 rfl (lv_at hl 1 rfl) ?_
      refine va_put (D := (dC, dI)) (ci := 11) (v := .int l1) (ty := .int) (C := RX11) (T := TX11) (N := 30) hx hb hts in_X11_door_X11 tyX11 tyX11_ok nmX11 hown hK hP hD hS 0 rfl rfl 20 (by decide) (hts _ m_X11_door_f114) (fun _ h9 => h9) rfl (by decide +kernel) rfl rfl (Nat.le_of_ble_eq_true rfl) dX11_door_28 (fun H locs hP hD hS => ?_)
      have hP : va_P (dC, dI) vwCl (w_X11_door cI cJ cZ h_this h_this_book h_this_now h_this_width h_this_wide h_this_delay g_this_key g_this_ahead g_this_after g_this_sight g_this_pad g_this_counts g_this_isOne g_this_ways g_this_image g_this_isKept c_rules c_sights c_signs c_reason c_acts c_meetings c_clashes c_first c_where c_door_23 l1 c_ordersFound c_firstOrder c_least c_leastOrder c_book c_now_23 c_width c_wide c_delay) H := hP
      have hD : va_D A (w_X11_door cI cJ cZ h_this h_this_book h_this_now h_this_width h_this_wide h_this_delay g_this_key g_this_ahead g_this_after g_this_sight g_this_pad g_this_counts g_this_isOne g_this_ways g_this_image g_this_isKept c_rules c_sights c_signs c_reason c_acts c_meetings c_clashes c_first c_where c_door_23 l1 c_ordersFound c_firstOrder c_least c_leastOrder c_book c_now_23 c_width c_wide c_delay) := hD
      refine lv_iconst (v := 0) hx hb dX11_door_31 (by decide) ?_
      refine lv_istore_n (lv' := [(3, .int 0), (0, .ref h_this), (1, .int l1), (2, .int l2)]) hx hb dX11_door_32 rfl hl (by decide) rfl (fun ls hl => ?_)
      refine lv_ldc (v := 1000000) hx hb hown (hts _ m_X11_door_k157) dX11_door_33 ?_
      refine lv_istore (lv' := [(4, .int 1000000), (3, .int 0), (0, .ref h_this), (1, .int l1), (2, .int l2)]) hx hb dX11_door_35 hl (by decide) rfl (fun ls hl => ?_)
      refine lv_iconst (v := 0) hx hb dX11_door_37 (by decide) ?_
      refine lv_istore (lv' := [(5, .int 0), (4, .int 1000000), (3, .int 0), (0, .ref h_this), (1, .int l1), (2, .int l2)]) hx hb dX11_door_38 hl (by decide) rfl (fun ls hl => ?_)
      obtain ⟨l3_40x, l4_40x, l5_40x, c_meetings_40x, c_clashes_40x, c_first_40x, c_where_40x, c_door_40x, hq_40, hf⟩ := bd8_some hf
      have K_40 : ∀ (H : Heap) (locs : List Loc) (ls : Array Slot), va_P (dC, dI) vwCl (w_X11_door cI cJ cZ h_this h_this_book h_this_now h_this_width h_this_wide h_this_delay g_this_key g_this_ahead g_this_after g_this_sight g_this_pad g_this_counts g_this_isOne g_this_ways g_this_image g_this_isKept c_rules c_sights c_signs c_reason c_acts c_meetings_40x c_clashes_40x c_first_40x c_where_40x c_door_40x l1 c_ordersFound c_firstOrder c_least c_leastOrder c_book c_now_23 c_width c_wide c_delay) H → va_D A (w_X11_door cI cJ cZ h_this h_this_book h_this_now h_this_width h_this_wide h_this_delay g_this_key g_this_ahead g_this_after g_this_sight g_this_pad g_this_counts g_this_isOne g_this_ways g_this_image g_this_isKept c_rules c_sights c_signs c_reason c_acts c_meetings_40x c_clashes_40x c_first_40x c_where_40x c_door_40x l1 c_ordersFound c_firstOrder c_least c_leastOrder c_book c_now_23 c_width c_wide c_delay) → va_S A s.heap H locs → lv_has ls 6 [(2, .int l2), (3, .int l3_40x), (4, .int l4_40x)] → W p l e rm_X11_door s m args below meth c H locs 0 0 Z (F0 m 99 ls []) := by
        intro H locs ls hP hD hS hl
        refine lv_iload_n hx hb dX11_door_99 rfl (lv_at hl 0 rfl) ?_
        refine lv_if_ne (tgt := 108) hx hb dX11_door_100 (by decide) (fun k_100 => ?_) (fun k_100 => ?_)
        · have hf := ite_f hf k_100
          refine lv_iload_n hx hb dX11_door_108 rfl (lv_at hl 1 rfl) ?_
          have e_f := Option.some.inj hf
          cases e_f
          exact hret rfl hP hD hS dX11_door_109
        · have hf := ite_t hf k_100
          refine lv_iload hx hb dX11_door_103 (lv_at hl 2 rfl) ?_
          refine lv_goto (tgt := 109) hx hb dX11_door_105 (by decide) ?_
          have e_f := Option.some.inj hf
          cases e_f
          exact hret rfl hP hD hS dX11_door_109
      have L_40 : ∀ (n : Nat) (l3_40 : Int32) (l4_40 : Int32) (l5_40 : Int32) (c_meetings_40 : Int32) (c_clashes_40 : Int32) (c_first_40 : Int32) (c_where_40 : Int32) (c_door_40 : Int32) (H : Heap) (locs : List Loc) (ls : Array Slot), va_P (dC, dI) vwCl (w_X11_door cI cJ cZ h_this h_this_book h_this_now h_this_width h_this_wide h_this_delay g_this_key g_this_ahead g_this_after g_this_sight g_this_pad g_this_counts g_this_isOne g_this_ways g_this_image g_this_isKept c_rules c_sights c_signs c_reason c_acts c_meetings_40 c_clashes_40 c_first_40 c_where_40 c_door_40 l1 c_ordersFound c_firstOrder c_least c_leastOrder c_book c_now_23 c_width c_wide c_delay) H → va_D A (w_X11_door cI cJ cZ h_this h_this_book h_this_now h_this_width h_this_wide h_this_delay g_this_key g_this_ahead g_this_after g_this_sight g_this_pad g_this_counts g_this_isOne g_this_ways g_this_image g_this_isKept c_rules c_sights c_signs c_reason c_acts c_meetings_40 c_clashes_40 c_first_40 c_where_40 c_door_40 l1 c_ordersFound c_firstOrder c_least c_leastOrder c_book c_now_23 c_width c_wide c_delay) → va_S A s.heap H locs → lv_has ls 6 [(0, .ref h_this), (2, .int l2), (3, .int l3_40), (4, .int l4_40), (5, .int l5_40)] → loopN (fun (q : Int32 × Int32 × Int32 × Int32 × Int32 × Int32 × Int32 × Int32) => f_X11_door_b40 c_width c_wide c_delay l1 c_now_23 q.1 q.2.1 q.2.2.1 q.2.2.2.1 q.2.2.2.2.1 q.2.2.2.2.2.1 q.2.2.2.2.2.2.1 q.2.2.2.2.2.2.2) n (l3_40, l4_40, l5_40, c_meetings_40, c_clashes_40, c_first_40, c_where_40, c_door_40) = some (l3_40x, l4_40x, l5_40x, c_meetings_40x, c_clashes_40x, c_first_40x, c_where_40x, c_door_40x) → W p l e rm_X11_door s m args below meth c H locs 0 0 Z (F0 m 40 ls []) := by
        intro n
        induction n with
        | zero => intro l3_40 l4_40 l5_40 c_meetings_40 c_clashes_40 c_first_40 c_where_40 c_door_40 H locs ls hP hD hS hl hq; exact (loopN_zero hq).elim
        | succ n ih_40 =>
          intro l3_40 l4_40 l5_40 c_meetings_40 c_clashes_40 c_first_40 c_where_40 c_door_40 H locs ls hP hD hS hl hq
          obtain ⟨o_40, hf, ho1_40, ho2_40⟩ := loopN_step hq
          have hf : f_X11_door_b40 c_width c_wide c_delay l1 c_now_23 l3_40 l4_40 l5_40 c_meetings_40 c_clashes_40 c_first_40 c_where_40 c_door_40 = some o_40 := hf
          unfold f_X11_door_b40 at hf
          have J_91 : ∀ (l3_91j : Int32) (l5_91j : Int32) (s0_91j : Int32) (c_meetings_91j : Int32) (c_clashes_91j : Int32) (c_first_91j : Int32) (c_where_91j : Int32) (c_door_91j : Int32) (H : Heap) (locs : List Loc) (ls : Array Slot), va_P (dC, dI) vwCl (w_X11_door cI cJ cZ h_this h_this_book h_this_now h_this_width h_this_wide h_this_delay g_this_key g_this_ahead g_this_after g_this_sight g_this_pad g_this_counts g_this_isOne g_this_ways g_this_image g_this_isKept c_rules c_sights c_signs c_reason c_acts c_meetings_91j c_clashes_91j c_first_91j c_where_91j c_door_91j l1 c_ordersFound c_firstOrder c_least c_leastOrder c_book c_now_23 c_width c_wide c_delay) H → va_D A (w_X11_door cI cJ cZ h_this h_this_book h_this_now h_this_width h_this_wide h_this_delay g_this_key g_this_ahead g_this_after g_this_sight g_this_pad g_this_counts g_this_isOne g_this_ways g_this_image g_this_isKept c_rules c_sights c_signs c_reason c_acts c_meetings_91j c_clashes_91j c_first_91j c_where_91j c_door_91j l1 c_ordersFound c_firstOrder c_least c_leastOrder c_book c_now_23 c_width c_wide c_delay) → va_S A s.heap H locs → lv_has ls 6 [(0, .ref h_this), (2, .int l2), (3, .int l3_91j), (5, .int l5_91j)] → f_X11_door_j91 l3_91j l5_91j c_meetings_91j c_clashes_91j c_first_91j c_where_91j c_door_91j s0_91j = some o_40 → W p l e rm_X11_door s m args below meth c H locs 0 0 Z (F0 m 91 ls [.int s0_91j]) := by
            intro l3_91j l5_91j s0_91j c_meetings_91j c_clashes_91j c_first_91j c_where_91j c_door_91j H locs ls hP hD hS hl hf
            unfold f_X11_door_j91 at hf
            refine lv_istore (lv' := [(4, .int s0_91j), (0, .ref h_this), (2, .int l2), (3, .int l3_91j), (5, .int l5_91j)]) hx hb dX11_door_91 hl (by decide) rfl (fun ls hl => ?_)
            refine lv_iinc (v := (l5_91j + 1)) (lv' := [(5, .int (l5_91j + 1)), (4, .int s0_91j), (0, .ref h_this), (2, .int l2), (3, .int l3_91j)]) hx hb dX11_door_93 hl (k := 4) rfl rfl (by decide) rfl (fun ls hl => ?_)
            refine lv_goto (tgt := 40) hx hb dX11_door_96 (by decide) ?_
            exact ih_40 l3_91j s0_91j (l5_91j + 1) c_meetings_91j c_clashes_91j c_first_91j c_where_91j c_door_91j H locs ls hP hD hS (lv_sub hl [2, 3, 4, 1, 0] rfl) (ho1_40 _ (Option.some.inj hf).symm)
          have J_72 : ∀ (l4_72j : Int32) (l5_72j : Int32) (s0_72j : Int32) (c_meetings_72j : Int32) (c_clashes_72j : Int32) (c_first_72j : Int32) (c_where_72j : Int32) (c_door_72j : Int32) (H : Heap) (locs : List Loc) (ls : Array Slot), va_P (dC, dI) vwCl (w_X11_door cI cJ cZ h_this h_this_book h_this_now h_this_width h_this_wide h_this_delay g_this_key g_this_ahead g_this_after g_this_sight g_this_pad g_this_counts g_this_isOne g_this_ways g_this_image g_this_isKept c_rules c_sights c_signs c_reason c_acts c_meetings_72j c_clashes_72j c_first_72j c_where_72j c_door_72j l1 c_ordersFound c_firstOrder c_least c_leastOrder c_book c_now_23 c_width c_wide c_delay) H → va_D A (w_X11_door cI cJ cZ h_this h_this_book h_this_now h_this_width h_this_wide h_this_delay g_this_key g_this_ahead g_this_after g_this_sight g_this_pad g_this_counts g_this_isOne g_this_ways g_this_image g_this_isKept c_rules c_sights c_signs c_reason c_acts c_meetings_72j c_clashes_72j c_first_72j c_where_72j c_door_72j l1 c_ordersFound c_firstOrder c_least c_leastOrder c_book c_now_23 c_width c_wide c_delay) → va_S A s.heap H locs → lv_has ls 6 [(0, .ref h_this), (2, .int l2), (4, .int l4_72j), (5, .int l5_72j)] → f_X11_door_j72 l4_72j l5_72j c_meetings_72j c_clashes_72j c_first_72j c_where_72j c_door_72j s0_72j = some o_40 → W p l e rm_X11_door s m args below meth c H locs 0 0 Z (F0 m 72 ls [.int s0_72j]) := by
            intro l4_72j l5_72j s0_72j c_meetings_72j c_clashes_72j c_first_72j c_where_72j c_door_72j H locs ls hP hD hS hl hf
            unfold f_X11_door_j72 at hf
            refine lv_istore_n (lv' := [(3, .int s0_72j), (0, .ref h_this), (2, .int l2), (4, .int l4_72j), (5, .int l5_72j)]) hx hb dX11_door_72 rfl hl (by decide) rfl (fun ls hl => ?_)
            refine lv_aload_n hx hb dX11_door_73 rfl (lv_at hl 1 rfl) ?_
            refine va_get (D := (dC, dI)) (ci := 11) (v := .int c_clashes_72j) (C := RX11) (T := TX11) (N := 30) hx hb hts in_X11_door_X11 hown hK hP 0 rfl rfl 16 (by decide) (hts _ m_X11_door_f126) (fun _ h9 => h9) rfl dX11_door_74 ?_
            refine lv_iload hx hb dX11_door_77 (lv_at hl 3 rfl) ?_
            refine lv_icmp_ge (tgt := 89) hx hb dX11_door_79 (by decide) (fun k_79 => ?_) (fun k_79 => ?_)
            · have hf := ite_t hf k_79
              refine lv_iload hx hb dX11_door_89 (lv_at hl 3 rfl) ?_
              exact J_91 s0_72j l5_72j l4_72j c_meetings_72j c_clashes_72j c_first_72j c_where_72j c_door_72j H locs ls hP hD hS (lv_sub hl [1, 2, 0, 4] rfl) hf
            · have hf := ite_f hf k_79
              refine lv_aload_n hx hb dX11_door_82 rfl (lv_at hl 1 rfl) ?_
              refine va_get (D := (dC, dI)) (ci := 11) (v := .int c_clashes_72j) (C := RX11) (T := TX11) (N := 30) hx hb hts in_X11_door_X11 hown hK hP 0 rfl rfl 16 (by decide) (hts _ m_X11_door_f126) (fun _ h9 => h9) rfl dX11_door_83 ?_
              refine lv_goto (tgt := 91) hx hb dX11_door_86 (by decide) ?_
              exact J_91 s0_72j l5_72j c_clashes_72j c_meetings_72j c_clashes_72j c_first_72j c_where_72j c_door_72j H locs ls hP hD hS (lv_sub hl [1, 2, 0, 4] rfl) hf
          refine lv_iload hx hb dX11_door_40 (lv_at hl 4 rfl) ?_
          refine lv_bipush (v := 17) hx hb dX11_door_42 (by decide) ?_
          refine lv_icmp_ge (tgt := 99) hx hb dX11_door_44 (by decide) (fun k_44 => ?_) (fun k_44 => ?_)
          · have hf := ite_t hf k_44
            have e_40 := ho2_40 _ (Option.some.inj hf).symm
            cases e_40
            exact K_40 H locs ls hP hD hS (lv_sub hl [1, 2, 3] rfl)
          · have hf := ite_f hf k_44
            refine lv_aload_n hx hb dX11_door_47 rfl (lv_at hl 0 rfl) ?_
            refine lv_iload hx hb dX11_door_48 (lv_at hl 4 rfl) ?_
            refine va_put (D := (dC, dI)) (ci := 11) (v := .int l5_40) (ty := .int) (C := RX11) (T := TX11) (N := 30) hx hb hts in_X11_door_X11 tyX11 tyX11_ok nmX11 hown hK hP hD hS 0 rfl rfl 19 (by decide) (hts _ m_X11_door_f111) (fun _ h9 => h9) rfl (by decide +kernel) rfl rfl (Nat.le_of_ble_eq_true rfl) dX11_door_50 (fun H locs hP hD hS => ?_)
            have hP : va_P (dC, dI) vwCl (w_X11_door cI cJ cZ h_this h_this_book h_this_now h_this_width h_this_wide h_this_delay g_this_key g_this_ahead g_this_after g_this_sight g_this_pad g_this_counts g_this_isOne g_this_ways g_this_image g_this_isKept c_rules c_sights c_signs c_reason c_acts c_meetings_40 c_clashes_40 c_first_40 c_where_40 l5_40 l1 c_ordersFound c_firstOrder c_least c_leastOrder c_book c_now_23 c_width c_wide c_delay) H := hP
            have hD : va_D A (w_X11_door cI cJ cZ h_this h_this_book h_this_now h_this_width h_this_wide h_this_delay g_this_key g_this_ahead g_this_after g_this_sight g_this_pad g_this_counts g_this_isOne g_this_ways g_this_image g_this_isKept c_rules c_sights c_signs c_reason c_acts c_meetings_40 c_clashes_40 c_first_40 c_where_40 l5_40 l1 c_ordersFound c_firstOrder c_least c_leastOrder c_book c_now_23 c_width c_wide c_delay) := hD
            refine lv_aload_n hx hb dX11_door_53 rfl (lv_at hl 0 rfl) ?_
            obtain ⟨c_meetings_54, c_clashes_54, c_first_54, c_where_54, hv_54, hf⟩ := bd4_some hf
            refine kWv (rV (C := RX11) [] [] S (c_X11_layMeetings l dC dI cI cJ cZ h_this h_this_now h_this_width h_this_wide h_this_delay h_this_book g_this_key g_this_ahead g_this_after g_this_sight g_this_pad g_this_counts g_this_isOne g_this_ways g_this_image g_this_isKept H.size c_rules c_sights c_signs c_reason c_acts c_meetings_40 c_clashes_40 c_first_40 c_where_40 l5_40 l1 c_ordersFound c_firstOrder c_least c_leastOrder c_now_23 c_width c_wide c_delay c_meetings_54 c_clashes_54 c_first_54 c_where_54 hv_54) (cwV 0 hts gX11_door_X11_layMeetings rfl rfl rfl (by decide +kernel) ⟨Nat.le_of_ble_eq_true rfl, Nat.le_of_ble_eq_true rfl⟩) (va_recv hK hP (ci := 11) (q0 := 0) rfl rfl) hP hD hK hN [0, 2, 3, 4, 5] rfl (by decide +kernel) rfl hl.1 rfl (Nat.le_of_ble_eq_true rfl) dX11_door_54 ⟨Nat.le_of_ble_eq_true rfl, Nat.le_of_ble_eq_true rfl⟩) hP hD hS hA [0, 2, 3, 4, 5] rfl rfl [some 0, none, some 1, some 2, some 3, some 4] (by decide +kernel) rfl (fun H locs hP hD hS => ?_)
            have hP : va_P (dC, dI) vwCl (w_X11_door cI cJ cZ h_this h_this_book h_this_now h_this_width h_this_wide h_this_delay g_this_key g_this_ahead g_this_after g_this_sight g_this_pad g_this_counts g_this_isOne g_this_ways g_this_image g_this_isKept c_rules c_sights c_signs c_reason c_acts c_meetings_54 c_clashes_54 c_first_54 c_where_54 l5_40 l1 c_ordersFound c_firstOrder c_least c_leastOrder c_book c_now_23 c_width c_wide c_delay) H := hP
            have hD : va_D A (w_X11_door cI cJ cZ h_this h_this_book h_this_now h_this_width h_this_wide h_this_delay g_this_key g_this_ahead g_this_after g_this_sight g_this_pad g_this_counts g_this_isOne g_this_ways g_this_image g_this_isKept c_rules c_sights c_signs c_reason c_acts c_meetings_54 c_clashes_54 c_first_54 c_where_54 l5_40 l1 c_ordersFound c_firstOrder c_least c_leastOrder c_book c_now_23 c_width c_wide c_delay) := hD
            refine lv_aload_n hx hb dX11_door_57 rfl (lv_at hl 0 rfl) ?_
            refine va_get (D := (dC, dI)) (ci := 11) (v := .int c_clashes_54) (C := RX11) (T := TX11) (N := 30) hx hb hts in_X11_door_X11 hown hK hP 0 rfl rfl 16 (by decide) (hts _ m_X11_door_f126) (fun _ h9 => h9) rfl dX11_door_58 ?_
            refine lv_iload hx hb dX11_door_61 (lv_at hl 3 rfl) ?_
            refine lv_icmp_ge (tgt := 71) hx hb dX11_door_63 (by decide) (fun k_63 => ?_) (fun k_63 => ?_)
            · have hf := ite_t hf k_63
              refine lv_iload_n hx hb dX11_door_71 rfl (lv_at hl 2 rfl) ?_
              exact J_72 l4_40 l5_40 l3_40 c_meetings_54 c_clashes_54 c_first_54 c_where_54 l5_40 H locs ls hP hD hS (lv_sub hl [0, 1, 3, 4] rfl) hf
            · have hf := ite_f hf k_63
              refine lv_iload hx hb dX11_door_66 (lv_at hl 4 rfl) ?_
              refine lv_goto (tgt := 72) hx hb dX11_door_68 (by decide) ?_
              exact J_72 l4_40 l5_40 l5_40 c_meetings_54 c_clashes_54 c_first_54 c_where_54 l5_40 H locs ls hP hD hS (lv_sub hl [0, 1, 3, 4] rfl) hf
      exact L_40 FU 0 1000000 0 c_meetings c_clashes c_first c_where c_door_23 H locs ls hP hD hS (lv_sub hl [3, 5, 2, 1, 0] rfl) hq_40
    · have hf := ite_t hf k_16
      refine lv_bipush (v := (-2)) hx hb dX11_door_19 (by decide) ?_
      have e_f := Option.some.inj hf
      cases e_f
      exact hret rfl hP hD hS dX11_door_21
abbrev w_X11_grating (cI cJ cZ : ClassId) (h_this h_this_now h_this_key h_this_delay g_this_book g_this_width g_this_wide g_this_ahead g_this_after g_this_sight g_this_pad g_this_counts g_this_isOne g_this_ways g_this_image g_this_isKept : Nat) (c_rules : Int32) (c_sights : Int32) (c_signs : Int32) (c_reason : Int32) (c_acts : Int32) (c_meetings : Int32) (c_clashes : Int32) (c_first : Int32) (c_where : Int32) (c_door : Int32) (c_wider : Int32) (c_ordersFound : Int32) (c_firstOrder : Int32) (c_least : Int32) (c_leastOrder : Int32) (c_now : Nat → Int32) (c_key : Nat → Int32) (c_delay : Nat → Int32) : va_W := [(h_this, .inr (11, [.ref g_this_book, .ref h_this_now, .ref g_this_width, .ref h_this_key, .ref g_this_wide, .ref h_this_delay, .int c_rules, .ref g_this_ahead, .ref g_this_after, .int c_sights, .ref g_this_sight, .int c_signs, .ref g_this_pad, .int c_reason, .int c_acts, .int c_meetings, .int c_clashes, .int c_first, .int c_where, .int c_door, .int c_wider, .int c_ordersFound, .int c_firstOrder, .int c_least, .int c_leastOrder, .ref g_this_counts, .ref g_this_isOne, .ref g_this_ways, .ref g_this_image, .ref g_this_isKept])), (h_this_now, .inl (cI, 15, .inl c_now)), (h_this_key, .inl (cI, 10, .inl c_key)), (h_this_delay, .inl (cI, 2, .inl c_delay))]
abbrev rm_X11_grating : Room := { frames := 1, cells := 0, slots := 0, locals := 22 }
theorem m_X11_grating_f13 : (.fieldLink RX11 13 "WovenRowsModel" "now" "[I" : Cond) ∈ wsX11_grating := by decide +kernel
theorem in_X11_grating_X11 : ∀ w ∈ u_ws RX11 TX11 30, w ∈ wsX11_grating := by decide +kernel
theorem m_X11_grating_f19 : (.fieldLink RX11 19 "WovenRowsModel" "key" "[I" : Cond) ∈ wsX11_grating := by decide +kernel
set_option maxRecDepth 100000 in
set_option maxHeartbeats 4000000 in
theorem c_X11_grating (l : Launch) (dC : Nat → ClassId) (dI : Nat → Nat → Nat) (cI cJ cZ : ClassId) (h_this h_this_now h_this_key h_this_delay g_this_book g_this_width g_this_wide g_this_ahead g_this_after g_this_sight g_this_pad g_this_counts g_this_isOne g_this_ways g_this_image g_this_isKept : Nat) (sz : Nat) (c_rules : Int32) (c_sights : Int32) (c_signs : Int32) (c_reason : Int32) (c_acts : Int32) (c_meetings : Int32) (c_clashes : Int32) (c_first : Int32) (c_where : Int32) (c_door : Int32) (c_wider : Int32) (c_ordersFound : Int32) (c_firstOrder : Int32) (c_least : Int32) (c_leastOrder : Int32) (c_now : Nat → Int32) (c_key : Nat → Int32) (c_delay : Nat → Int32) (l1 : Int32) (r : Int32) (hf : f_X11_grating c_now c_key c_delay l1 = some r) : Met l yX11_grating wsX11_grating rm_X11_grating (va_Pc [.ref h_this, .int l1] (PRE (dC, dI) (TY cI cJ cZ) sz (w_X11_grating cI cJ cZ h_this h_this_now h_this_key h_this_delay g_this_book g_this_width g_this_wide g_this_ahead g_this_after g_this_sight g_this_pad g_this_counts g_this_isOne g_this_ways g_this_image g_this_isKept c_rules c_sights c_signs c_reason c_acts c_meetings c_clashes c_first c_where c_door c_wider c_ordersFound c_firstOrder c_least c_leastOrder c_now c_key c_delay))) (vp_Si (fun r' => r' = r)) 0 0 (fun _ => False) := by
  refine ofSi (ty := .int) (by decide +kernel) rfl (Nat.le_of_ble_eq_true rfl) ?_
  intro p e s m args below meth c Z ls S hP hD hK hN hl hret
  obtain ⟨hx, hb, hml, hown, hts⟩ := id S
  have hown : s.vm.findClass RX11 = some m.cls := hown
  have hl : lv_has ls 9 [(0, .ref h_this), (1, .int l1)] := hl
  unfold f_X11_grating at hf
  refine lv_iconst (v := 0) hx hb dX11_grating_0 (by decide) ?_
  refine lv_istore_n (lv' := [(2, .int 0), (0, .ref h_this), (1, .int l1)]) hx hb dX11_grating_1 rfl hl (by decide) rfl (fun ls hl => ?_)
  refine lv_iconst (v := 0) hx hb dX11_grating_2 (by decide) ?_
  refine lv_istore_n (lv' := [(3, .int 0), (2, .int 0), (0, .ref h_this), (1, .int l1)]) hx hb dX11_grating_3 rfl hl (by decide) rfl (fun ls hl => ?_)
  obtain ⟨l2_4x, l3_4x, hq_4, hf⟩ := bd2_some hf
  have K_4 : ∀ (ls : Array Slot), lv_has ls 9 [(2, .int l2_4x)] → W p l e rm_X11_grating s m args below meth c s.heap [] 0 0 Z (F0 m 169 ls []) := by
    intro ls hl
    refine lv_iload_n hx hb dX11_grating_169 rfl (lv_at hl 0 rfl) ?_
    have e_f := Option.some.inj hf
    cases e_f
    exact hret rfl dX11_grating_170
  have L_4 : ∀ (n : Nat) (l2_4 : Int32) (l3_4 : Int32) (ls : Array Slot), lv_has ls 9 [(0, .ref h_this), (1, .int l1), (2, .int l2_4), (3, .int l3_4)] → loopN (fun (q : Int32 × Int32) => f_X11_grating_b4 c_now c_key c_delay l1 q.1 q.2) n (l2_4, l3_4) = some (l2_4x, l3_4x) → W p l e rm_X11_grating s m args below meth c s.heap [] 0 0 Z (F0 m 4 ls []) := by
    intro n
    induction n with
    | zero => intro l2_4 l3_4 ls hl hq; exact (loopN_zero hq).elim
    | succ n ih_4 =>
      intro l2_4 l3_4 ls hl hq
      obtain ⟨o_4, hf, ho1_4, ho2_4⟩ := loopN_step hq
      have hf : f_X11_grating_b4 c_now c_key c_delay l1 l2_4 l3_4 = some o_4 := hf
      unfold f_X11_grating_b4 at hf
      refine lv_iload_n hx hb dX11_grating_4 rfl (lv_at hl 3 rfl) ?_
      refine lv_aload_n hx hb dX11_grating_5 rfl (lv_at hl 0 rfl) ?_
      refine va_get (D := (dC, dI)) (ci := 11) (v := .ref h_this_now) (C := RX11) (T := TX11) (N := 30) hx hb hts in_X11_grating_X11 hown hK hP 0 rfl rfl 1 (by decide) (hts _ m_X11_grating_f13) (fun _ h9 => h9) rfl dX11_grating_6 ?_
      refine lv_bipush (v := 12) hx hb dX11_grating_9 (by decide) ?_
      obtain ⟨g_11, hf⟩ := gd_some hf
      refine va_iald hx hb hK hP 1 0 rfl rfl g_11 dX11_grating_11 ?_
      refine lv_icmp_ge (tgt := 169) hx hb dX11_grating_12 (by decide) (fun k_12 => ?_) (fun k_12 => ?_)
      · have hf := ite_t hf k_12
        have e_4 := ho2_4 _ (Option.some.inj hf).symm
        cases e_4
        exact K_4 ls (lv_sub hl [2] rfl)
      · have hf := ite_f hf k_12
        refine lv_iconst (v := 0) hx hb dX11_grating_15 (by decide) ?_
        refine lv_istore (lv' := [(4, .int 0), (0, .ref h_this), (1, .int l1), (2, .int l2_4), (3, .int l3_4)]) hx hb dX11_grating_16 hl (by decide) rfl (fun ls hl => ?_)
        obtain ⟨l2_18x, l4_18x, hq_18, hf⟩ := bd2_some hf
        have K_18 : ∀ (ls : Array Slot), lv_has ls 9 [(0, .ref h_this), (1, .int l1), (2, .int l2_18x), (3, .int l3_4)] → W p l e rm_X11_grating s m args below meth c s.heap [] 0 0 Z (F0 m 163 ls []) := by
          intro ls hl
          refine lv_iinc (v := (l3_4 + 1)) (lv' := [(3, .int (l3_4 + 1)), (0, .ref h_this), (1, .int l1), (2, .int l2_18x)]) hx hb dX11_grating_163 hl (k := 3) rfl rfl (by decide) rfl (fun ls hl => ?_)
          refine lv_goto (tgt := 4) hx hb dX11_grating_166 (by decide) ?_
          exact ih_4 l2_18x (l3_4 + 1) ls (lv_sub hl [1, 2, 3, 0] rfl) (ho1_4 _ (Option.some.inj hf).symm)
        have L_18 : ∀ (n : Nat) (l2_18 : Int32) (l4_18 : Int32) (ls : Array Slot), lv_has ls 9 [(0, .ref h_this), (1, .int l1), (2, .int l2_18), (3, .int l3_4), (4, .int l4_18)] → loopN (fun (q : Int32 × Int32) => f_X11_grating_b18 c_now c_key c_delay l1 l3_4 q.1 q.2) n (l2_18, l4_18) = some (l2_18x, l4_18x) → W p l e rm_X11_grating s m args below meth c s.heap [] 0 0 Z (F0 m 18 ls []) := by
          intro n
          induction n with
          | zero => intro l2_18 l4_18 ls hl hq; exact (loopN_zero hq).elim
          | succ n ih_18 =>
            intro l2_18 l4_18 ls hl hq
            obtain ⟨o_18, hf, ho1_18, ho2_18⟩ := loopN_step hq
            have hf : f_X11_grating_b18 c_now c_key c_delay l1 l3_4 l2_18 l4_18 = some o_18 := hf
            unfold f_X11_grating_b18 at hf
            have J_155 : ∀ (l4_155j : Int32) (s0_155j : Int32) (s1_155j : Int32) (ls : Array Slot), lv_has ls 9 [(0, .ref h_this), (1, .int l1), (3, .int l3_4), (4, .int l4_155j)] → f_X11_grating_j155 l4_155j s0_155j s1_155j = some o_18 → W p l e rm_X11_grating s m args below meth c s.heap [] 0 0 Z (F0 m 155 ls [.int s1_155j, .int s0_155j]) := by
              intro l4_155j s0_155j s1_155j ls hl hf
              unfold f_X11_grating_j155 at hf
              refine lv_iadd hx hb dX11_grating_155 ?_
              refine lv_istore_n (lv' := [(2, .int (s0_155j + s1_155j)), (0, .ref h_this), (1, .int l1), (3, .int l3_4), (4, .int l4_155j)]) hx hb dX11_grating_156 rfl hl (by decide) rfl (fun ls hl => ?_)
              refine lv_iinc (v := (l4_155j + 1)) (lv' := [(4, .int (l4_155j + 1)), (2, .int (s0_155j + s1_155j)), (0, .ref h_this), (1, .int l1), (3, .int l3_4)]) hx hb dX11_grating_157 hl (k := 4) rfl rfl (by decide) rfl (fun ls hl => ?_)
              refine lv_goto (tgt := 18) hx hb dX11_grating_160 (by decide) ?_
              exact ih_18 (s0_155j + s1_155j) (l4_155j + 1) ls (lv_sub hl [2, 3, 1, 4, 0] rfl) (ho1_18 _ (Option.some.inj hf).symm)
            have J_154 : ∀ (l4_154j : Int32) (s0_154j : Int32) (ls : Array Slot), lv_has ls 9 [(0, .ref h_this), (1, .int l1), (3, .int l3_4), (4, .int l4_154j)] → f_X11_grating_j154 l4_154j s0_154j = some o_18 → W p l e rm_X11_grating s m args below meth c s.heap [] 0 0 Z (F0 m 154 ls [.int s0_154j]) := by
              intro l4_154j s0_154j ls hl hf
              unfold f_X11_grating_j154 at hf
              refine lv_iconst (v := 0) hx hb dX11_grating_154 (by decide) ?_
              exact J_155 l4_154j s0_154j 0 ls (lv_sub hl [0, 1, 2, 3] rfl) hf
            have J_150 : ∀ (l4_150j : Int32) (s0_150j : Int32) (ls : Array Slot), lv_has ls 9 [(0, .ref h_this), (1, .int l1), (3, .int l3_4), (4, .int l4_150j)] → f_X11_grating_j150 l4_150j s0_150j = some o_18 → W p l e rm_X11_grating s m args below meth c s.heap [] 0 0 Z (F0 m 150 ls [.int s0_150j]) := by
              intro l4_150j s0_150j ls hl hf
              unfold f_X11_grating_j150 at hf
              refine lv_iconst (v := 1) hx hb dX11_grating_150 (by decide) ?_
              refine lv_goto (tgt := 155) hx hb dX11_grating_151 (by decide) ?_
              exact J_155 l4_150j s0_150j 1 ls (lv_sub hl [0, 1, 2, 3] rfl) hf
            have J_122 : ∀ (l2_122j : Int32) (l4_122j : Int32) (l7_122j : Int32) (s0_122j : Int32) (ls : Array Slot), lv_has ls 9 [(0, .ref h_this), (1, .int l1), (2, .int l2_122j), (3, .int l3_4), (4, .int l4_122j), (7, .int l7_122j)] → f_X11_grating_j122 l2_122j l4_122j l7_122j s0_122j = some o_18 → W p l e rm_X11_grating s m args below meth c s.heap [] 0 0 Z (F0 m 122 ls [.int s0_122j]) := by
              intro l2_122j l4_122j l7_122j s0_122j ls hl hf
              unfold f_X11_grating_j122 at hf
              refine lv_istore (lv' := [(8, .int s0_122j), (0, .ref h_this), (1, .int l1), (2, .int l2_122j), (3, .int l3_4), (4, .int l4_122j), (7, .int l7_122j)]) hx hb dX11_grating_122 hl (by decide) rfl (fun ls hl => ?_)
              refine lv_iload_n hx hb dX11_grating_124 rfl (lv_at hl 3 rfl) ?_
              refine lv_iload hx hb dX11_grating_125 (lv_at hl 0 rfl) ?_
              refine lv_if_eq (tgt := 154) hx hb dX11_grating_127 (by decide) (fun k_127 => ?_) (fun k_127 => ?_)
              · have hf := ite_t hf k_127
                exact J_154 l4_122j l2_122j ls (lv_sub hl [1, 2, 4, 5] rfl) hf
              · have hf := ite_f hf k_127
                refine lv_iload hx hb dX11_grating_130 (lv_at hl 6 rfl) ?_
                refine lv_iconst (v := 1) hx hb dX11_grating_132 (by decide) ?_
                refine lv_icmp_eq (tgt := 150) hx hb dX11_grating_133 (by decide) (fun k_133 => ?_) (fun k_133 => ?_)
                · have hf := ite_t hf k_133
                  exact J_150 l4_122j l2_122j ls (lv_sub hl [1, 2, 4, 5] rfl) hf
                · have hf := ite_f hf k_133
                  refine lv_iload hx hb dX11_grating_136 (lv_at hl 6 rfl) ?_
                  refine lv_bipush (v := 6) hx hb dX11_grating_138 (by decide) ?_
                  refine lv_icmp_eq (tgt := 150) hx hb dX11_grating_140 (by decide) (fun k_140 => ?_) (fun k_140 => ?_)
                  · have hf := ite_t hf k_140
                    exact J_150 l4_122j l2_122j ls (lv_sub hl [1, 2, 4, 5] rfl) hf
                  · have hf := ite_f hf k_140
                    refine lv_iload hx hb dX11_grating_143 (lv_at hl 6 rfl) ?_
                    refine lv_bipush (v := 11) hx hb dX11_grating_145 (by decide) ?_
                    refine lv_icmp_ne (tgt := 154) hx hb dX11_grating_147 (by decide) (fun k_147 => ?_) (fun k_147 => ?_)
                    · have hf := ite_f hf k_147
                      exact J_154 l4_122j l2_122j ls (lv_sub hl [1, 2, 4, 5] rfl) hf
                    · have hf := ite_t hf k_147
                      exact J_150 l4_122j l2_122j ls (lv_sub hl [1, 2, 4, 5] rfl) hf
            have J_121 : ∀ (l2_121j : Int32) (l4_121j : Int32) (l7_121j : Int32) (ls : Array Slot), lv_has ls 9 [(0, .ref h_this), (1, .int l1), (2, .int l2_121j), (3, .int l3_4), (4, .int l4_121j), (7, .int l7_121j)] → f_X11_grating_j121 l2_121j l4_121j l7_121j = some o_18 → W p l e rm_X11_grating s m args below meth c s.heap [] 0 0 Z (F0 m 121 ls []) := by
              intro l2_121j l4_121j l7_121j ls hl hf
              unfold f_X11_grating_j121 at hf
              refine lv_iconst (v := 0) hx hb dX11_grating_121 (by decide) ?_
              exact J_122 l2_121j l4_121j l7_121j 0 ls (lv_sub hl [0, 1, 2, 3, 4, 5] rfl) hf
            have J_85 : ∀ (l2_85j : Int32) (l4_85j : Int32) (l5_85j : Int32) (l6_85j : Int32) (s0_85j : Int32) (ls : Array Slot), lv_has ls 9 [(0, .ref h_this), (1, .int l1), (2, .int l2_85j), (3, .int l3_4), (4, .int l4_85j), (5, .int l5_85j), (6, .int l6_85j)] → f_X11_grating_j85 c_delay l3_4 l2_85j l4_85j l5_85j l6_85j s0_85j = some o_18 → W p l e rm_X11_grating s m args below meth c s.heap [] 0 0 Z (F0 m 85 ls [.int s0_85j]) := by
              intro l2_85j l4_85j l5_85j l6_85j s0_85j ls hl hf
              unfold f_X11_grating_j85 at hf
              refine lv_istore (lv' := [(7, .int s0_85j), (0, .ref h_this), (1, .int l1), (2, .int l2_85j), (3, .int l3_4), (4, .int l4_85j), (5, .int l5_85j), (6, .int l6_85j)]) hx hb dX11_grating_85 hl (by decide) rfl (fun ls hl => ?_)
              refine lv_iload hx hb dX11_grating_87 (lv_at hl 6 rfl) ?_
              refine lv_bipush (v := 12) hx hb dX11_grating_89 (by decide) ?_
              refine lv_icmp_ge (tgt := 121) hx hb dX11_grating_91 (by decide) (fun k_91 => ?_) (fun k_91 => ?_)
              · have hf := ite_t hf k_91
                exact J_121 l2_85j l4_85j s0_85j ls (lv_sub hl [1, 2, 3, 4, 5, 0] rfl) hf
              · have hf := ite_f hf k_91
                refine lv_iload hx hb dX11_grating_94 (lv_at hl 7 rfl) ?_
                refine lv_bipush (v := 12) hx hb dX11_grating_96 (by decide) ?_
                refine lv_icmp_ge (tgt := 121) hx hb dX11_grating_98 (by decide) (fun k_98 => ?_) (fun k_98 => ?_)
                · have hf := ite_t hf k_98
                  exact J_121 l2_85j l4_85j s0_85j ls (lv_sub hl [1, 2, 3, 4, 5, 0] rfl) hf
                · have hf := ite_f hf k_98
                  refine lv_aload_n hx hb dX11_grating_101 rfl (lv_at hl 1 rfl) ?_
                  refine lv_iload_n hx hb dX11_grating_102 rfl (lv_at hl 4 rfl) ?_
                  refine lv_iload hx hb dX11_grating_103 (lv_at hl 5 rfl) ?_
                  obtain ⟨r_105, hv_105, hf⟩ := bd1_some hf
                  refine kSi (rV (C := RX11) [.int l3_4, .int l4_85j] [] S (c_X11_spot l dC dI cI cJ cZ h_this h_this_delay g_this_book h_this_now g_this_width h_this_key g_this_wide g_this_ahead g_this_after g_this_sight g_this_pad g_this_counts g_this_isOne g_this_ways g_this_image g_this_isKept s.heap.size c_rules c_sights c_signs c_reason c_acts c_meetings c_clashes c_first c_where c_door c_wider c_ordersFound c_firstOrder c_least c_leastOrder c_delay l3_4 l4_85j r_105 hv_105) (cwV 2 hts gX11_grating_X11_spot rfl rfl rfl (by decide +kernel) ⟨Nat.le_of_ble_eq_true rfl, Nat.le_of_ble_eq_true rfl⟩) (va_recv hK hP (ci := 11) (q0 := 0) rfl rfl) hP hD hK hN [0, 3] rfl (by decide +kernel) rfl hl.1 rfl (Nat.le_of_ble_eq_true rfl) dX11_grating_105 ⟨Nat.le_of_ble_eq_true rfl, Nat.le_of_ble_eq_true rfl⟩) ?_
                  refine lv_iconst (v := 0) hx hb dX11_grating_108 (by decide) ?_
                  refine lv_bipush (v := 32) hx hb dX11_grating_109 (by decide) ?_
                  obtain ⟨r_111, hv_111, hf⟩ := bd1_some hf
                  refine kSi (rS [.int r_105, .int 0, .int 32] [] S (c_X11_in l dC dI cI cJ cZ s.heap.size r_105 0 32 r_111 hv_111) (va_cwS 3 hts gX11_grating_X11_in rfl rfl rfl (by decide +kernel) ⟨Nat.le_of_ble_eq_true rfl, Nat.le_of_ble_eq_true rfl⟩) hP hD hK hN [] rfl (by decide +kernel) rfl hl.1 rfl (Nat.le_of_ble_eq_true rfl) dX11_grating_111 ⟨Nat.le_of_ble_eq_true rfl, Nat.le_of_ble_eq_true rfl⟩) ?_
                  refine lv_if_eq (tgt := 121) hx hb dX11_grating_114 (by decide) (fun k_114 => ?_) (fun k_114 => ?_)
                  · have hf := ite_t hf k_114
                    exact J_121 l2_85j l4_85j s0_85j ls (lv_sub hl [1, 2, 3, 4, 5, 0] rfl) hf
                  · have hf := ite_f hf k_114
                    refine lv_iconst (v := 1) hx hb dX11_grating_117 (by decide) ?_
                    refine lv_goto (tgt := 122) hx hb dX11_grating_118 (by decide) ?_
                    exact J_122 l2_85j l4_85j s0_85j 1 ls (lv_sub hl [1, 2, 3, 4, 5, 0] rfl) hf
            refine lv_iload hx hb dX11_grating_18 (lv_at hl 4 rfl) ?_
            refine lv_aload_n hx hb dX11_grating_20 rfl (lv_at hl 0 rfl) ?_
            refine va_get (D := (dC, dI)) (ci := 11) (v := .ref h_this_now) (C := RX11) (T := TX11) (N := 30) hx hb hts in_X11_grating_X11 hown hK hP 0 rfl rfl 1 (by decide) (hts _ m_X11_grating_f13) (fun _ h9 => h9) rfl dX11_grating_21 ?_
            refine lv_bipush (v := 13) hx hb dX11_grating_24 (by decide) ?_
            obtain ⟨g_26, hf⟩ := gd_some hf
            refine va_iald hx hb hK hP 1 0 rfl rfl g_26 dX11_grating_26 ?_
            refine lv_icmp_ge (tgt := 163) hx hb dX11_grating_27 (by decide) (fun k_27 => ?_) (fun k_27 => ?_)
            · have hf := ite_t hf k_27
              have e_18 := ho2_18 _ (Option.some.inj hf).symm
              cases e_18
              exact K_18 ls (lv_sub hl [0, 1, 2, 3] rfl)
            · have hf := ite_f hf k_27
              refine lv_aload_n hx hb dX11_grating_30 rfl (lv_at hl 0 rfl) ?_
              refine va_get (D := (dC, dI)) (ci := 11) (v := .ref h_this_key) (C := RX11) (T := TX11) (N := 30) hx hb hts in_X11_grating_X11 hown hK hP 0 rfl rfl 3 (by decide) (hts _ m_X11_grating_f19) (fun _ h9 => h9) rfl dX11_grating_31 ?_
              refine lv_aload_n hx hb dX11_grating_34 rfl (lv_at hl 0 rfl) ?_
              refine va_get (D := (dC, dI)) (ci := 11) (v := .ref h_this_now) (C := RX11) (T := TX11) (N := 30) hx hb hts in_X11_grating_X11 hown hK hP 0 rfl rfl 1 (by decide) (hts _ m_X11_grating_f13) (fun _ h9 => h9) rfl dX11_grating_35 ?_
              refine lv_iload_n hx hb dX11_grating_38 rfl (lv_at hl 3 rfl) ?_
              obtain ⟨g_39, hf⟩ := gd_some hf
              refine va_iald hx hb hK hP 1 0 rfl rfl g_39 dX11_grating_39 ?_
              obtain ⟨g_40, hf⟩ := gd_some hf
              refine va_iald hx hb hK hP 2 0 rfl rfl g_40 dX11_grating_40 ?_
              obtain ⟨l5_41s, e_l5_41s, hf⟩ := nmv_some hf
              refine tpi e_l5_41s ?_
              refine lv_istore (lv' := [(5, .int l5_41s), (0, .ref h_this), (1, .int l1), (2, .int l2_18), (3, .int l3_4), (4, .int l4_18)]) hx hb dX11_grating_41 hl (by decide) rfl (fun ls hl => ?_)
              refine lv_aload_n hx hb dX11_grating_43 rfl (lv_at hl 1 rfl) ?_
              refine va_get (D := (dC, dI)) (ci := 11) (v := .ref h_this_key) (C := RX11) (T := TX11) (N := 30) hx hb hts in_X11_grating_X11 hown hK hP 0 rfl rfl 3 (by decide) (hts _ m_X11_grating_f19) (fun _ h9 => h9) rfl dX11_grating_44 ?_
              refine lv_aload_n hx hb dX11_grating_47 rfl (lv_at hl 1 rfl) ?_
              refine va_get (D := (dC, dI)) (ci := 11) (v := .ref h_this_now) (C := RX11) (T := TX11) (N := 30) hx hb hts in_X11_grating_X11 hown hK hP 0 rfl rfl 1 (by decide) (hts _ m_X11_grating_f13) (fun _ h9 => h9) rfl dX11_grating_48 ?_
              refine lv_bipush (v := 6) hx hb dX11_grating_51 (by decide) ?_
              refine lv_iload hx hb dX11_grating_53 (lv_at hl 5 rfl) ?_
              refine lv_iadd hx hb dX11_grating_55 ?_
              obtain ⟨g_56, hf⟩ := gd_some hf
              refine va_iald hx hb hK hP 1 0 rfl rfl g_56 dX11_grating_56 ?_
              obtain ⟨g_57, hf⟩ := gd_some hf
              refine va_iald hx hb hK hP 2 0 rfl rfl g_57 dX11_grating_57 ?_
              obtain ⟨l6_58s, e_l6_58s, hf⟩ := nmv_some hf
              refine tpi e_l6_58s ?_
              refine lv_istore (lv' := [(6, .int l6_58s), (5, .int l5_41s), (0, .ref h_this), (1, .int l1), (2, .int l2_18), (3, .int l3_4), (4, .int l4_18)]) hx hb dX11_grating_58 hl (by decide) rfl (fun ls hl => ?_)
              refine lv_iload hx hb dX11_grating_60 (lv_at hl 1 rfl) ?_
              refine lv_iload hx hb dX11_grating_62 (lv_at hl 0 rfl) ?_
              refine lv_iload_n hx hb dX11_grating_64 rfl (lv_at hl 3 rfl) ?_
              refine lv_iadd hx hb dX11_grating_65 ?_
              refine lv_bipush (v := 12) hx hb dX11_grating_66 (by decide) ?_
              refine lv_irem hx hb dX11_grating_68 (by decide) ?_
              refine lv_isub hx hb dX11_grating_69 ?_
              obtain ⟨l7_70s, e_l7_70s, hf⟩ := nmv_some hf
              refine tpi e_l7_70s ?_
              refine lv_istore (lv' := [(7, .int l7_70s), (6, .int l6_58s), (5, .int l5_41s), (0, .ref h_this), (1, .int l1), (2, .int l2_18), (3, .int l3_4), (4, .int l4_18)]) hx hb dX11_grating_70 hl (by decide) rfl (fun ls hl => ?_)
              refine lv_iload hx hb dX11_grating_72 (lv_at hl 0 rfl) ?_
              refine lv_if_ge (tgt := 83) hx hb dX11_grating_74 (by decide) (fun k_74 => ?_) (fun k_74 => ?_)
              · have hf := ite_t hf k_74
                refine lv_iload hx hb dX11_grating_83 (lv_at hl 0 rfl) ?_
                exact J_85 l2_18 l4_18 l5_41s l6_58s l7_70s ls (lv_sub hl [3, 4, 5, 6, 7, 2, 1] rfl) hf
              · have hf := ite_f hf k_74
                refine lv_iload hx hb dX11_grating_77 (lv_at hl 0 rfl) ?_
                refine lv_ineg hx hb dX11_grating_79 ?_
                refine lv_goto (tgt := 85) hx hb dX11_grating_80 (by decide) ?_
                exact J_85 l2_18 l4_18 l5_41s l6_58s (-l7_70s) ls (lv_sub hl [3, 4, 5, 6, 7, 2, 1] rfl) hf
        exact L_18 FU l2_4 0 ls (lv_sub hl [1, 2, 3, 4, 0] rfl) hq_18
  exact L_4 FU 0 0 ls (lv_sub hl [2, 3, 1, 0] rfl) hq_4
abbrev w_X11_grate (cI cJ cZ : ClassId) (h_this h_this_book h_this_now h_this_key h_this_delay g_this_width g_this_wide g_this_ahead g_this_after g_this_sight g_this_pad g_this_counts g_this_isOne g_this_ways g_this_image g_this_isKept : Nat) (c_rules : Int32) (c_sights : Int32) (c_signs : Int32) (c_reason : Int32) (c_acts : Int32) (c_meetings : Int32) (c_clashes : Int32) (c_first : Int32) (c_where : Int32) (c_door : Int32) (c_wider : Int32) (c_ordersFound : Int32) (c_firstOrder : Int32) (c_least : Int32) (c_leastOrder : Int32) (c_book : Nat → Int32) (c_now : Nat → Int32) (c_key : Nat → Int32) (c_delay : Nat → Int32) : va_W := [(h_this, .inr (11, [.ref h_this_book, .ref h_this_now, .ref g_this_width, .ref h_this_key, .ref g_this_wide, .ref h_this_delay, .int c_rules, .ref g_this_ahead, .ref g_this_after, .int c_sights, .ref g_this_sight, .int c_signs, .ref g_this_pad, .int c_reason, .int c_acts, .int c_meetings, .int c_clashes, .int c_first, .int c_where, .int c_door, .int c_wider, .int c_ordersFound, .int c_firstOrder, .int c_least, .int c_leastOrder, .ref g_this_counts, .ref g_this_isOne, .ref g_this_ways, .ref g_this_image, .ref g_this_isKept])), (h_this_book, .inl (cI, 15, .inl c_book)), (h_this_now, .inl (cI, 15, .inl c_now)), (h_this_key, .inl (cI, 10, .inl c_key)), (h_this_delay, .inl (cI, 2, .inl c_delay))]
abbrev rm_X11_grate : Room := { frames := 2, cells := 0, slots := 0, locals := 50 }
set_option maxRecDepth 100000 in
set_option maxHeartbeats 4000000 in
theorem c_X11_grate (l : Launch) (dC : Nat → ClassId) (dI : Nat → Nat → Nat) (cI cJ cZ : ClassId) (h_this h_this_book h_this_now h_this_key h_this_delay g_this_width g_this_wide g_this_ahead g_this_after g_this_sight g_this_pad g_this_counts g_this_isOne g_this_ways g_this_image g_this_isKept : Nat) (sz : Nat) (c_rules : Int32) (c_sights : Int32) (c_signs : Int32) (c_reason : Int32) (c_acts : Int32) (c_meetings : Int32) (c_clashes : Int32) (c_first : Int32) (c_where : Int32) (c_door : Int32) (c_wider : Int32) (c_ordersFound : Int32) (c_firstOrder : Int32) (c_least : Int32) (c_leastOrder : Int32) (c_book : Nat → Int32) (c_now : Nat → Int32) (c_key : Nat → Int32) (c_delay : Nat → Int32) (l1 : Int32) (r : Int32) (z_door : Int32) (z_wider : Int32) (z_now : Nat → Int32) (hf : f_X11_grate c_door c_wider c_book c_now c_key c_delay l1 = some (r, z_door, z_wider, z_now)) : Met l yX11_grate wsX11_grate rm_X11_grate (va_Pc [.ref h_this, .int l1] (PRE (dC, dI) (TY cI cJ cZ) sz (w_X11_grate cI cJ cZ h_this h_this_book h_this_now h_this_key h_this_delay g_this_width g_this_wide g_this_ahead g_this_after g_this_sight g_this_pad g_this_counts g_this_isOne g_this_ways g_this_image g_this_isKept c_rules c_sights c_signs c_reason c_acts c_meetings c_clashes c_first c_where c_door c_wider c_ordersFound c_firstOrder c_least c_leastOrder c_book c_now c_key c_delay))) (va_Qi (fun r' (_ : Unit) => r' = r) (POW (dC, dI) (va_A (w_X11_grate cI cJ cZ h_this h_this_book h_this_now h_this_key h_this_delay g_this_width g_this_wide g_this_ahead g_this_after g_this_sight g_this_pad g_this_counts g_this_isOne g_this_ways g_this_image g_this_isKept c_rules c_sights c_signs c_reason c_acts c_meetings c_clashes c_first c_where c_door c_wider c_ordersFound c_firstOrder c_least c_leastOrder c_book c_now c_key c_delay) sz) (w_X11_grate cI cJ cZ h_this h_this_book h_this_now h_this_key h_this_delay g_this_width g_this_wide g_this_ahead g_this_after g_this_sight g_this_pad g_this_counts g_this_isOne g_this_ways g_this_image g_this_isKept c_rules c_sights c_signs c_reason c_acts c_meetings c_clashes c_first c_where z_door z_wider c_ordersFound c_firstOrder c_least c_leastOrder c_book z_now c_key c_delay)) (va_A (w_X11_grate cI cJ cZ h_this h_this_book h_this_now h_this_key h_this_delay g_this_width g_this_wide g_this_ahead g_this_after g_this_sight g_this_pad g_this_counts g_this_isOne g_this_ways g_this_image g_this_isKept c_rules c_sights c_signs c_reason c_acts c_meetings c_clashes c_first c_where c_door c_wider c_ordersFound c_firstOrder c_least c_leastOrder c_book c_now c_key c_delay) sz)) 0 0 (va_A (w_X11_grate cI cJ cZ h_this h_this_book h_this_now h_this_key h_this_delay g_this_width g_this_wide g_this_ahead g_this_after g_this_sight g_this_pad g_this_counts g_this_isOne g_this_ways g_this_image g_this_isKept c_rules c_sights c_signs c_reason c_acts c_meetings c_clashes c_first c_where c_door c_wider c_ordersFound c_firstOrder c_least c_leastOrder c_book c_now c_key c_delay) sz) := by
  refine ofWi (ty := .int) (by decide +kernel) rfl (Nat.le_of_ble_eq_true rfl) ?_
  intro p e s m args below meth c Z A ls S hP hD hK hN hA hl hret
  obtain ⟨hx, hb, hml, hown, hts⟩ := id S
  have hown : s.vm.findClass RX11 = some m.cls := hown
  have hS : va_S A s.heap s.heap [] := va_S.rf
  have hl : lv_has ls 4 [(0, .ref h_this), (1, .int l1)] := hl
  unfold f_X11_grate at hf
  refine lv_iload_n hx hb dX11_grate_0 rfl (lv_at hl 1 rfl) ?_
  refine lv_iconst (v := 0) hx hb dX11_grate_1 (by decide) ?_
  refine lv_iconst (v := 2) hx hb dX11_grate_2 (by decide) ?_
  obtain ⟨r_3, hv_3, hf⟩ := bd1_some hf
  refine kSi (rS [.int l1, .int 0, .int 2] [] S (c_X11_in l dC dI cI cJ cZ s.heap.size l1 0 2 r_3 hv_3) (va_cwS 3 hts gX11_grate_X11_in rfl rfl rfl (by decide +kernel) ⟨Nat.le_of_ble_eq_true rfl, Nat.le_of_ble_eq_true rfl⟩) hP hD hK hN [] rfl (by decide +kernel) rfl hl.1 rfl (Nat.le_of_ble_eq_true rfl) dX11_grate_3 ⟨Nat.le_of_ble_eq_true rfl, Nat.le_of_ble_eq_true rfl⟩) ?_
  refine lv_if_ne (tgt := 12) hx hb dX11_grate_6 (by decide) (fun k_6 => ?_) (fun k_6 => ?_)
  · have hf := ite_f hf k_6
    refine lv_aload_n hx hb dX11_grate_12 rfl (lv_at hl 0 rfl) ?_
    obtain ⟨c_door_13, c_wider_13, c_now_13, hv_13, hf⟩ := bd3_some hf
    refine kWv (rV (C := RX11) [] [] S (c_X11_plain l dC dI cI cJ cZ h_this h_this_book h_this_now g_this_width h_this_key g_this_wide h_this_delay g_this_ahead g_this_after g_this_sight g_this_pad g_this_counts g_this_isOne g_this_ways g_this_image g_this_isKept s.heap.size c_rules c_sights c_signs c_reason c_acts c_meetings c_clashes c_first c_where c_door c_wider c_ordersFound c_firstOrder c_least c_leastOrder c_book c_now c_door_13 c_wider_13 c_now_13 hv_13) (cwV 0 hts gX11_grate_X11_plain rfl rfl rfl (by decide +kernel) ⟨Nat.le_of_ble_eq_true rfl, Nat.le_of_ble_eq_true rfl⟩) (va_recv hK hP (ci := 11) (q0 := 0) rfl rfl) hP hD hK hN [0, 1, 2] rfl (by decide +kernel) rfl hl.1 rfl (Nat.le_of_ble_eq_true rfl) dX11_grate_13 ⟨Nat.le_of_ble_eq_true rfl, Nat.le_of_ble_eq_true rfl⟩) hP hD hS hA [0, 1, 2] rfl rfl [some 0, some 1, some 2, none, none] (by decide +kernel) rfl (fun H locs hP hD hS => ?_)
    have hP : va_P (dC, dI) vwCl (w_X11_grate cI cJ cZ h_this h_this_book h_this_now h_this_key h_this_delay g_this_width g_this_wide g_this_ahead g_this_after g_this_sight g_this_pad g_this_counts g_this_isOne g_this_ways g_this_image g_this_isKept c_rules c_sights c_signs c_reason c_acts c_meetings c_clashes c_first c_where c_door_13 c_wider_13 c_ordersFound c_firstOrder c_least c_leastOrder c_book c_now_13 c_key c_delay) H := hP
    have hD : va_D A (w_X11_grate cI cJ cZ h_this h_this_book h_this_now h_this_key h_this_delay g_this_width g_this_wide g_this_ahead g_this_after g_this_sight g_this_pad g_this_counts g_this_isOne g_this_ways g_this_image g_this_isKept c_rules c_sights c_signs c_reason c_acts c_meetings c_clashes c_first c_where c_door_13 c_wider_13 c_ordersFound c_firstOrder c_least c_leastOrder c_book c_now_13 c_key c_delay) := hD
    refine lv_iconst (v := 0) hx hb dX11_grate_16 (by decide) ?_
    refine lv_istore_n (lv' := [(2, .int 0), (0, .ref h_this), (1, .int l1)]) hx hb dX11_grate_17 rfl hl (by decide) rfl (fun ls hl => ?_)
    refine lv_iconst (v := 1) hx hb dX11_grate_18 (by decide) ?_
    refine lv_istore_n (lv' := [(3, .int 1), (2, .int 0), (0, .ref h_this), (1, .int l1)]) hx hb dX11_grate_19 rfl hl (by decide) rfl (fun ls hl => ?_)
    obtain ⟨l2_20x, l3_20x, hq_20, hf⟩ := bd2_some hf
    have K_20 : ∀ (ls : Array Slot), lv_has ls 4 [(0, .ref h_this), (1, .int l1), (2, .int l2_20x)] → W p l e rm_X11_grate s m args below meth c H locs 0 0 Z (F0 m 51 ls []) := by
      intro ls hl
      refine lv_iload_n hx hb dX11_grate_51 rfl (lv_at hl 1 rfl) ?_
      refine lv_if_ne (tgt := 63) hx hb dX11_grate_52 (by decide) (fun k_52 => ?_) (fun k_52 => ?_)
      · have hf := ite_f hf k_52
        refine lv_iload_n hx hb dX11_grate_63 rfl (lv_at hl 1 rfl) ?_
        refine lv_iconst (v := 1) hx hb dX11_grate_64 (by decide) ?_
        refine lv_icmp_ne (tgt := 72) hx hb dX11_grate_65 (by decide) (fun k_65 => ?_) (fun k_65 => ?_)
        · have hf := ite_f hf k_65
          refine lv_aload_n hx hb dX11_grate_72 rfl (lv_at hl 0 rfl) ?_
          refine lv_iload_n hx hb dX11_grate_73 rfl (lv_at hl 2 rfl) ?_
          obtain ⟨r_74, hv_74, hf⟩ := bd1_some hf
          refine kSi (rV (C := RX11) [.int l2_20x] [] S (c_X11_grating l dC dI cI cJ cZ h_this h_this_now h_this_key h_this_delay h_this_book g_this_width g_this_wide g_this_ahead g_this_after g_this_sight g_this_pad g_this_counts g_this_isOne g_this_ways g_this_image g_this_isKept H.size c_rules c_sights c_signs c_reason c_acts c_meetings c_clashes c_first c_where c_door_13 c_wider_13 c_ordersFound c_firstOrder c_least c_leastOrder c_now_13 c_key c_delay l2_20x r_74 hv_74) (cwV 1 hts gX11_grate_X11_grating rfl rfl rfl (by decide +kernel) ⟨Nat.le_of_ble_eq_true rfl, Nat.le_of_ble_eq_true rfl⟩) (va_recv hK hP (ci := 11) (q0 := 0) rfl rfl) hP hD hK hN [0, 2, 3, 4] rfl (by decide +kernel) rfl hl.1 rfl (Nat.le_of_ble_eq_true rfl) dX11_grate_74 ⟨Nat.le_of_ble_eq_true rfl, Nat.le_of_ble_eq_true rfl⟩) ?_
          have e_f := Option.some.inj hf
          cases e_f
          exact hret rfl hP hD hS dX11_grate_77
        · have hf := ite_t hf k_65
          refine lv_iload_n hx hb dX11_grate_68 rfl (lv_at hl 2 rfl) ?_
          refine lv_goto (tgt := 77) hx hb dX11_grate_69 (by decide) ?_
          have e_f := Option.some.inj hf
          cases e_f
          exact hret rfl hP hD hS dX11_grate_77
      · have hf := ite_t hf k_52
        refine lv_aload_n hx hb dX11_grate_55 rfl (lv_at hl 0 rfl) ?_
        refine lv_iconst (v := 0) hx hb dX11_grate_56 (by decide) ?_
        obtain ⟨r_57, hv_57, hf⟩ := bd1_some hf
        refine kSi (rV (C := RX11) [.int 0] [] S (c_X11_grating l dC dI cI cJ cZ h_this h_this_now h_this_key h_this_delay h_this_book g_this_width g_this_wide g_this_ahead g_this_after g_this_sight g_this_pad g_this_counts g_this_isOne g_this_ways g_this_image g_this_isKept H.size c_rules c_sights c_signs c_reason c_acts c_meetings c_clashes c_first c_where c_door_13 c_wider_13 c_ordersFound c_firstOrder c_least c_leastOrder c_now_13 c_key c_delay 0 r_57 hv_57) (cwV 1 hts gX11_grate_X11_grating rfl rfl rfl (by decide +kernel) ⟨Nat.le_of_ble_eq_true rfl, Nat.le_of_ble_eq_true rfl⟩) (va_recv hK hP (ci := 11) (q0 := 0) rfl rfl) hP hD hK hN [0, 2, 3, 4] rfl (by decide +kernel) rfl hl.1 rfl (Nat.le_of_ble_eq_true rfl) dX11_grate_57 ⟨Nat.le_of_ble_eq_true rfl, Nat.le_of_ble_eq_true rfl⟩) ?_
        refine lv_goto (tgt := 77) hx hb dX11_grate_60 (by decide) ?_
        have e_f := Option.some.inj hf
        cases e_f
        exact hret rfl hP hD hS dX11_grate_77
    have L_20 : ∀ (n : Nat) (l2_20 : Int32) (l3_20 : Int32) (ls : Array Slot), lv_has ls 4 [(0, .ref h_this), (1, .int l1), (2, .int l2_20), (3, .int l3_20)] → loopN (fun (q : Int32 × Int32) => f_X11_grate_b20 c_key c_delay c_now_13 q.1 q.2) n (l2_20, l3_20) = some (l2_20x, l3_20x) → W p l e rm_X11_grate s m args below meth c H locs 0 0 Z (F0 m 20 ls []) := by
      intro n
      induction n with
      | zero => intro l2_20 l3_20 ls hl hq; exact (loopN_zero hq).elim
      | succ n ih_20 =>
        intro l2_20 l3_20 ls hl hq
        obtain ⟨o_20, hf, ho1_20, ho2_20⟩ := loopN_step hq
        have hf : f_X11_grate_b20 c_key c_delay c_now_13 l2_20 l3_20 = some o_20 := hf
        unfold f_X11_grate_b20 at hf
        have J_44 : ∀ (l3_44j : Int32) (s0_44j : Int32) (ls : Array Slot), lv_has ls 4 [(0, .ref h_this), (1, .int l1), (3, .int l3_44j)] → f_X11_grate_j44 l3_44j s0_44j = some o_20 → W p l e rm_X11_grate s m args below meth c H locs 0 0 Z (F0 m 44 ls [.int s0_44j]) := by
          intro l3_44j s0_44j ls hl hf
          unfold f_X11_grate_j44 at hf
          refine lv_istore_n (lv' := [(2, .int s0_44j), (0, .ref h_this), (1, .int l1), (3, .int l3_44j)]) hx hb dX11_grate_44 rfl hl (by decide) rfl (fun ls hl => ?_)
          refine lv_iinc (v := (l3_44j + 1)) (lv' := [(3, .int (l3_44j + 1)), (2, .int s0_44j), (0, .ref h_this), (1, .int l1)]) hx hb dX11_grate_45 hl (k := 3) rfl rfl (by decide) rfl (fun ls hl => ?_)
          refine lv_goto (tgt := 20) hx hb dX11_grate_48 (by decide) ?_
          exact ih_20 s0_44j (l3_44j + 1) ls (lv_sub hl [2, 3, 1, 0] rfl) (ho1_20 _ (Option.some.inj hf).symm)
        refine lv_iload_n hx hb dX11_grate_20 rfl (lv_at hl 3 rfl) ?_
        refine lv_bipush (v := 12) hx hb dX11_grate_21 (by decide) ?_
        refine lv_icmp_ge (tgt := 51) hx hb dX11_grate_23 (by decide) (fun k_23 => ?_) (fun k_23 => ?_)
        · have hf := ite_t hf k_23
          have e_20 := ho2_20 _ (Option.some.inj hf).symm
          cases e_20
          exact K_20 ls (lv_sub hl [0, 1, 2] rfl)
        · have hf := ite_f hf k_23
          refine lv_aload_n hx hb dX11_grate_26 rfl (lv_at hl 0 rfl) ?_
          refine lv_iload_n hx hb dX11_grate_27 rfl (lv_at hl 3 rfl) ?_
          obtain ⟨r_28, hv_28, hf⟩ := bd1_some hf
          refine kSi (rV (C := RX11) [.int l3_20] [] S (c_X11_grating l dC dI cI cJ cZ h_this h_this_now h_this_key h_this_delay h_this_book g_this_width g_this_wide g_this_ahead g_this_after g_this_sight g_this_pad g_this_counts g_this_isOne g_this_ways g_this_image g_this_isKept H.size c_rules c_sights c_signs c_reason c_acts c_meetings c_clashes c_first c_where c_door_13 c_wider_13 c_ordersFound c_firstOrder c_least c_leastOrder c_now_13 c_key c_delay l3_20 r_28 hv_28) (cwV 1 hts gX11_grate_X11_grating rfl rfl rfl (by decide +kernel) ⟨Nat.le_of_ble_eq_true rfl, Nat.le_of_ble_eq_true rfl⟩) (va_recv hK hP (ci := 11) (q0 := 0) rfl rfl) hP hD hK hN [0, 2, 3, 4] rfl (by decide +kernel) rfl hl.1 rfl (Nat.le_of_ble_eq_true rfl) dX11_grate_28 ⟨Nat.le_of_ble_eq_true rfl, Nat.le_of_ble_eq_true rfl⟩) ?_
          refine lv_aload_n hx hb dX11_grate_31 rfl (lv_at hl 0 rfl) ?_
          refine lv_iload_n hx hb dX11_grate_32 rfl (lv_at hl 2 rfl) ?_
          obtain ⟨r_33, hv_33, hf⟩ := bd1_some hf
          refine kSi (rV (C := RX11) [.int l2_20] [.int r_28] S (c_X11_grating l dC dI cI cJ cZ h_this h_this_now h_this_key h_this_delay h_this_book g_this_width g_this_wide g_this_ahead g_this_after g_this_sight g_this_pad g_this_counts g_this_isOne g_this_ways g_this_image g_this_isKept H.size c_rules c_sights c_signs c_reason c_acts c_meetings c_clashes c_first c_where c_door_13 c_wider_13 c_ordersFound c_firstOrder c_least c_leastOrder c_now_13 c_key c_delay l2_20 r_33 hv_33) (cwV 1 hts gX11_grate_X11_grating rfl rfl rfl (by decide +kernel) ⟨Nat.le_of_ble_eq_true rfl, Nat.le_of_ble_eq_true rfl⟩) (va_recv hK hP (ci := 11) (q0 := 0) rfl rfl) hP hD hK hN [0, 2, 3, 4] rfl (by decide +kernel) rfl hl.1 rfl (Nat.le_of_ble_eq_true rfl) dX11_grate_33 ⟨Nat.le_of_ble_eq_true rfl, Nat.le_of_ble_eq_true rfl⟩) ?_
          refine lv_icmp_ge (tgt := 43) hx hb dX11_grate_36 (by decide) (fun k_36 => ?_) (fun k_36 => ?_)
          · have hf := ite_t hf k_36
            refine lv_iload_n hx hb dX11_grate_43 rfl (lv_at hl 2 rfl) ?_
            exact J_44 l3_20 l2_20 ls (lv_sub hl [0, 1, 3] rfl) hf
          · have hf := ite_f hf k_36
            refine lv_iload_n hx hb dX11_grate_39 rfl (lv_at hl 3 rfl) ?_
            refine lv_goto (tgt := 44) hx hb dX11_grate_40 (by decide) ?_
            exact J_44 l3_20 l3_20 ls (lv_sub hl [0, 1, 3] rfl) hf
    exact L_20 FU 0 1 ls (lv_sub hl [2, 3, 1, 0] rfl) hq_20
  · have hf := ite_t hf k_6
    refine lv_bipush (v := (-2)) hx hb dX11_grate_9 (by decide) ?_
    have e_f := Option.some.inj hf
    cases e_f
    exact hret rfl hP hD hS dX11_grate_11
abbrev w_X11_rule (cI cJ cZ : ClassId) (h_this h_this_ahead h_this_after g_this_book g_this_now g_this_width g_this_key g_this_wide g_this_delay g_this_sight g_this_pad g_this_counts g_this_isOne g_this_ways g_this_image g_this_isKept : Nat) (c_rules : Int32) (c_sights : Int32) (c_signs : Int32) (c_reason : Int32) (c_acts : Int32) (c_meetings : Int32) (c_clashes : Int32) (c_first : Int32) (c_where : Int32) (c_door : Int32) (c_wider : Int32) (c_ordersFound : Int32) (c_firstOrder : Int32) (c_least : Int32) (c_leastOrder : Int32) (c_ahead : Nat → Int32) (c_after : Nat → Int32) : va_W := [(h_this, .inr (11, [.ref g_this_book, .ref g_this_now, .ref g_this_width, .ref g_this_key, .ref g_this_wide, .ref g_this_delay, .int c_rules, .ref h_this_ahead, .ref h_this_after, .int c_sights, .ref g_this_sight, .int c_signs, .ref g_this_pad, .int c_reason, .int c_acts, .int c_meetings, .int c_clashes, .int c_first, .int c_where, .int c_door, .int c_wider, .int c_ordersFound, .int c_firstOrder, .int c_least, .int c_leastOrder, .ref g_this_counts, .ref g_this_isOne, .ref g_this_ways, .ref g_this_image, .ref g_this_isKept])), (h_this_ahead, .inl (cI, 10, .inl c_ahead)), (h_this_after, .inl (cI, 10, .inl c_after))]
abbrev rm_X11_rule : Room := { frames := 2, cells := 0, slots := 0, locals := 42 }
theorem m_X11_rule_f145 : (.fieldLink RX11 145 "WovenRowsModel" "rules" "I" : Cond) ∈ wsX11_rule := by decide +kernel
theorem in_X11_rule_X11 : ∀ w ∈ u_ws RX11 TX11 30, w ∈ wsX11_rule := by decide +kernel
theorem m_X11_rule_f28 : (.fieldLink RX11 28 "WovenRowsModel" "ahead" "[I" : Cond) ∈ wsX11_rule := by decide +kernel
theorem m_X11_rule_f31 : (.fieldLink RX11 31 "WovenRowsModel" "after" "[I" : Cond) ∈ wsX11_rule := by decide +kernel
set_option maxRecDepth 100000 in
set_option maxHeartbeats 4000000 in
theorem c_X11_rule (l : Launch) (dC : Nat → ClassId) (dI : Nat → Nat → Nat) (cI cJ cZ : ClassId) (h_this h_this_ahead h_this_after g_this_book g_this_now g_this_width g_this_key g_this_wide g_this_delay g_this_sight g_this_pad g_this_counts g_this_isOne g_this_ways g_this_image g_this_isKept : Nat) (sz : Nat) (c_rules : Int32) (c_sights : Int32) (c_signs : Int32) (c_reason : Int32) (c_acts : Int32) (c_meetings : Int32) (c_clashes : Int32) (c_first : Int32) (c_where : Int32) (c_door : Int32) (c_wider : Int32) (c_ordersFound : Int32) (c_firstOrder : Int32) (c_least : Int32) (c_leastOrder : Int32) (c_ahead : Nat → Int32) (c_after : Nat → Int32) (l1 : Int32) (l2 : Int32) (r : Int32) (z_rules : Int32) (z_ahead : Nat → Int32) (z_after : Nat → Int32) (hf : f_X11_rule c_rules c_ahead c_after l1 l2 = some (r, z_rules, z_ahead, z_after)) : Met l yX11_rule wsX11_rule rm_X11_rule (va_Pc [.ref h_this, .int l1, .int l2] (PRE (dC, dI) (TY cI cJ cZ) sz (w_X11_rule cI cJ cZ h_this h_this_ahead h_this_after g_this_book g_this_now g_this_width g_this_key g_this_wide g_this_delay g_this_sight g_this_pad g_this_counts g_this_isOne g_this_ways g_this_image g_this_isKept c_rules c_sights c_signs c_reason c_acts c_meetings c_clashes c_first c_where c_door c_wider c_ordersFound c_firstOrder c_least c_leastOrder c_ahead c_after))) (va_Qi (fun r' (_ : Unit) => r' = r) (POW (dC, dI) (va_A (w_X11_rule cI cJ cZ h_this h_this_ahead h_this_after g_this_book g_this_now g_this_width g_this_key g_this_wide g_this_delay g_this_sight g_this_pad g_this_counts g_this_isOne g_this_ways g_this_image g_this_isKept c_rules c_sights c_signs c_reason c_acts c_meetings c_clashes c_first c_where c_door c_wider c_ordersFound c_firstOrder c_least c_leastOrder c_ahead c_after) sz) (w_X11_rule cI cJ cZ h_this h_this_ahead h_this_after g_this_book g_this_now g_this_width g_this_key g_this_wide g_this_delay g_this_sight g_this_pad g_this_counts g_this_isOne g_this_ways g_this_image g_this_isKept z_rules c_sights c_signs c_reason c_acts c_meetings c_clashes c_first c_where c_door c_wider c_ordersFound c_firstOrder c_least c_leastOrder z_ahead z_after)) (va_A (w_X11_rule cI cJ cZ h_this h_this_ahead h_this_after g_this_book g_this_now g_this_width g_this_key g_this_wide g_this_delay g_this_sight g_this_pad g_this_counts g_this_isOne g_this_ways g_this_image g_this_isKept c_rules c_sights c_signs c_reason c_acts c_meetings c_clashes c_first c_where c_door c_wider c_ordersFound c_firstOrder c_least c_leastOrder c_ahead c_after) sz)) 0 0 (va_A (w_X11_rule cI cJ cZ h_this h_this_ahead h_this_after g_this_book g_this_now g_this_width g_this_key g_this_wide g_this_delay g_this_sight g_this_pad g_this_counts g_this_isOne g_this_ways g_this_image g_this_isKept c_rules c_sights c_signs c_reason c_acts c_meetings c_clashes c_first c_where c_door c_wider c_ordersFound c_firstOrder c_least c_leastOrder c_ahead c_after) sz) := by
  refine ofWi (ty := .int) (by decide +kernel) rfl (Nat.le_of_ble_eq_true rfl) ?_
  intro p e s m args below meth c Z A ls S hP hD hK hN hA hl hret
  obtain ⟨hx, hb, hml, hown, hts⟩ := id S
  have hown : s.vm.findClass RX11 = some m.cls := hown
  have hS : va_S A s.heap s.heap [] := va_S.rf
  have hl : lv_has ls 3 [(0, .ref h_this), (1, .int l1), (2, .int l2)] := hl
  unfold f_X11_rule at hf
  refine lv_iload_n hx hb dX11_rule_0 rfl (lv_at hl 1 rfl) ?_
  obtain ⟨r_1, hv_1, hf⟩ := bd1_some hf
  refine kSi (rS [.int l1] [] S (c_X11_isMember l dC dI cI cJ cZ s.heap.size l1 r_1 hv_1) (va_cwS 1 hts gX11_rule_X11_isMember rfl rfl rfl (by decide +kernel) ⟨Nat.le_of_ble_eq_true rfl, Nat.le_of_ble_eq_true rfl⟩) hP hD hK hN [] rfl (by decide +kernel) rfl hl.1 rfl (Nat.le_of_ble_eq_true rfl) dX11_rule_1 ⟨Nat.le_of_ble_eq_true rfl, Nat.le_of_ble_eq_true rfl⟩) ?_
  refine lv_if_eq (tgt := 19) hx hb dX11_rule_4 (by decide) (fun k_4 => ?_) (fun k_4 => ?_)
  · have hf := ite_t hf k_4
    refine lv_iconst (v := (-1)) hx hb dX11_rule_19 (by decide) ?_
    have e_f := Option.some.inj hf
    cases e_f
    exact hret rfl hP hD hS dX11_rule_20
  · have hf := ite_f hf k_4
    refine lv_iload_n hx hb dX11_rule_7 rfl (lv_at hl 2 rfl) ?_
    obtain ⟨r_8, hv_8, hf⟩ := bd1_some hf
    refine kSi (rS [.int l2] [] S (c_X11_isMember l dC dI cI cJ cZ s.heap.size l2 r_8 hv_8) (va_cwS 1 hts gX11_rule_X11_isMember rfl rfl rfl (by decide +kernel) ⟨Nat.le_of_ble_eq_true rfl, Nat.le_of_ble_eq_true rfl⟩) hP hD hK hN [] rfl (by decide +kernel) rfl hl.1 rfl (Nat.le_of_ble_eq_true rfl) dX11_rule_8 ⟨Nat.le_of_ble_eq_true rfl, Nat.le_of_ble_eq_true rfl⟩) ?_
    refine lv_if_eq (tgt := 19) hx hb dX11_rule_11 (by decide) (fun k_11 => ?_) (fun k_11 => ?_)
    · have hf := ite_t hf k_11
      refine lv_iconst (v := (-1)) hx hb dX11_rule_19 (by decide) ?_
      have e_f := Option.some.inj hf
      cases e_f
      exact hret rfl hP hD hS dX11_rule_20
    · have hf := ite_f hf k_11
      refine lv_iload_n hx hb dX11_rule_14 rfl (lv_at hl 1 rfl) ?_
      refine lv_iload_n hx hb dX11_rule_15 rfl (lv_at hl 2 rfl) ?_
      refine lv_icmp_ne (tgt := 21) hx hb dX11_rule_16 (by decide) (fun k_16 => ?_) (fun k_16 => ?_)
      · have hf := ite_f hf k_16
        refine lv_aload_n hx hb dX11_rule_21 rfl (lv_at hl 0 rfl) ?_
        refine va_get (D := (dC, dI)) (ci := 11) (v := .int c_rules) (C := RX11) (T := TX11) (N := 30) hx hb hts in_X11_rule_X11 hown hK hP 0 rfl rfl 6 (by decide) (hts _ m_X11_rule_f145) (fun _ h9 => h9) rfl dX11_rule_22 ?_
        refine lv_bipush (v := 10) hx hb dX11_rule_25 (by decide) ?_
        refine lv_icmp_ne (tgt := 33) hx hb dX11_rule_27 (by decide) (fun k_27 => ?_) (fun k_27 => ?_)
        · have hf := ite_f hf k_27
          refine lv_aload_n hx hb dX11_rule_33 rfl (lv_at hl 0 rfl) ?_
          refine va_get (D := (dC, dI)) (ci := 11) (v := .ref h_this_ahead) (C := RX11) (T := TX11) (N := 30) hx hb hts in_X11_rule_X11 hown hK hP 0 rfl rfl 7 (by decide) (hts _ m_X11_rule_f28) (fun _ h9 => h9) rfl dX11_rule_34 ?_
          refine lv_aload_n hx hb dX11_rule_37 rfl (lv_at hl 0 rfl) ?_
          refine va_get (D := (dC, dI)) (ci := 11) (v := .int c_rules) (C := RX11) (T := TX11) (N := 30) hx hb hts in_X11_rule_X11 hown hK hP 0 rfl rfl 6 (by decide) (hts _ m_X11_rule_f145) (fun _ h9 => h9) rfl dX11_rule_38 ?_
          refine lv_iload_n hx hb dX11_rule_41 rfl (lv_at hl 1 rfl) ?_
          obtain ⟨g_42, hf⟩ := gd_some hf
          refine va_iast hx hb hK hP hD hS 1 0 rfl rfl g_42 dX11_rule_42 (fun H locs hP hD hS => ?_)
          have hP : va_P (dC, dI) vwCl (w_X11_rule cI cJ cZ h_this h_this_ahead h_this_after g_this_book g_this_now g_this_width g_this_key g_this_wide g_this_delay g_this_sight g_this_pad g_this_counts g_this_isOne g_this_ways g_this_image g_this_isKept c_rules c_sights c_signs c_reason c_acts c_meetings c_clashes c_first c_where c_door c_wider c_ordersFound c_firstOrder c_least c_leastOrder (upd c_ahead (Int32.toNatClampNeg c_rules) l1) c_after) H := hP
          have hD : va_D A (w_X11_rule cI cJ cZ h_this h_this_ahead h_this_after g_this_book g_this_now g_this_width g_this_key g_this_wide g_this_delay g_this_sight g_this_pad g_this_counts g_this_isOne g_this_ways g_this_image g_this_isKept c_rules c_sights c_signs c_reason c_acts c_meetings c_clashes c_first c_where c_door c_wider c_ordersFound c_firstOrder c_least c_leastOrder (upd c_ahead (Int32.toNatClampNeg c_rules) l1) c_after) := hD
          refine lv_aload_n hx hb dX11_rule_43 rfl (lv_at hl 0 rfl) ?_
          refine va_get (D := (dC, dI)) (ci := 11) (v := .ref h_this_after) (C := RX11) (T := TX11) (N := 30) hx hb hts in_X11_rule_X11 hown hK hP 0 rfl rfl 8 (by decide) (hts _ m_X11_rule_f31) (fun _ h9 => h9) rfl dX11_rule_44 ?_
          refine lv_aload_n hx hb dX11_rule_47 rfl (lv_at hl 0 rfl) ?_
          refine va_get (D := (dC, dI)) (ci := 11) (v := .int c_rules) (C := RX11) (T := TX11) (N := 30) hx hb hts in_X11_rule_X11 hown hK hP 0 rfl rfl 6 (by decide) (hts _ m_X11_rule_f145) (fun _ h9 => h9) rfl dX11_rule_48 ?_
          refine lv_iload_n hx hb dX11_rule_51 rfl (lv_at hl 2 rfl) ?_
          obtain ⟨g_52, hf⟩ := gd_some hf
          refine va_iast hx hb hK hP hD hS 2 0 rfl rfl g_52 dX11_rule_52 (fun H locs hP hD hS => ?_)
          have hP : va_P (dC, dI) vwCl (w_X11_rule cI cJ cZ h_this h_this_ahead h_this_after g_this_book g_this_now g_this_width g_this_key g_this_wide g_this_delay g_this_sight g_this_pad g_this_counts g_this_isOne g_this_ways g_this_image g_this_isKept c_rules c_sights c_signs c_reason c_acts c_meetings c_clashes c_first c_where c_door c_wider c_ordersFound c_firstOrder c_least c_leastOrder (upd c_ahead (Int32.toNatClampNeg c_rules) l1) (upd c_after (Int32.toNatClampNeg c_rules) l2)) H := hP
          have hD : va_D A (w_X11_rule cI cJ cZ h_this h_this_ahead h_this_after g_this_book g_this_now g_this_width g_this_key g_this_wide g_this_delay g_this_sight g_this_pad g_this_counts g_this_isOne g_this_ways g_this_image g_this_isKept c_rules c_sights c_signs c_reason c_acts c_meetings c_clashes c_first c_where c_door c_wider c_ordersFound c_firstOrder c_least c_leastOrder (upd c_ahead (Int32.toNatClampNeg c_rules) l1) (upd c_after (Int32.toNatClampNeg c_rules) l2)) := hD
          refine lv_aload_n hx hb dX11_rule_53 rfl (lv_at hl 0 rfl) ?_
          refine lv_dup hx hb dX11_rule_54 rfl ?_
          refine va_get (D := (dC, dI)) (ci := 11) (v := .int c_rules) (C := RX11) (T := TX11) (N := 30) hx hb hts in_X11_rule_X11 hown hK hP 0 rfl rfl 6 (by decide) (hts _ m_X11_rule_f145) (fun _ h9 => h9) rfl dX11_rule_55 ?_
          refine lv_iconst (v := 1) hx hb dX11_rule_58 (by decide) ?_
          refine lv_iadd hx hb dX11_rule_59 ?_
          refine va_put (D := (dC, dI)) (ci := 11) (v := .int (c_rules + 1)) (ty := .int) (C := RX11) (T := TX11) (N := 30) hx hb hts in_X11_rule_X11 tyX11 tyX11_ok nmX11 hown hK hP hD hS 0 rfl rfl 6 (by decide) (hts _ m_X11_rule_f145) (fun _ h9 => h9) rfl (by decide +kernel) rfl rfl (Nat.le_of_ble_eq_true rfl) dX11_rule_60 (fun H locs hP hD hS => ?_)
          have hP : va_P (dC, dI) vwCl (w_X11_rule cI cJ cZ h_this h_this_ahead h_this_after g_this_book g_this_now g_this_width g_this_key g_this_wide g_this_delay g_this_sight g_this_pad g_this_counts g_this_isOne g_this_ways g_this_image g_this_isKept (c_rules + 1) c_sights c_signs c_reason c_acts c_meetings c_clashes c_first c_where c_door c_wider c_ordersFound c_firstOrder c_least c_leastOrder (upd c_ahead (Int32.toNatClampNeg c_rules) l1) (upd c_after (Int32.toNatClampNeg c_rules) l2)) H := hP
          have hD : va_D A (w_X11_rule cI cJ cZ h_this h_this_ahead h_this_after g_this_book g_this_now g_this_width g_this_key g_this_wide g_this_delay g_this_sight g_this_pad g_this_counts g_this_isOne g_this_ways g_this_image g_this_isKept (c_rules + 1) c_sights c_signs c_reason c_acts c_meetings c_clashes c_first c_where c_door c_wider c_ordersFound c_firstOrder c_least c_leastOrder (upd c_ahead (Int32.toNatClampNeg c_rules) l1) (upd c_after (Int32.toNatClampNeg c_rules) l2)) := hD
          refine lv_aload_n hx hb dX11_rule_63 rfl (lv_at hl 0 rfl) ?_
          refine va_get (D := (dC, dI)) (ci := 11) (v := .int (c_rules + 1)) (C := RX11) (T := TX11) (N := 30) hx hb hts in_X11_rule_X11 hown hK hP 0 rfl rfl 6 (by decide) (hts _ m_X11_rule_f145) (fun _ h9 => h9) rfl dX11_rule_64 ?_
          have e_f := Option.some.inj hf
          cases e_f
          exact hret rfl hP hD hS dX11_rule_67
        · have hf := ite_t hf k_27
          refine lv_bipush (v := (-4)) hx hb dX11_rule_30 (by decide) ?_
          have e_f := Option.some.inj hf
          cases e_f
          exact hret rfl hP hD hS dX11_rule_32
      · have hf := ite_t hf k_16
        refine lv_iconst (v := (-1)) hx hb dX11_rule_19 (by decide) ?_
        have e_f := Option.some.inj hf
        cases e_f
        exact hret rfl hP hD hS dX11_rule_20
abbrev w_X11_unrule (cI cJ cZ : ClassId) (h_this g_this_book g_this_now g_this_width g_this_key g_this_wide g_this_delay g_this_ahead g_this_after g_this_sight g_this_pad g_this_counts g_this_isOne g_this_ways g_this_image g_this_isKept : Nat) (c_rules : Int32) (c_sights : Int32) (c_signs : Int32) (c_reason : Int32) (c_acts : Int32) (c_meetings : Int32) (c_clashes : Int32) (c_first : Int32) (c_where : Int32) (c_door : Int32) (c_wider : Int32) (c_ordersFound : Int32) (c_firstOrder : Int32) (c_least : Int32) (c_leastOrder : Int32) : va_W := [(h_this, .inr (11, [.ref g_this_book, .ref g_this_now, .ref g_this_width, .ref g_this_key, .ref g_this_wide, .ref g_this_delay, .int c_rules, .ref g_this_ahead, .ref g_this_after, .int c_sights, .ref g_this_sight, .int c_signs, .ref g_this_pad, .int c_reason, .int c_acts, .int c_meetings, .int c_clashes, .int c_first, .int c_where, .int c_door, .int c_wider, .int c_ordersFound, .int c_firstOrder, .int c_least, .int c_leastOrder, .ref g_this_counts, .ref g_this_isOne, .ref g_this_ways, .ref g_this_image, .ref g_this_isKept]))]
abbrev rm_X11_unrule : Room := { frames := 0, cells := 0, slots := 0, locals := 0 }
theorem m_X11_unrule_f145 : (.fieldLink RX11 145 "WovenRowsModel" "rules" "I" : Cond) ∈ wsX11_unrule := by decide +kernel
theorem in_X11_unrule_X11 : ∀ w ∈ u_ws RX11 TX11 30, w ∈ wsX11_unrule := by decide +kernel
set_option maxRecDepth 100000 in
set_option maxHeartbeats 4000000 in
theorem c_X11_unrule (l : Launch) (dC : Nat → ClassId) (dI : Nat → Nat → Nat) (cI cJ cZ : ClassId) (h_this g_this_book g_this_now g_this_width g_this_key g_this_wide g_this_delay g_this_ahead g_this_after g_this_sight g_this_pad g_this_counts g_this_isOne g_this_ways g_this_image g_this_isKept : Nat) (sz : Nat) (c_rules : Int32) (c_sights : Int32) (c_signs : Int32) (c_reason : Int32) (c_acts : Int32) (c_meetings : Int32) (c_clashes : Int32) (c_first : Int32) (c_where : Int32) (c_door : Int32) (c_wider : Int32) (c_ordersFound : Int32) (c_firstOrder : Int32) (c_least : Int32) (c_leastOrder : Int32) (r : Int32) (z_rules : Int32) (hf : f_X11_unrule c_rules = some (r, z_rules)) : Met l yX11_unrule wsX11_unrule rm_X11_unrule (va_Pc [.ref h_this] (PRE (dC, dI) (TY cI cJ cZ) sz (w_X11_unrule cI cJ cZ h_this g_this_book g_this_now g_this_width g_this_key g_this_wide g_this_delay g_this_ahead g_this_after g_this_sight g_this_pad g_this_counts g_this_isOne g_this_ways g_this_image g_this_isKept c_rules c_sights c_signs c_reason c_acts c_meetings c_clashes c_first c_where c_door c_wider c_ordersFound c_firstOrder c_least c_leastOrder))) (va_Qi (fun r' (_ : Unit) => r' = r) (POW (dC, dI) (va_A (w_X11_unrule cI cJ cZ h_this g_this_book g_this_now g_this_width g_this_key g_this_wide g_this_delay g_this_ahead g_this_after g_this_sight g_this_pad g_this_counts g_this_isOne g_this_ways g_this_image g_this_isKept c_rules c_sights c_signs c_reason c_acts c_meetings c_clashes c_first c_where c_door c_wider c_ordersFound c_firstOrder c_least c_leastOrder) sz) (w_X11_unrule cI cJ cZ h_this g_this_book g_this_now g_this_width g_this_key g_this_wide g_this_delay g_this_ahead g_this_after g_this_sight g_this_pad g_this_counts g_this_isOne g_this_ways g_this_image g_this_isKept z_rules c_sights c_signs c_reason c_acts c_meetings c_clashes c_first c_where c_door c_wider c_ordersFound c_firstOrder c_least c_leastOrder)) (va_A (w_X11_unrule cI cJ cZ h_this g_this_book g_this_now g_this_width g_this_key g_this_wide g_this_delay g_this_ahead g_this_after g_this_sight g_this_pad g_this_counts g_this_isOne g_this_ways g_this_image g_this_isKept c_rules c_sights c_signs c_reason c_acts c_meetings c_clashes c_first c_where c_door c_wider c_ordersFound c_firstOrder c_least c_leastOrder) sz)) 0 0 (va_A (w_X11_unrule cI cJ cZ h_this g_this_book g_this_now g_this_width g_this_key g_this_wide g_this_delay g_this_ahead g_this_after g_this_sight g_this_pad g_this_counts g_this_isOne g_this_ways g_this_image g_this_isKept c_rules c_sights c_signs c_reason c_acts c_meetings c_clashes c_first c_where c_door c_wider c_ordersFound c_firstOrder c_least c_leastOrder) sz) := by
  refine ofWi (ty := .int) (by decide +kernel) rfl (Nat.le_of_ble_eq_true rfl) ?_
  intro p e s m args below meth c Z A ls S hP hD hK hN hA hl hret
  obtain ⟨hx, hb, hml, hown, hts⟩ := id S
  have hown : s.vm.findClass RX11 = some m.cls := hown
  have hS : va_S A s.heap s.heap [] := va_S.rf
  have hl : lv_has ls 2 [(0, .ref h_this)] := hl
  unfold f_X11_unrule at hf
  refine lv_aload_n hx hb dX11_unrule_0 rfl (lv_at hl 0 rfl) ?_
  refine va_get (D := (dC, dI)) (ci := 11) (v := .int c_rules) (C := RX11) (T := TX11) (N := 30) hx hb hts in_X11_unrule_X11 hown hK hP 0 rfl rfl 6 (by decide) (hts _ m_X11_unrule_f145) (fun _ h9 => h9) rfl dX11_unrule_1 ?_
  refine lv_istore_n (lv' := [(1, .int c_rules), (0, .ref h_this)]) hx hb dX11_unrule_4 rfl hl (by decide) rfl (fun ls hl => ?_)
  refine lv_aload_n hx hb dX11_unrule_5 rfl (lv_at hl 1 rfl) ?_
  refine lv_iconst (v := 0) hx hb dX11_unrule_6 (by decide) ?_
  refine va_put (D := (dC, dI)) (ci := 11) (v := .int 0) (ty := .int) (C := RX11) (T := TX11) (N := 30) hx hb hts in_X11_unrule_X11 tyX11 tyX11_ok nmX11 hown hK hP hD hS 0 rfl rfl 6 (by decide) (hts _ m_X11_unrule_f145) (fun _ h9 => h9) rfl (by decide +kernel) rfl rfl (Nat.le_of_ble_eq_true rfl) dX11_unrule_7 (fun H locs hP hD hS => ?_)
  have hP : va_P (dC, dI) vwCl (w_X11_unrule cI cJ cZ h_this g_this_book g_this_now g_this_width g_this_key g_this_wide g_this_delay g_this_ahead g_this_after g_this_sight g_this_pad g_this_counts g_this_isOne g_this_ways g_this_image g_this_isKept 0 c_sights c_signs c_reason c_acts c_meetings c_clashes c_first c_where c_door c_wider c_ordersFound c_firstOrder c_least c_leastOrder) H := hP
  have hD : va_D A (w_X11_unrule cI cJ cZ h_this g_this_book g_this_now g_this_width g_this_key g_this_wide g_this_delay g_this_ahead g_this_after g_this_sight g_this_pad g_this_counts g_this_isOne g_this_ways g_this_image g_this_isKept 0 c_sights c_signs c_reason c_acts c_meetings c_clashes c_first c_where c_door c_wider c_ordersFound c_firstOrder c_least c_leastOrder) := hD
  refine lv_iload_n hx hb dX11_unrule_10 rfl (lv_at hl 0 rfl) ?_
  have e_f := Option.some.inj hf
  cases e_f
  exact hret rfl hP hD hS dX11_unrule_11
abbrev w_X11_orders (cI cJ cZ : ClassId) (h_this h_this_book h_this_now h_this_width h_this_wide h_this_delay h_this_ahead h_this_after g_this_key g_this_sight g_this_pad g_this_counts g_this_isOne g_this_ways g_this_image g_this_isKept : Nat) (c_rules : Int32) (c_sights : Int32) (c_signs : Int32) (c_reason : Int32) (c_acts : Int32) (c_meetings : Int32) (c_clashes : Int32) (c_first : Int32) (c_where : Int32) (c_door : Int32) (c_wider : Int32) (c_ordersFound : Int32) (c_firstOrder : Int32) (c_least : Int32) (c_leastOrder : Int32) (c_book : Nat → Int32) (c_now : Nat → Int32) (c_width : Nat → Int32) (c_wide : Nat → Int32) (c_delay : Nat → Int32) (c_ahead : Nat → Int32) (c_after : Nat → Int32) : va_W := [(h_this, .inr (11, [.ref h_this_book, .ref h_this_now, .ref h_this_width, .ref g_this_key, .ref h_this_wide, .ref h_this_delay, .int c_rules, .ref h_this_ahead, .ref h_this_after, .int c_sights, .ref g_this_sight, .int c_signs, .ref g_this_pad, .int c_reason, .int c_acts, .int c_meetings, .int c_clashes, .int c_first, .int c_where, .int c_door, .int c_wider, .int c_ordersFound, .int c_firstOrder, .int c_least, .int c_leastOrder, .ref g_this_counts, .ref g_this_isOne, .ref g_this_ways, .ref g_this_image, .ref g_this_isKept])), (h_this_book, .inl (cI, 15, .inl c_book)), (h_this_now, .inl (cI, 15, .inl c_now)), (h_this_width, .inl (cI, 10, .inl c_width)), (h_this_wide, .inl (cI, 17, .inl c_wide)), (h_this_delay, .inl (cI, 2, .inl c_delay)), (h_this_ahead, .inl (cI, 10, .inl c_ahead)), (h_this_after, .inl (cI, 10, .inl c_after))]
abbrev rm_X11_orders : Room := { frames := 4, cells := 0, slots := 0, locals := 94 }
theorem m_X11_orders_f151 : (.fieldLink RX11 151 "WovenRowsModel" "ordersFound" "I" : Cond) ∈ wsX11_orders := by decide +kernel
theorem in_X11_orders_X11 : ∀ w ∈ u_ws RX11 TX11 30, w ∈ wsX11_orders := by decide +kernel
theorem m_X11_orders_f154 : (.fieldLink RX11 154 "WovenRowsModel" "firstOrder" "I" : Cond) ∈ wsX11_orders := by decide +kernel
set_option maxRecDepth 100000 in
set_option maxHeartbeats 4000000 in
theorem c_X11_orders (l : Launch) (dC : Nat → ClassId) (dI : Nat → Nat → Nat) (cI cJ cZ : ClassId) (h_this h_this_book h_this_now h_this_width h_this_wide h_this_delay h_this_ahead h_this_after g_this_key g_this_sight g_this_pad g_this_counts g_this_isOne g_this_ways g_this_image g_this_isKept : Nat) (sz : Nat) (c_rules : Int32) (c_sights : Int32) (c_signs : Int32) (c_reason : Int32) (c_acts : Int32) (c_meetings : Int32) (c_clashes : Int32) (c_first : Int32) (c_where : Int32) (c_door : Int32) (c_wider : Int32) (c_ordersFound : Int32) (c_firstOrder : Int32) (c_least : Int32) (c_leastOrder : Int32) (c_book : Nat → Int32) (c_now : Nat → Int32) (c_width : Nat → Int32) (c_wide : Nat → Int32) (c_delay : Nat → Int32) (c_ahead : Nat → Int32) (c_after : Nat → Int32) (l1 : Int32) (l2 : Int32) (r : Int32) (z_meetings : Int32) (z_clashes : Int32) (z_first : Int32) (z_where : Int32) (z_door : Int32) (z_wider : Int32) (z_ordersFound : Int32) (z_firstOrder : Int32) (z_least : Int32) (z_leastOrder : Int32) (z_now : Nat → Int32) (hf : f_X11_orders c_rules c_meetings c_clashes c_first c_where c_door c_wider c_ordersFound c_firstOrder c_least c_leastOrder c_book c_now c_width c_wide c_delay c_ahead c_after l1 l2 = some (r, z_meetings, z_clashes, z_first, z_where, z_door, z_wider, z_ordersFound, z_firstOrder, z_least, z_leastOrder, z_now)) : Met l yX11_orders wsX11_orders rm_X11_orders (va_Pc [.ref h_this, .int l1, .int l2] (PRE (dC, dI) (TY cI cJ cZ) sz (w_X11_orders cI cJ cZ h_this h_this_book h_this_now h_this_width h_this_wide h_this_delay h_this_ahead h_this_after g_this_key g_this_sight g_this_pad g_this_counts g_this_isOne g_this_ways g_this_image g_this_isKept c_rules c_sights c_signs c_reason c_acts c_meetings c_clashes c_first c_where c_door c_wider c_ordersFound c_firstOrder c_least c_leastOrder c_book c_now c_width c_wide c_delay c_ahead c_after))) (va_Qi (fun r' (_ : Unit) => r' = r) (POW (dC, dI) (va_A (w_X11_orders cI cJ cZ h_this h_this_book h_this_now h_this_width h_this_wide h_this_delay h_this_ahead h_this_after g_this_key g_this_sight g_this_pad g_this_counts g_this_isOne g_this_ways g_this_image g_this_isKept c_rules c_sights c_signs c_reason c_acts c_meetings c_clashes c_first c_where c_door c_wider c_ordersFound c_firstOrder c_least c_leastOrder c_book c_now c_width c_wide c_delay c_ahead c_after) sz) (w_X11_orders cI cJ cZ h_this h_this_book h_this_now h_this_width h_this_wide h_this_delay h_this_ahead h_this_after g_this_key g_this_sight g_this_pad g_this_counts g_this_isOne g_this_ways g_this_image g_this_isKept c_rules c_sights c_signs c_reason c_acts z_meetings z_clashes z_first z_where z_door z_wider z_ordersFound z_firstOrder z_least z_leastOrder c_book z_now c_width c_wide c_delay c_ahead c_after)) (va_A (w_X11_orders cI cJ cZ h_this h_this_book h_this_now h_this_width h_this_wide h_this_delay h_this_ahead h_this_after g_this_key g_this_sight g_this_pad g_this_counts g_this_isOne g_this_ways g_this_image g_this_isKept c_rules c_sights c_signs c_reason c_acts c_meetings c_clashes c_first c_where c_door c_wider c_ordersFound c_firstOrder c_least c_leastOrder c_book c_now c_width c_wide c_delay c_ahead c_after) sz)) 0 0 (va_A (w_X11_orders cI cJ cZ h_this h_this_book h_this_now h_this_width h_this_wide h_this_delay h_this_ahead h_this_after g_this_key g_this_sight g_this_pad g_this_counts g_this_isOne g_this_ways g_this_image g_this_isKept c_rules c_sights c_signs c_reason c_acts c_meetings c_clashes c_first c_where c_door c_wider c_ordersFound c_firstOrder c_least c_leastOrder c_book c_now c_width c_wide c_delay c_ahead c_after) sz) := by
  refine ofWi (ty := .int) (by decide +kernel) rfl (Nat.le_of_ble_eq_true rfl) ?_
  intro p e s m args below meth c Z A ls S hP hD hK hN hA hl hret
  obtain ⟨hx, hb, hml, hown, hts⟩ := id S
  have hown : s.vm.findClass RX11 = some m.cls := hown
  have hS : va_S A s.heap s.heap [] := va_S.rf
  have hl : lv_has ls 3 [(0, .ref h_this), (1, .int l1), (2, .int l2)] := hl
  unfold f_X11_orders at hf
  refine lv_iload_n hx hb dX11_orders_0 rfl (lv_at hl 1 rfl) ?_
  obtain ⟨r_1, hv_1, hf⟩ := bd1_some hf
  refine kSi (rS [.int l1] [] S (c_X11_isRow l dC dI cI cJ cZ s.heap.size l1 r_1 hv_1) (va_cwS 1 hts gX11_orders_X11_isRow rfl rfl rfl (by decide +kernel) ⟨Nat.le_of_ble_eq_true rfl, Nat.le_of_ble_eq_true rfl⟩) hP hD hK hN [] rfl (by decide +kernel) rfl hl.1 rfl (Nat.le_of_ble_eq_true rfl) dX11_orders_1 ⟨Nat.le_of_ble_eq_true rfl, Nat.le_of_ble_eq_true rfl⟩) ?_
  refine lv_if_eq (tgt := 16) hx hb dX11_orders_4 (by decide) (fun k_4 => ?_) (fun k_4 => ?_)
  · have hf := ite_t hf k_4
    refine lv_bipush (v := (-2)) hx hb dX11_orders_16 (by decide) ?_
    have e_f := Option.some.inj hf
    cases e_f
    exact hret rfl hP hD hS dX11_orders_18
  · have hf := ite_f hf k_4
    refine lv_iload_n hx hb dX11_orders_7 rfl (lv_at hl 2 rfl) ?_
    refine lv_iconst (v := 0) hx hb dX11_orders_8 (by decide) ?_
    refine lv_iconst (v := 1) hx hb dX11_orders_9 (by decide) ?_
    obtain ⟨r_10, hv_10, hf⟩ := bd1_some hf
    refine kSi (rS [.int l2, .int 0, .int 1] [] S (c_X11_in l dC dI cI cJ cZ s.heap.size l2 0 1 r_10 hv_10) (va_cwS 3 hts gX11_orders_X11_in rfl rfl rfl (by decide +kernel) ⟨Nat.le_of_ble_eq_true rfl, Nat.le_of_ble_eq_true rfl⟩) hP hD hK hN [] rfl (by decide +kernel) rfl hl.1 rfl (Nat.le_of_ble_eq_true rfl) dX11_orders_10 ⟨Nat.le_of_ble_eq_true rfl, Nat.le_of_ble_eq_true rfl⟩) ?_
    refine lv_if_ne (tgt := 19) hx hb dX11_orders_13 (by decide) (fun k_13 => ?_) (fun k_13 => ?_)
    · have hf := ite_f hf k_13
      refine lv_aload_n hx hb dX11_orders_19 rfl (lv_at hl 0 rfl) ?_
      refine lv_iload_n hx hb dX11_orders_20 rfl (lv_at hl 1 rfl) ?_
      obtain ⟨c_meetings_21, c_clashes_21, c_first_21, c_where_21, c_door_21, c_wider_21, c_ordersFound_21, c_firstOrder_21, c_least_21, c_leastOrder_21, c_now_21, hv_21, hf⟩ := bd11_some hf
      refine kWv (rV (C := RX11) [.int l1] [] S (c_X11_layOrders l dC dI cI cJ cZ h_this h_this_book h_this_now h_this_width h_this_wide h_this_delay h_this_ahead h_this_after g_this_key g_this_sight g_this_pad g_this_counts g_this_isOne g_this_ways g_this_image g_this_isKept s.heap.size c_rules c_sights c_signs c_reason c_acts c_meetings c_clashes c_first c_where c_door c_wider c_ordersFound c_firstOrder c_least c_leastOrder c_book c_now c_width c_wide c_delay c_ahead c_after l1 c_meetings_21 c_clashes_21 c_first_21 c_where_21 c_door_21 c_wider_21 c_ordersFound_21 c_firstOrder_21 c_least_21 c_leastOrder_21 c_now_21 hv_21) (cwV 1 hts gX11_orders_X11_layOrders rfl rfl rfl (by decide +kernel) ⟨Nat.le_of_ble_eq_true rfl, Nat.le_of_ble_eq_true rfl⟩) (va_recv hK hP (ci := 11) (q0 := 0) rfl rfl) hP hD hK hN [0, 1, 2, 3, 4, 5, 6, 7] rfl (by decide +kernel) rfl hl.1 rfl (Nat.le_of_ble_eq_true rfl) dX11_orders_21 ⟨Nat.le_of_ble_eq_true rfl, Nat.le_of_ble_eq_true rfl⟩) hP hD hS hA [0, 1, 2, 3, 4, 5, 6, 7] rfl rfl [some 0, some 1, some 2, some 3, some 4, some 5, some 6, some 7] (by decide +kernel) rfl (fun H locs hP hD hS => ?_)
      have hP : va_P (dC, dI) vwCl (w_X11_orders cI cJ cZ h_this h_this_book h_this_now h_this_width h_this_wide h_this_delay h_this_ahead h_this_after g_this_key g_this_sight g_this_pad g_this_counts g_this_isOne g_this_ways g_this_image g_this_isKept c_rules c_sights c_signs c_reason c_acts c_meetings_21 c_clashes_21 c_first_21 c_where_21 c_door_21 c_wider_21 c_ordersFound_21 c_firstOrder_21 c_least_21 c_leastOrder_21 c_book c_now_21 c_width c_wide c_delay c_ahead c_after) H := hP
      have hD : va_D A (w_X11_orders cI cJ cZ h_this h_this_book h_this_now h_this_width h_this_wide h_this_delay h_this_ahead h_this_after g_this_key g_this_sight g_this_pad g_this_counts g_this_isOne g_this_ways g_this_image g_this_isKept c_rules c_sights c_signs c_reason c_acts c_meetings_21 c_clashes_21 c_first_21 c_where_21 c_door_21 c_wider_21 c_ordersFound_21 c_firstOrder_21 c_least_21 c_leastOrder_21 c_book c_now_21 c_width c_wide c_delay c_ahead c_after) := hD
      refine lv_iload_n hx hb dX11_orders_24 rfl (lv_at hl 2 rfl) ?_
      refine lv_if_ne (tgt := 35) hx hb dX11_orders_25 (by decide) (fun k_25 => ?_) (fun k_25 => ?_)
      · have hf := ite_f hf k_25
        refine lv_aload_n hx hb dX11_orders_35 rfl (lv_at hl 0 rfl) ?_
        refine va_get (D := (dC, dI)) (ci := 11) (v := .int c_firstOrder_21) (C := RX11) (T := TX11) (N := 30) hx hb hts in_X11_orders_X11 hown hK hP 0 rfl rfl 22 (by decide) (hts _ m_X11_orders_f154) (fun _ h9 => h9) rfl dX11_orders_36 ?_
        have e_f := Option.some.inj hf
        cases e_f
        exact hret rfl hP hD hS dX11_orders_39
      · have hf := ite_t hf k_25
        refine lv_aload_n hx hb dX11_orders_28 rfl (lv_at hl 0 rfl) ?_
        refine va_get (D := (dC, dI)) (ci := 11) (v := .int c_ordersFound_21) (C := RX11) (T := TX11) (N := 30) hx hb hts in_X11_orders_X11 hown hK hP 0 rfl rfl 21 (by decide) (hts _ m_X11_orders_f151) (fun _ h9 => h9) rfl dX11_orders_29 ?_
        refine lv_goto (tgt := 39) hx hb dX11_orders_32 (by decide) ?_
        have e_f := Option.some.inj hf
        cases e_f
        exact hret rfl hP hD hS dX11_orders_39
    · have hf := ite_t hf k_13
      refine lv_bipush (v := (-2)) hx hb dX11_orders_16 (by decide) ?_
      have e_f := Option.some.inj hf
      cases e_f
      exact hret rfl hP hD hS dX11_orders_18
abbrev w_X11_seen (cI cJ cZ : ClassId) (h_this h_this_sight g_this_book g_this_now g_this_width g_this_key g_this_wide g_this_delay g_this_ahead g_this_after g_this_pad g_this_counts g_this_isOne g_this_ways g_this_image g_this_isKept : Nat) (c_rules : Int32) (c_sights : Int32) (c_signs : Int32) (c_reason : Int32) (c_acts : Int32) (c_meetings : Int32) (c_clashes : Int32) (c_first : Int32) (c_where : Int32) (c_door : Int32) (c_wider : Int32) (c_ordersFound : Int32) (c_firstOrder : Int32) (c_least : Int32) (c_leastOrder : Int32) (c_sight : Nat → Int32) : va_W := [(h_this, .inr (11, [.ref g_this_book, .ref g_this_now, .ref g_this_width, .ref g_this_key, .ref g_this_wide, .ref g_this_delay, .int c_rules, .ref g_this_ahead, .ref g_this_after, .int c_sights, .ref h_this_sight, .int c_signs, .ref g_this_pad, .int c_reason, .int c_acts, .int c_meetings, .int c_clashes, .int c_first, .int c_where, .int c_door, .int c_wider, .int c_ordersFound, .int c_firstOrder, .int c_least, .int c_leastOrder, .ref g_this_counts, .ref g_this_isOne, .ref g_this_ways, .ref g_this_image, .ref g_this_isKept])), (h_this_sight, .inl (cI, 16, .inl c_sight))]
abbrev rm_X11_seen : Room := { frames := 1, cells := 0, slots := 0, locals := 22 }
theorem m_X11_seen_f177 : (.fieldLink RX11 177 "WovenRowsModel" "sights" "I" : Cond) ∈ wsX11_seen := by decide +kernel
theorem in_X11_seen_X11 : ∀ w ∈ u_ws RX11 TX11 30, w ∈ wsX11_seen := by decide +kernel
theorem m_X11_seen_f34 : (.fieldLink RX11 34 "WovenRowsModel" "sight" "[I" : Cond) ∈ wsX11_seen := by decide +kernel
set_option maxRecDepth 100000 in
set_option maxHeartbeats 4000000 in
theorem c_X11_seen (l : Launch) (dC : Nat → ClassId) (dI : Nat → Nat → Nat) (cI cJ cZ : ClassId) (h_this h_this_sight g_this_book g_this_now g_this_width g_this_key g_this_wide g_this_delay g_this_ahead g_this_after g_this_pad g_this_counts g_this_isOne g_this_ways g_this_image g_this_isKept : Nat) (sz : Nat) (c_rules : Int32) (c_sights : Int32) (c_signs : Int32) (c_reason : Int32) (c_acts : Int32) (c_meetings : Int32) (c_clashes : Int32) (c_first : Int32) (c_where : Int32) (c_door : Int32) (c_wider : Int32) (c_ordersFound : Int32) (c_firstOrder : Int32) (c_least : Int32) (c_leastOrder : Int32) (c_sight : Nat → Int32) (l1 : Int32) (l2 : Int32) (r : Int32) (z_sights : Int32) (z_sight : Nat → Int32) (hf : f_X11_seen c_sights c_sight l1 l2 = some (r, z_sights, z_sight)) : Met l yX11_seen wsX11_seen rm_X11_seen (va_Pc [.ref h_this, .int l1, .int l2] (PRE (dC, dI) (TY cI cJ cZ) sz (w_X11_seen cI cJ cZ h_this h_this_sight g_this_book g_this_now g_this_width g_this_key g_this_wide g_this_delay g_this_ahead g_this_after g_this_pad g_this_counts g_this_isOne g_this_ways g_this_image g_this_isKept c_rules c_sights c_signs c_reason c_acts c_meetings c_clashes c_first c_where c_door c_wider c_ordersFound c_firstOrder c_least c_leastOrder c_sight))) (va_Qi (fun r' (_ : Unit) => r' = r) (POW (dC, dI) (va_A (w_X11_seen cI cJ cZ h_this h_this_sight g_this_book g_this_now g_this_width g_this_key g_this_wide g_this_delay g_this_ahead g_this_after g_this_pad g_this_counts g_this_isOne g_this_ways g_this_image g_this_isKept c_rules c_sights c_signs c_reason c_acts c_meetings c_clashes c_first c_where c_door c_wider c_ordersFound c_firstOrder c_least c_leastOrder c_sight) sz) (w_X11_seen cI cJ cZ h_this h_this_sight g_this_book g_this_now g_this_width g_this_key g_this_wide g_this_delay g_this_ahead g_this_after g_this_pad g_this_counts g_this_isOne g_this_ways g_this_image g_this_isKept c_rules z_sights c_signs c_reason c_acts c_meetings c_clashes c_first c_where c_door c_wider c_ordersFound c_firstOrder c_least c_leastOrder z_sight)) (va_A (w_X11_seen cI cJ cZ h_this h_this_sight g_this_book g_this_now g_this_width g_this_key g_this_wide g_this_delay g_this_ahead g_this_after g_this_pad g_this_counts g_this_isOne g_this_ways g_this_image g_this_isKept c_rules c_sights c_signs c_reason c_acts c_meetings c_clashes c_first c_where c_door c_wider c_ordersFound c_firstOrder c_least c_leastOrder c_sight) sz)) 0 0 (va_A (w_X11_seen cI cJ cZ h_this h_this_sight g_this_book g_this_now g_this_width g_this_key g_this_wide g_this_delay g_this_ahead g_this_after g_this_pad g_this_counts g_this_isOne g_this_ways g_this_image g_this_isKept c_rules c_sights c_signs c_reason c_acts c_meetings c_clashes c_first c_where c_door c_wider c_ordersFound c_firstOrder c_least c_leastOrder c_sight) sz) := by
  refine ofWi (ty := .int) (by decide +kernel) rfl (Nat.le_of_ble_eq_true rfl) ?_
  intro p e s m args below meth c Z A ls S hP hD hK hN hA hl hret
  obtain ⟨hx, hb, hml, hown, hts⟩ := id S
  have hown : s.vm.findClass RX11 = some m.cls := hown
  have hS : va_S A s.heap s.heap [] := va_S.rf
  have hl : lv_has ls 3 [(0, .ref h_this), (1, .int l1), (2, .int l2)] := hl
  unfold f_X11_seen at hf
  refine lv_iload_n hx hb dX11_seen_0 rfl (lv_at hl 1 rfl) ?_
  refine lv_iconst (v := 0) hx hb dX11_seen_1 (by decide) ?_
  refine lv_bipush (v := 16) hx hb dX11_seen_2 (by decide) ?_
  obtain ⟨r_4, hv_4, hf⟩ := bd1_some hf
  refine kSi (rS [.int l1, .int 0, .int 16] [] S (c_X11_in l dC dI cI cJ cZ s.heap.size l1 0 16 r_4 hv_4) (va_cwS 3 hts gX11_seen_X11_in rfl rfl rfl (by decide +kernel) ⟨Nat.le_of_ble_eq_true rfl, Nat.le_of_ble_eq_true rfl⟩) hP hD hK hN [] rfl (by decide +kernel) rfl hl.1 rfl (Nat.le_of_ble_eq_true rfl) dX11_seen_4 ⟨Nat.le_of_ble_eq_true rfl, Nat.le_of_ble_eq_true rfl⟩) ?_
  refine lv_if_ne (tgt := 12) hx hb dX11_seen_7 (by decide) (fun k_7 => ?_) (fun k_7 => ?_)
  · have hf := ite_f hf k_7
    refine lv_iload_n hx hb dX11_seen_12 rfl (lv_at hl 2 rfl) ?_
    refine lv_iconst (v := 0) hx hb dX11_seen_13 (by decide) ?_
    refine lv_bipush (v := 60) hx hb dX11_seen_14 (by decide) ?_
    obtain ⟨r_16, hv_16, hf⟩ := bd1_some hf
    refine kSi (rS [.int l2, .int 0, .int 60] [] S (c_X11_in l dC dI cI cJ cZ s.heap.size l2 0 60 r_16 hv_16) (va_cwS 3 hts gX11_seen_X11_in rfl rfl rfl (by decide +kernel) ⟨Nat.le_of_ble_eq_true rfl, Nat.le_of_ble_eq_true rfl⟩) hP hD hK hN [] rfl (by decide +kernel) rfl hl.1 rfl (Nat.le_of_ble_eq_true rfl) dX11_seen_16 ⟨Nat.le_of_ble_eq_true rfl, Nat.le_of_ble_eq_true rfl⟩) ?_
    refine lv_if_ne (tgt := 25) hx hb dX11_seen_19 (by decide) (fun k_19 => ?_) (fun k_19 => ?_)
    · have hf := ite_f hf k_19
      refine lv_aload_n hx hb dX11_seen_25 rfl (lv_at hl 0 rfl) ?_
      refine va_get (D := (dC, dI)) (ci := 11) (v := .int c_sights) (C := RX11) (T := TX11) (N := 30) hx hb hts in_X11_seen_X11 hown hK hP 0 rfl rfl 9 (by decide) (hts _ m_X11_seen_f177) (fun _ h9 => h9) rfl dX11_seen_26 ?_
      refine lv_bipush (v := 8) hx hb dX11_seen_29 (by decide) ?_
      refine lv_icmp_ne (tgt := 37) hx hb dX11_seen_31 (by decide) (fun k_31 => ?_) (fun k_31 => ?_)
      · have hf := ite_f hf k_31
        refine lv_aload_n hx hb dX11_seen_37 rfl (lv_at hl 0 rfl) ?_
        refine va_get (D := (dC, dI)) (ci := 11) (v := .ref h_this_sight) (C := RX11) (T := TX11) (N := 30) hx hb hts in_X11_seen_X11 hown hK hP 0 rfl rfl 10 (by decide) (hts _ m_X11_seen_f34) (fun _ h9 => h9) rfl dX11_seen_38 ?_
        refine lv_iconst (v := 2) hx hb dX11_seen_41 (by decide) ?_
        refine lv_aload_n hx hb dX11_seen_42 rfl (lv_at hl 0 rfl) ?_
        refine va_get (D := (dC, dI)) (ci := 11) (v := .int c_sights) (C := RX11) (T := TX11) (N := 30) hx hb hts in_X11_seen_X11 hown hK hP 0 rfl rfl 9 (by decide) (hts _ m_X11_seen_f177) (fun _ h9 => h9) rfl dX11_seen_43 ?_
        refine lv_imul hx hb dX11_seen_46 ?_
        refine lv_iload_n hx hb dX11_seen_47 rfl (lv_at hl 1 rfl) ?_
        obtain ⟨g_48, hf⟩ := gd_some hf
        refine va_iast hx hb hK hP hD hS 1 0 rfl rfl g_48 dX11_seen_48 (fun H locs hP hD hS => ?_)
        have hP : va_P (dC, dI) vwCl (w_X11_seen cI cJ cZ h_this h_this_sight g_this_book g_this_now g_this_width g_this_key g_this_wide g_this_delay g_this_ahead g_this_after g_this_pad g_this_counts g_this_isOne g_this_ways g_this_image g_this_isKept c_rules c_sights c_signs c_reason c_acts c_meetings c_clashes c_first c_where c_door c_wider c_ordersFound c_firstOrder c_least c_leastOrder (upd c_sight (Int32.toNatClampNeg (2 * c_sights)) l1)) H := hP
        have hD : va_D A (w_X11_seen cI cJ cZ h_this h_this_sight g_this_book g_this_now g_this_width g_this_key g_this_wide g_this_delay g_this_ahead g_this_after g_this_pad g_this_counts g_this_isOne g_this_ways g_this_image g_this_isKept c_rules c_sights c_signs c_reason c_acts c_meetings c_clashes c_first c_where c_door c_wider c_ordersFound c_firstOrder c_least c_leastOrder (upd c_sight (Int32.toNatClampNeg (2 * c_sights)) l1)) := hD
        refine lv_aload_n hx hb dX11_seen_49 rfl (lv_at hl 0 rfl) ?_
        refine va_get (D := (dC, dI)) (ci := 11) (v := .ref h_this_sight) (C := RX11) (T := TX11) (N := 30) hx hb hts in_X11_seen_X11 hown hK hP 0 rfl rfl 10 (by decide) (hts _ m_X11_seen_f34) (fun _ h9 => h9) rfl dX11_seen_50 ?_
        refine lv_iconst (v := 2) hx hb dX11_seen_53 (by decide) ?_
        refine lv_aload_n hx hb dX11_seen_54 rfl (lv_at hl 0 rfl) ?_
        refine va_get (D := (dC, dI)) (ci := 11) (v := .int c_sights) (C := RX11) (T := TX11) (N := 30) hx hb hts in_X11_seen_X11 hown hK hP 0 rfl rfl 9 (by decide) (hts _ m_X11_seen_f177) (fun _ h9 => h9) rfl dX11_seen_55 ?_
        refine lv_imul hx hb dX11_seen_58 ?_
        refine lv_iconst (v := 1) hx hb dX11_seen_59 (by decide) ?_
        refine lv_iadd hx hb dX11_seen_60 ?_
        refine lv_iload_n hx hb dX11_seen_61 rfl (lv_at hl 2 rfl) ?_
        obtain ⟨g_62, hf⟩ := gd_some hf
        refine va_iast hx hb hK hP hD hS 1 0 rfl rfl g_62 dX11_seen_62 (fun H locs hP hD hS => ?_)
        have hP : va_P (dC, dI) vwCl (w_X11_seen cI cJ cZ h_this h_this_sight g_this_book g_this_now g_this_width g_this_key g_this_wide g_this_delay g_this_ahead g_this_after g_this_pad g_this_counts g_this_isOne g_this_ways g_this_image g_this_isKept c_rules c_sights c_signs c_reason c_acts c_meetings c_clashes c_first c_where c_door c_wider c_ordersFound c_firstOrder c_least c_leastOrder (upd (upd c_sight (Int32.toNatClampNeg (2 * c_sights)) l1) (Int32.toNatClampNeg ((2 * c_sights) + 1)) l2)) H := hP
        have hD : va_D A (w_X11_seen cI cJ cZ h_this h_this_sight g_this_book g_this_now g_this_width g_this_key g_this_wide g_this_delay g_this_ahead g_this_after g_this_pad g_this_counts g_this_isOne g_this_ways g_this_image g_this_isKept c_rules c_sights c_signs c_reason c_acts c_meetings c_clashes c_first c_where c_door c_wider c_ordersFound c_firstOrder c_least c_leastOrder (upd (upd c_sight (Int32.toNatClampNeg (2 * c_sights)) l1) (Int32.toNatClampNeg ((2 * c_sights) + 1)) l2)) := hD
        refine lv_aload_n hx hb dX11_seen_63 rfl (lv_at hl 0 rfl) ?_
        refine lv_dup hx hb dX11_seen_64 rfl ?_
        refine va_get (D := (dC, dI)) (ci := 11) (v := .int c_sights) (C := RX11) (T := TX11) (N := 30) hx hb hts in_X11_seen_X11 hown hK hP 0 rfl rfl 9 (by decide) (hts _ m_X11_seen_f177) (fun _ h9 => h9) rfl dX11_seen_65 ?_
        refine lv_iconst (v := 1) hx hb dX11_seen_68 (by decide) ?_
        refine lv_iadd hx hb dX11_seen_69 ?_
        refine va_put (D := (dC, dI)) (ci := 11) (v := .int (c_sights + 1)) (ty := .int) (C := RX11) (T := TX11) (N := 30) hx hb hts in_X11_seen_X11 tyX11 tyX11_ok nmX11 hown hK hP hD hS 0 rfl rfl 9 (by decide) (hts _ m_X11_seen_f177) (fun _ h9 => h9) rfl (by decide +kernel) rfl rfl (Nat.le_of_ble_eq_true rfl) dX11_seen_70 (fun H locs hP hD hS => ?_)
        have hP : va_P (dC, dI) vwCl (w_X11_seen cI cJ cZ h_this h_this_sight g_this_book g_this_now g_this_width g_this_key g_this_wide g_this_delay g_this_ahead g_this_after g_this_pad g_this_counts g_this_isOne g_this_ways g_this_image g_this_isKept c_rules (c_sights + 1) c_signs c_reason c_acts c_meetings c_clashes c_first c_where c_door c_wider c_ordersFound c_firstOrder c_least c_leastOrder (upd (upd c_sight (Int32.toNatClampNeg (2 * c_sights)) l1) (Int32.toNatClampNeg ((2 * c_sights) + 1)) l2)) H := hP
        have hD : va_D A (w_X11_seen cI cJ cZ h_this h_this_sight g_this_book g_this_now g_this_width g_this_key g_this_wide g_this_delay g_this_ahead g_this_after g_this_pad g_this_counts g_this_isOne g_this_ways g_this_image g_this_isKept c_rules (c_sights + 1) c_signs c_reason c_acts c_meetings c_clashes c_first c_where c_door c_wider c_ordersFound c_firstOrder c_least c_leastOrder (upd (upd c_sight (Int32.toNatClampNeg (2 * c_sights)) l1) (Int32.toNatClampNeg ((2 * c_sights) + 1)) l2)) := hD
        refine lv_aload_n hx hb dX11_seen_73 rfl (lv_at hl 0 rfl) ?_
        refine va_get (D := (dC, dI)) (ci := 11) (v := .int (c_sights + 1)) (C := RX11) (T := TX11) (N := 30) hx hb hts in_X11_seen_X11 hown hK hP 0 rfl rfl 9 (by decide) (hts _ m_X11_seen_f177) (fun _ h9 => h9) rfl dX11_seen_74 ?_
        have e_f := Option.some.inj hf
        cases e_f
        exact hret rfl hP hD hS dX11_seen_77
      · have hf := ite_t hf k_31
        refine lv_bipush (v := (-4)) hx hb dX11_seen_34 (by decide) ?_
        have e_f := Option.some.inj hf
        cases e_f
        exact hret rfl hP hD hS dX11_seen_36
    · have hf := ite_t hf k_19
      refine lv_bipush (v := (-2)) hx hb dX11_seen_22 (by decide) ?_
      have e_f := Option.some.inj hf
      cases e_f
      exact hret rfl hP hD hS dX11_seen_24
  · have hf := ite_t hf k_7
    refine lv_iconst (v := (-1)) hx hb dX11_seen_10 (by decide) ?_
    have e_f := Option.some.inj hf
    cases e_f
    exact hret rfl hP hD hS dX11_seen_11
abbrev w_X11_forget (cI cJ cZ : ClassId) (h_this g_this_book g_this_now g_this_width g_this_key g_this_wide g_this_delay g_this_ahead g_this_after g_this_sight g_this_pad g_this_counts g_this_isOne g_this_ways g_this_image g_this_isKept : Nat) (c_rules : Int32) (c_sights : Int32) (c_signs : Int32) (c_reason : Int32) (c_acts : Int32) (c_meetings : Int32) (c_clashes : Int32) (c_first : Int32) (c_where : Int32) (c_door : Int32) (c_wider : Int32) (c_ordersFound : Int32) (c_firstOrder : Int32) (c_least : Int32) (c_leastOrder : Int32) : va_W := [(h_this, .inr (11, [.ref g_this_book, .ref g_this_now, .ref g_this_width, .ref g_this_key, .ref g_this_wide, .ref g_this_delay, .int c_rules, .ref g_this_ahead, .ref g_this_after, .int c_sights, .ref g_this_sight, .int c_signs, .ref g_this_pad, .int c_reason, .int c_acts, .int c_meetings, .int c_clashes, .int c_first, .int c_where, .int c_door, .int c_wider, .int c_ordersFound, .int c_firstOrder, .int c_least, .int c_leastOrder, .ref g_this_counts, .ref g_this_isOne, .ref g_this_ways, .ref g_this_image, .ref g_this_isKept]))]
abbrev rm_X11_forget : Room := { frames := 0, cells := 0, slots := 0, locals := 0 }
theorem m_X11_forget_f177 : (.fieldLink RX11 177 "WovenRowsModel" "sights" "I" : Cond) ∈ wsX11_forget := by decide +kernel
theorem in_X11_forget_X11 : ∀ w ∈ u_ws RX11 TX11 30, w ∈ wsX11_forget := by decide +kernel
set_option maxRecDepth 100000 in
set_option maxHeartbeats 4000000 in
theorem c_X11_forget (l : Launch) (dC : Nat → ClassId) (dI : Nat → Nat → Nat) (cI cJ cZ : ClassId) (h_this g_this_book g_this_now g_this_width g_this_key g_this_wide g_this_delay g_this_ahead g_this_after g_this_sight g_this_pad g_this_counts g_this_isOne g_this_ways g_this_image g_this_isKept : Nat) (sz : Nat) (c_rules : Int32) (c_sights : Int32) (c_signs : Int32) (c_reason : Int32) (c_acts : Int32) (c_meetings : Int32) (c_clashes : Int32) (c_first : Int32) (c_where : Int32) (c_door : Int32) (c_wider : Int32) (c_ordersFound : Int32) (c_firstOrder : Int32) (c_least : Int32) (c_leastOrder : Int32) (r : Int32) (z_sights : Int32) (hf : f_X11_forget c_sights = some (r, z_sights)) : Met l yX11_forget wsX11_forget rm_X11_forget (va_Pc [.ref h_this] (PRE (dC, dI) (TY cI cJ cZ) sz (w_X11_forget cI cJ cZ h_this g_this_book g_this_now g_this_width g_this_key g_this_wide g_this_delay g_this_ahead g_this_after g_this_sight g_this_pad g_this_counts g_this_isOne g_this_ways g_this_image g_this_isKept c_rules c_sights c_signs c_reason c_acts c_meetings c_clashes c_first c_where c_door c_wider c_ordersFound c_firstOrder c_least c_leastOrder))) (va_Qi (fun r' (_ : Unit) => r' = r) (POW (dC, dI) (va_A (w_X11_forget cI cJ cZ h_this g_this_book g_this_now g_this_width g_this_key g_this_wide g_this_delay g_this_ahead g_this_after g_this_sight g_this_pad g_this_counts g_this_isOne g_this_ways g_this_image g_this_isKept c_rules c_sights c_signs c_reason c_acts c_meetings c_clashes c_first c_where c_door c_wider c_ordersFound c_firstOrder c_least c_leastOrder) sz) (w_X11_forget cI cJ cZ h_this g_this_book g_this_now g_this_width g_this_key g_this_wide g_this_delay g_this_ahead g_this_after g_this_sight g_this_pad g_this_counts g_this_isOne g_this_ways g_this_image g_this_isKept c_rules z_sights c_signs c_reason c_acts c_meetings c_clashes c_first c_where c_door c_wider c_ordersFound c_firstOrder c_least c_leastOrder)) (va_A (w_X11_forget cI cJ cZ h_this g_this_book g_this_now g_this_width g_this_key g_this_wide g_this_delay g_this_ahead g_this_after g_this_sight g_this_pad g_this_counts g_this_isOne g_this_ways g_this_image g_this_isKept c_rules c_sights c_signs c_reason c_acts c_meetings c_clashes c_first c_where c_door c_wider c_ordersFound c_firstOrder c_least c_leastOrder) sz)) 0 0 (va_A (w_X11_forget cI cJ cZ h_this g_this_book g_this_now g_this_width g_this_key g_this_wide g_this_delay g_this_ahead g_this_after g_this_sight g_this_pad g_this_counts g_this_isOne g_this_ways g_this_image g_this_isKept c_rules c_sights c_signs c_reason c_acts c_meetings c_clashes c_first c_where c_door c_wider c_ordersFound c_firstOrder c_least c_leastOrder) sz) := by
  refine ofWi (ty := .int) (by decide +kernel) rfl (Nat.le_of_ble_eq_true rfl) ?_
  intro p e s m args below meth c Z A ls S hP hD hK hN hA hl hret
  obtain ⟨hx, hb, hml, hown, hts⟩ := id S
  have hown : s.vm.findClass RX11 = some m.cls := hown
  have hS : va_S A s.heap s.heap [] := va_S.rf
  have hl : lv_has ls 2 [(0, .ref h_this)] := hl
  unfold f_X11_forget at hf
  refine lv_aload_n hx hb dX11_forget_0 rfl (lv_at hl 0 rfl) ?_
  refine va_get (D := (dC, dI)) (ci := 11) (v := .int c_sights) (C := RX11) (T := TX11) (N := 30) hx hb hts in_X11_forget_X11 hown hK hP 0 rfl rfl 9 (by decide) (hts _ m_X11_forget_f177) (fun _ h9 => h9) rfl dX11_forget_1 ?_
  refine lv_istore_n (lv' := [(1, .int c_sights), (0, .ref h_this)]) hx hb dX11_forget_4 rfl hl (by decide) rfl (fun ls hl => ?_)
  refine lv_aload_n hx hb dX11_forget_5 rfl (lv_at hl 1 rfl) ?_
  refine lv_iconst (v := 0) hx hb dX11_forget_6 (by decide) ?_
  refine va_put (D := (dC, dI)) (ci := 11) (v := .int 0) (ty := .int) (C := RX11) (T := TX11) (N := 30) hx hb hts in_X11_forget_X11 tyX11 tyX11_ok nmX11 hown hK hP hD hS 0 rfl rfl 9 (by decide) (hts _ m_X11_forget_f177) (fun _ h9 => h9) rfl (by decide +kernel) rfl rfl (Nat.le_of_ble_eq_true rfl) dX11_forget_7 (fun H locs hP hD hS => ?_)
  have hP : va_P (dC, dI) vwCl (w_X11_forget cI cJ cZ h_this g_this_book g_this_now g_this_width g_this_key g_this_wide g_this_delay g_this_ahead g_this_after g_this_sight g_this_pad g_this_counts g_this_isOne g_this_ways g_this_image g_this_isKept c_rules 0 c_signs c_reason c_acts c_meetings c_clashes c_first c_where c_door c_wider c_ordersFound c_firstOrder c_least c_leastOrder) H := hP
  have hD : va_D A (w_X11_forget cI cJ cZ h_this g_this_book g_this_now g_this_width g_this_key g_this_wide g_this_delay g_this_ahead g_this_after g_this_sight g_this_pad g_this_counts g_this_isOne g_this_ways g_this_image g_this_isKept c_rules 0 c_signs c_reason c_acts c_meetings c_clashes c_first c_where c_door c_wider c_ordersFound c_firstOrder c_least c_leastOrder) := hD
  refine lv_iload_n hx hb dX11_forget_10 rfl (lv_at hl 0 rfl) ?_
  have e_f := Option.some.inj hf
  cases e_f
  exact hret rfl hP hD hS dX11_forget_11
abbrev w_X11_cellOf (cI cJ cZ : ClassId) (h_this h_this_delay g_this_book g_this_now g_this_width g_this_key g_this_wide g_this_ahead g_this_after g_this_sight g_this_pad g_this_counts g_this_isOne g_this_ways g_this_image g_this_isKept : Nat) (c_rules : Int32) (c_sights : Int32) (c_signs : Int32) (c_reason : Int32) (c_acts : Int32) (c_meetings : Int32) (c_clashes : Int32) (c_first : Int32) (c_where : Int32) (c_door : Int32) (c_wider : Int32) (c_ordersFound : Int32) (c_firstOrder : Int32) (c_least : Int32) (c_leastOrder : Int32) (c_delay : Nat → Int32) : va_W := [(h_this, .inr (11, [.ref g_this_book, .ref g_this_now, .ref g_this_width, .ref g_this_key, .ref g_this_wide, .ref h_this_delay, .int c_rules, .ref g_this_ahead, .ref g_this_after, .int c_sights, .ref g_this_sight, .int c_signs, .ref g_this_pad, .int c_reason, .int c_acts, .int c_meetings, .int c_clashes, .int c_first, .int c_where, .int c_door, .int c_wider, .int c_ordersFound, .int c_firstOrder, .int c_least, .int c_leastOrder, .ref g_this_counts, .ref g_this_isOne, .ref g_this_ways, .ref g_this_image, .ref g_this_isKept])), (h_this_delay, .inl (cI, 2, .inl c_delay))]
abbrev rm_X11_cellOf : Room := { frames := 1, cells := 0, slots := 0, locals := 22 }
theorem m_X11_cellOf_f25 : (.fieldLink RX11 25 "WovenRowsModel" "delay" "[I" : Cond) ∈ wsX11_cellOf := by decide +kernel
theorem in_X11_cellOf_X11 : ∀ w ∈ u_ws RX11 TX11 30, w ∈ wsX11_cellOf := by decide +kernel
set_option maxRecDepth 100000 in
set_option maxHeartbeats 4000000 in
theorem c_X11_cellOf (l : Launch) (dC : Nat → ClassId) (dI : Nat → Nat → Nat) (cI cJ cZ : ClassId) (h_this h_this_delay g_this_book g_this_now g_this_width g_this_key g_this_wide g_this_ahead g_this_after g_this_sight g_this_pad g_this_counts g_this_isOne g_this_ways g_this_image g_this_isKept : Nat) (sz : Nat) (c_rules : Int32) (c_sights : Int32) (c_signs : Int32) (c_reason : Int32) (c_acts : Int32) (c_meetings : Int32) (c_clashes : Int32) (c_first : Int32) (c_where : Int32) (c_door : Int32) (c_wider : Int32) (c_ordersFound : Int32) (c_firstOrder : Int32) (c_least : Int32) (c_leastOrder : Int32) (c_delay : Nat → Int32) (l1 : Int32) (l2 : Int32) (l3 : Int32) (r : Int32) (hf : f_X11_cellOf c_delay l1 l2 l3 = some r) : Met l yX11_cellOf wsX11_cellOf rm_X11_cellOf (va_Pc [.ref h_this, .int l1, .int l2, .int l3] (PRE (dC, dI) (TY cI cJ cZ) sz (w_X11_cellOf cI cJ cZ h_this h_this_delay g_this_book g_this_now g_this_width g_this_key g_this_wide g_this_ahead g_this_after g_this_sight g_this_pad g_this_counts g_this_isOne g_this_ways g_this_image g_this_isKept c_rules c_sights c_signs c_reason c_acts c_meetings c_clashes c_first c_where c_door c_wider c_ordersFound c_firstOrder c_least c_leastOrder c_delay))) (vp_Si (fun r' => r' = r)) 0 0 (fun _ => False) := by
  refine ofSi (ty := .int) (by decide +kernel) rfl (Nat.le_of_ble_eq_true rfl) ?_
  intro p e s m args below meth c Z ls S hP hD hK hN hl hret
  obtain ⟨hx, hb, hml, hown, hts⟩ := id S
  have hown : s.vm.findClass RX11 = some m.cls := hown
  have hl : lv_has ls 5 [(0, .ref h_this), (1, .int l1), (2, .int l2), (3, .int l3)] := hl
  unfold f_X11_cellOf at hf
  refine lv_iload_n hx hb dX11_cellOf_0 rfl (lv_at hl 3 rfl) ?_
  refine lv_aload_n hx hb dX11_cellOf_1 rfl (lv_at hl 0 rfl) ?_
  refine va_get (D := (dC, dI)) (ci := 11) (v := .ref h_this_delay) (C := RX11) (T := TX11) (N := 30) hx hb hts in_X11_cellOf_X11 hown hK hP 0 rfl rfl 5 (by decide) (hts _ m_X11_cellOf_f25) (fun _ h9 => h9) rfl dX11_cellOf_2 ?_
  refine lv_iload_n hx hb dX11_cellOf_5 rfl (lv_at hl 1 rfl) ?_
  refine lv_bipush (v := 6) hx hb dX11_cellOf_6 (by decide) ?_
  refine lv_idiv hx hb dX11_cellOf_8 (by decide) ?_
  obtain ⟨g_9, hf⟩ := gd_some hf
  refine va_iald hx hb hK hP 1 0 rfl rfl g_9 dX11_cellOf_9 ?_
  refine lv_isub hx hb dX11_cellOf_10 ?_
  refine lv_iload_n hx hb dX11_cellOf_11 rfl (lv_at hl 1 rfl) ?_
  refine lv_bipush (v := 6) hx hb dX11_cellOf_12 (by decide) ?_
  refine lv_irem hx hb dX11_cellOf_14 (by decide) ?_
  refine lv_isub hx hb dX11_cellOf_15 ?_
  refine lv_iload_n hx hb dX11_cellOf_16 rfl (lv_at hl 2 rfl) ?_
  refine lv_isub hx hb dX11_cellOf_17 ?_
  obtain ⟨l4_18s, e_l4_18s, hf⟩ := nmv_some hf
  refine tpi e_l4_18s ?_
  refine lv_istore (lv' := [(4, .int l4_18s), (0, .ref h_this), (1, .int l1), (2, .int l2), (3, .int l3)]) hx hb dX11_cellOf_18 hl (by decide) rfl (fun ls hl => ?_)
  refine lv_iload hx hb dX11_cellOf_20 (lv_at hl 0 rfl) ?_
  refine lv_iconst (v := 0) hx hb dX11_cellOf_22 (by decide) ?_
  refine lv_bipush (v := 16) hx hb dX11_cellOf_23 (by decide) ?_
  obtain ⟨r_25, hv_25, hf⟩ := bd1_some hf
  refine kSi (rS [.int l4_18s, .int 0, .int 16] [] S (c_X11_in l dC dI cI cJ cZ s.heap.size l4_18s 0 16 r_25 hv_25) (va_cwS 3 hts gX11_cellOf_X11_in rfl rfl rfl (by decide +kernel) ⟨Nat.le_of_ble_eq_true rfl, Nat.le_of_ble_eq_true rfl⟩) hP hD hK hN [] rfl (by decide +kernel) rfl hl.1 rfl (Nat.le_of_ble_eq_true rfl) dX11_cellOf_25 ⟨Nat.le_of_ble_eq_true rfl, Nat.le_of_ble_eq_true rfl⟩) ?_
  refine lv_if_ne (tgt := 36) hx hb dX11_cellOf_28 (by decide) (fun k_28 => ?_) (fun k_28 => ?_)
  · have hf := ite_f hf k_28
    refine lv_iload_n hx hb dX11_cellOf_36 rfl (lv_at hl 2 rfl) ?_
    refine lv_bipush (v := 6) hx hb dX11_cellOf_37 (by decide) ?_
    refine lv_icmp_ge (tgt := 47) hx hb dX11_cellOf_39 (by decide) (fun k_39 => ?_) (fun k_39 => ?_)
    · have hf := ite_t hf k_39
      refine lv_bipush (v := 16) hx hb dX11_cellOf_47 (by decide) ?_
      refine lv_iload hx hb dX11_cellOf_49 (lv_at hl 0 rfl) ?_
      refine lv_isub hx hb dX11_cellOf_51 ?_
      have e_f := Option.some.inj hf
      cases e_f
      exact hret rfl dX11_cellOf_52
    · have hf := ite_f hf k_39
      refine lv_iload hx hb dX11_cellOf_42 (lv_at hl 0 rfl) ?_
      refine lv_goto (tgt := 52) hx hb dX11_cellOf_44 (by decide) ?_
      have e_f := Option.some.inj hf
      cases e_f
      exact hret rfl dX11_cellOf_52
  · have hf := ite_t hf k_28
    refine lv_bipush (v := 17) hx hb dX11_cellOf_31 (by decide) ?_
    refine lv_goto (tgt := 52) hx hb dX11_cellOf_33 (by decide) ?_
    have e_f := Option.some.inj hf
    cases e_f
    exact hret rfl dX11_cellOf_52
abbrev w_X11_fits (cI cJ cZ : ClassId) (h_this h_this_book h_this_delay h_this_sight g_this_now g_this_width g_this_key g_this_wide g_this_ahead g_this_after g_this_pad g_this_counts g_this_isOne g_this_ways g_this_image g_this_isKept : Nat) (c_rules : Int32) (c_sights : Int32) (c_signs : Int32) (c_reason : Int32) (c_acts : Int32) (c_meetings : Int32) (c_clashes : Int32) (c_first : Int32) (c_where : Int32) (c_door : Int32) (c_wider : Int32) (c_ordersFound : Int32) (c_firstOrder : Int32) (c_least : Int32) (c_leastOrder : Int32) (c_book : Nat → Int32) (c_delay : Nat → Int32) (c_sight : Nat → Int32) : va_W := [(h_this, .inr (11, [.ref h_this_book, .ref g_this_now, .ref g_this_width, .ref g_this_key, .ref g_this_wide, .ref h_this_delay, .int c_rules, .ref g_this_ahead, .ref g_this_after, .int c_sights, .ref h_this_sight, .int c_signs, .ref g_this_pad, .int c_reason, .int c_acts, .int c_meetings, .int c_clashes, .int c_first, .int c_where, .int c_door, .int c_wider, .int c_ordersFound, .int c_firstOrder, .int c_least, .int c_leastOrder, .ref g_this_counts, .ref g_this_isOne, .ref g_this_ways, .ref g_this_image, .ref g_this_isKept])), (h_this_book, .inl (cI, 15, .inl c_book)), (h_this_delay, .inl (cI, 2, .inl c_delay)), (h_this_sight, .inl (cI, 16, .inl c_sight))]
abbrev rm_X11_fits : Room := { frames := 2, cells := 0, slots := 0, locals := 46 }
theorem m_X11_fits_f177 : (.fieldLink RX11 177 "WovenRowsModel" "sights" "I" : Cond) ∈ wsX11_fits := by decide +kernel
theorem in_X11_fits_X11 : ∀ w ∈ u_ws RX11 TX11 30, w ∈ wsX11_fits := by decide +kernel
theorem m_X11_fits_f34 : (.fieldLink RX11 34 "WovenRowsModel" "sight" "[I" : Cond) ∈ wsX11_fits := by decide +kernel
theorem m_X11_fits_f7 : (.fieldLink RX11 7 "WovenRowsModel" "book" "[I" : Cond) ∈ wsX11_fits := by decide +kernel
set_option maxRecDepth 100000 in
set_option maxHeartbeats 4000000 in
theorem c_X11_fits (l : Launch) (dC : Nat → ClassId) (dI : Nat → Nat → Nat) (cI cJ cZ : ClassId) (h_this h_this_book h_this_delay h_this_sight g_this_now g_this_width g_this_key g_this_wide g_this_ahead g_this_after g_this_pad g_this_counts g_this_isOne g_this_ways g_this_image g_this_isKept : Nat) (sz : Nat) (c_rules : Int32) (c_sights : Int32) (c_signs : Int32) (c_reason : Int32) (c_acts : Int32) (c_meetings : Int32) (c_clashes : Int32) (c_first : Int32) (c_where : Int32) (c_door : Int32) (c_wider : Int32) (c_ordersFound : Int32) (c_firstOrder : Int32) (c_least : Int32) (c_leastOrder : Int32) (c_book : Nat → Int32) (c_delay : Nat → Int32) (c_sight : Nat → Int32) (l1 : Int32) (l2 : Int32) (r : Int32) (hf : f_X11_fits c_sights c_book c_delay c_sight l1 l2 = some r) : Met l yX11_fits wsX11_fits rm_X11_fits (va_Pc [.ref h_this, .int l1, .int l2] (PRE (dC, dI) (TY cI cJ cZ) sz (w_X11_fits cI cJ cZ h_this h_this_book h_this_delay h_this_sight g_this_now g_this_width g_this_key g_this_wide g_this_ahead g_this_after g_this_pad g_this_counts g_this_isOne g_this_ways g_this_image g_this_isKept c_rules c_sights c_signs c_reason c_acts c_meetings c_clashes c_first c_where c_door c_wider c_ordersFound c_firstOrder c_least c_leastOrder c_book c_delay c_sight))) (vp_Si (fun r' => r' = r)) 0 0 (fun _ => False) := by
  refine ofSi (ty := .boolean) (by decide +kernel) rfl (Nat.le_of_ble_eq_true rfl) ?_
  intro p e s m args below meth c Z ls S hP hD hK hN hl hret
  obtain ⟨hx, hb, hml, hown, hts⟩ := id S
  have hown : s.vm.findClass RX11 = some m.cls := hown
  have hl : lv_has ls 5 [(0, .ref h_this), (1, .int l1), (2, .int l2)] := hl
  unfold f_X11_fits at hf
  have J_24 : ∀ (s0_24j : Int32) (ls : Array Slot), lv_has ls 5 [(0, .ref h_this), (1, .int l1), (2, .int l2)] → f_X11_fits_j24 c_sights c_delay c_sight l1 l2 s0_24j = some r → W p l e rm_X11_fits s m args below meth c s.heap [] 0 0 Z (F0 m 24 ls [.int s0_24j]) := by
    intro s0_24j ls hl hf
    unfold f_X11_fits_j24 at hf
    refine lv_istore_n (lv' := [(3, .int s0_24j), (0, .ref h_this), (1, .int l1), (2, .int l2)]) hx hb dX11_fits_24 rfl hl (by decide) rfl (fun ls hl => ?_)
    refine lv_iconst (v := 0) hx hb dX11_fits_25 (by decide) ?_
    refine lv_istore (lv' := [(4, .int 0), (3, .int s0_24j), (0, .ref h_this), (1, .int l1), (2, .int l2)]) hx hb dX11_fits_26 hl (by decide) rfl (fun ls hl => ?_)
    obtain ⟨l3_28x, l4_28x, hq_28, hf⟩ := bd2_some hf
    have K_28 : ∀ (ls : Array Slot), lv_has ls 5 [(3, .int l3_28x)] → W p l e rm_X11_fits s m args below meth c s.heap [] 0 0 Z (F0 m 82 ls []) := by
      intro ls hl
      refine lv_iload_n hx hb dX11_fits_82 rfl (lv_at hl 0 rfl) ?_
      obtain ⟨hb_83, hf⟩ := gb_some hf
      have e_f := Option.some.inj hf
      cases e_f
      exact hret (nar_bool hb_83) dX11_fits_83
    have L_28 : ∀ (n : Nat) (l3_28 : Int32) (l4_28 : Int32) (ls : Array Slot), lv_has ls 5 [(0, .ref h_this), (1, .int l1), (2, .int l2), (3, .int l3_28), (4, .int l4_28)] → loopN (fun (q : Int32 × Int32) => f_X11_fits_b28 c_sights c_delay c_sight l1 l2 q.1 q.2) n (l3_28, l4_28) = some (l3_28x, l4_28x) → W p l e rm_X11_fits s m args below meth c s.heap [] 0 0 Z (F0 m 28 ls []) := by
      intro n
      induction n with
      | zero => intro l3_28 l4_28 ls hl hq; exact (loopN_zero hq).elim
      | succ n ih_28 =>
        intro l3_28 l4_28 ls hl hq
        obtain ⟨o_28, hf, ho1_28, ho2_28⟩ := loopN_step hq
        have hf : f_X11_fits_b28 c_sights c_delay c_sight l1 l2 l3_28 l4_28 = some o_28 := hf
        unfold f_X11_fits_b28 at hf
        have J_75 : ∀ (l4_75j : Int32) (s0_75j : Int32) (ls : Array Slot), lv_has ls 5 [(0, .ref h_this), (1, .int l1), (2, .int l2), (4, .int l4_75j)] → f_X11_fits_j75 l4_75j s0_75j = some o_28 → W p l e rm_X11_fits s m args below meth c s.heap [] 0 0 Z (F0 m 75 ls [.int s0_75j]) := by
          intro l4_75j s0_75j ls hl hf
          unfold f_X11_fits_j75 at hf
          refine lv_istore_n (lv' := [(3, .int s0_75j), (0, .ref h_this), (1, .int l1), (2, .int l2), (4, .int l4_75j)]) hx hb dX11_fits_75 rfl hl (by decide) rfl (fun ls hl => ?_)
          refine lv_iinc (v := (l4_75j + 1)) (lv' := [(4, .int (l4_75j + 1)), (3, .int s0_75j), (0, .ref h_this), (1, .int l1), (2, .int l2)]) hx hb dX11_fits_76 hl (k := 4) rfl rfl (by decide) rfl (fun ls hl => ?_)
          refine lv_goto (tgt := 28) hx hb dX11_fits_79 (by decide) ?_
          exact ih_28 s0_75j (l4_75j + 1) ls (lv_sub hl [2, 3, 4, 1, 0] rfl) (ho1_28 _ (Option.some.inj hf).symm)
        refine lv_iload hx hb dX11_fits_28 (lv_at hl 4 rfl) ?_
        refine lv_aload_n hx hb dX11_fits_30 rfl (lv_at hl 0 rfl) ?_
        refine va_get (D := (dC, dI)) (ci := 11) (v := .int c_sights) (C := RX11) (T := TX11) (N := 30) hx hb hts in_X11_fits_X11 hown hK hP 0 rfl rfl 9 (by decide) (hts _ m_X11_fits_f177) (fun _ h9 => h9) rfl dX11_fits_31 ?_
        refine lv_icmp_ge (tgt := 82) hx hb dX11_fits_34 (by decide) (fun k_34 => ?_) (fun k_34 => ?_)
        · have hf := ite_t hf k_34
          have e_28 := ho2_28 _ (Option.some.inj hf).symm
          cases e_28
          exact K_28 ls (lv_sub hl [3] rfl)
        · have hf := ite_f hf k_34
          refine lv_iload_n hx hb dX11_fits_37 rfl (lv_at hl 3 rfl) ?_
          refine lv_if_eq (tgt := 82) hx hb dX11_fits_38 (by decide) (fun k_38 => ?_) (fun k_38 => ?_)
          · have hf := ite_t hf k_38
            have e_28 := ho2_28 _ (Option.some.inj hf).symm
            cases e_28
            exact K_28 ls (lv_sub hl [3] rfl)
          · have hf := ite_f hf k_38
            refine lv_aload_n hx hb dX11_fits_41 rfl (lv_at hl 0 rfl) ?_
            refine lv_iload_n hx hb dX11_fits_42 rfl (lv_at hl 1 rfl) ?_
            refine lv_iload_n hx hb dX11_fits_43 rfl (lv_at hl 2 rfl) ?_
            refine lv_aload_n hx hb dX11_fits_44 rfl (lv_at hl 0 rfl) ?_
            refine va_get (D := (dC, dI)) (ci := 11) (v := .ref h_this_sight) (C := RX11) (T := TX11) (N := 30) hx hb hts in_X11_fits_X11 hown hK hP 0 rfl rfl 10 (by decide) (hts _ m_X11_fits_f34) (fun _ h9 => h9) rfl dX11_fits_45 ?_
            refine lv_iconst (v := 2) hx hb dX11_fits_48 (by decide) ?_
            refine lv_iload hx hb dX11_fits_49 (lv_at hl 4 rfl) ?_
            refine lv_imul hx hb dX11_fits_51 ?_
            refine lv_iconst (v := 1) hx hb dX11_fits_52 (by decide) ?_
            refine lv_iadd hx hb dX11_fits_53 ?_
            obtain ⟨g_54, hf⟩ := gd_some hf
            refine va_iald hx hb hK hP 3 0 rfl rfl g_54 dX11_fits_54 ?_
            obtain ⟨r_55, hv_55, hf⟩ := bd1_some hf
            refine kSi (rV (C := RX11) [.int l1, .int l2, .int (c_sight (Int32.toNatClampNeg ((2 * l4_28) + 1)))] [] S (c_X11_cellOf l dC dI cI cJ cZ h_this h_this_delay h_this_book g_this_now g_this_width g_this_key g_this_wide g_this_ahead g_this_after h_this_sight g_this_pad g_this_counts g_this_isOne g_this_ways g_this_image g_this_isKept s.heap.size c_rules c_sights c_signs c_reason c_acts c_meetings c_clashes c_first c_where c_door c_wider c_ordersFound c_firstOrder c_least c_leastOrder c_delay l1 l2 (c_sight (Int32.toNatClampNeg ((2 * l4_28) + 1))) r_55 hv_55) (cwV 3 hts gX11_fits_X11_cellOf rfl rfl rfl (by decide +kernel) ⟨Nat.le_of_ble_eq_true rfl, Nat.le_of_ble_eq_true rfl⟩) (va_recv hK hP (ci := 11) (q0 := 0) rfl rfl) hP hD hK hN [0, 2] rfl (by decide +kernel) rfl hl.1 rfl (Nat.le_of_ble_eq_true rfl) dX11_fits_55 ⟨Nat.le_of_ble_eq_true rfl, Nat.le_of_ble_eq_true rfl⟩) ?_
            refine lv_aload_n hx hb dX11_fits_58 rfl (lv_at hl 0 rfl) ?_
            refine va_get (D := (dC, dI)) (ci := 11) (v := .ref h_this_sight) (C := RX11) (T := TX11) (N := 30) hx hb hts in_X11_fits_X11 hown hK hP 0 rfl rfl 10 (by decide) (hts _ m_X11_fits_f34) (fun _ h9 => h9) rfl dX11_fits_59 ?_
            refine lv_iconst (v := 2) hx hb dX11_fits_62 (by decide) ?_
            refine lv_iload hx hb dX11_fits_63 (lv_at hl 4 rfl) ?_
            refine lv_imul hx hb dX11_fits_65 ?_
            obtain ⟨g_66, hf⟩ := gd_some hf
            refine va_iald hx hb hK hP 3 0 rfl rfl g_66 dX11_fits_66 ?_
            refine lv_icmp_ne (tgt := 74) hx hb dX11_fits_67 (by decide) (fun k_67 => ?_) (fun k_67 => ?_)
            · have hf := ite_f hf k_67
              refine lv_iconst (v := 0) hx hb dX11_fits_74 (by decide) ?_
              exact J_75 l4_28 0 ls (lv_sub hl [0, 1, 2, 4] rfl) hf
            · have hf := ite_t hf k_67
              refine lv_iconst (v := 1) hx hb dX11_fits_70 (by decide) ?_
              refine lv_goto (tgt := 75) hx hb dX11_fits_71 (by decide) ?_
              exact J_75 l4_28 1 ls (lv_sub hl [0, 1, 2, 4] rfl) hf
    exact L_28 FU s0_24j 0 ls (lv_sub hl [2, 3, 4, 1, 0] rfl) hq_28
  refine lv_iload_n hx hb dX11_fits_0 rfl (lv_at hl 1 rfl) ?_
  refine lv_bipush (v := 6) hx hb dX11_fits_1 (by decide) ?_
  refine lv_irem hx hb dX11_fits_3 (by decide) ?_
  refine lv_aload_n hx hb dX11_fits_4 rfl (lv_at hl 0 rfl) ?_
  refine va_get (D := (dC, dI)) (ci := 11) (v := .ref h_this_book) (C := RX11) (T := TX11) (N := 30) hx hb hts in_X11_fits_X11 hown hK hP 0 rfl rfl 0 (by decide) (hts _ m_X11_fits_f7) (fun _ h9 => h9) rfl dX11_fits_5 ?_
  refine lv_bipush (v := 12) hx hb dX11_fits_8 (by decide) ?_
  refine lv_iload_n hx hb dX11_fits_10 rfl (lv_at hl 1 rfl) ?_
  refine lv_bipush (v := 6) hx hb dX11_fits_11 (by decide) ?_
  refine lv_idiv hx hb dX11_fits_13 (by decide) ?_
  refine lv_iadd hx hb dX11_fits_14 ?_
  obtain ⟨g_15, hf⟩ := gd_some hf
  refine va_iald hx hb hK hP 1 0 rfl rfl g_15 dX11_fits_15 ?_
  refine lv_icmp_ge (tgt := 23) hx hb dX11_fits_16 (by decide) (fun k_16 => ?_) (fun k_16 => ?_)
  · have hf := ite_t hf k_16
    refine lv_iconst (v := 0) hx hb dX11_fits_23 (by decide) ?_
    exact J_24 0 ls (lv_sub hl [0, 1, 2] rfl) hf
  · have hf := ite_f hf k_16
    refine lv_iconst (v := 1) hx hb dX11_fits_19 (by decide) ?_
    refine lv_goto (tgt := 24) hx hb dX11_fits_20 (by decide) ?_
    exact J_24 1 ls (lv_sub hl [0, 1, 2] rfl) hf
abbrev w_X11_who (cI cJ cZ : ClassId) (h_this h_this_book h_this_delay h_this_sight g_this_now g_this_width g_this_key g_this_wide g_this_ahead g_this_after g_this_pad g_this_counts g_this_isOne g_this_ways g_this_image g_this_isKept : Nat) (c_rules : Int32) (c_sights : Int32) (c_signs : Int32) (c_reason : Int32) (c_acts : Int32) (c_meetings : Int32) (c_clashes : Int32) (c_first : Int32) (c_where : Int32) (c_door : Int32) (c_wider : Int32) (c_ordersFound : Int32) (c_firstOrder : Int32) (c_least : Int32) (c_leastOrder : Int32) (c_book : Nat → Int32) (c_delay : Nat → Int32) (c_sight : Nat → Int32) : va_W := [(h_this, .inr (11, [.ref h_this_book, .ref g_this_now, .ref g_this_width, .ref g_this_key, .ref g_this_wide, .ref h_this_delay, .int c_rules, .ref g_this_ahead, .ref g_this_after, .int c_sights, .ref h_this_sight, .int c_signs, .ref g_this_pad, .int c_reason, .int c_acts, .int c_meetings, .int c_clashes, .int c_first, .int c_where, .int c_door, .int c_wider, .int c_ordersFound, .int c_firstOrder, .int c_least, .int c_leastOrder, .ref g_this_counts, .ref g_this_isOne, .ref g_this_ways, .ref g_this_image, .ref g_this_isKept])), (h_this_book, .inl (cI, 15, .inl c_book)), (h_this_delay, .inl (cI, 2, .inl c_delay)), (h_this_sight, .inl (cI, 16, .inl c_sight))]
abbrev rm_X11_who : Room := { frames := 3, cells := 0, slots := 0, locals := 70 }
theorem m_X11_who_f7 : (.fieldLink RX11 7 "WovenRowsModel" "book" "[I" : Cond) ∈ wsX11_who := by decide +kernel
theorem in_X11_who_X11 : ∀ w ∈ u_ws RX11 TX11 30, w ∈ wsX11_who := by decide +kernel
set_option maxRecDepth 100000 in
set_option maxHeartbeats 4000000 in
theorem c_X11_who (l : Launch) (dC : Nat → ClassId) (dI : Nat → Nat → Nat) (cI cJ cZ : ClassId) (h_this h_this_book h_this_delay h_this_sight g_this_now g_this_width g_this_key g_this_wide g_this_ahead g_this_after g_this_pad g_this_counts g_this_isOne g_this_ways g_this_image g_this_isKept : Nat) (sz : Nat) (c_rules : Int32) (c_sights : Int32) (c_signs : Int32) (c_reason : Int32) (c_acts : Int32) (c_meetings : Int32) (c_clashes : Int32) (c_first : Int32) (c_where : Int32) (c_door : Int32) (c_wider : Int32) (c_ordersFound : Int32) (c_firstOrder : Int32) (c_least : Int32) (c_leastOrder : Int32) (c_book : Nat → Int32) (c_delay : Nat → Int32) (c_sight : Nat → Int32) (l1 : Int32) (r : Int32) (hf : f_X11_who c_sights c_book c_delay c_sight l1 = some r) : Met l yX11_who wsX11_who rm_X11_who (va_Pc [.ref h_this, .int l1] (PRE (dC, dI) (TY cI cJ cZ) sz (w_X11_who cI cJ cZ h_this h_this_book h_this_delay h_this_sight g_this_now g_this_width g_this_key g_this_wide g_this_ahead g_this_after g_this_pad g_this_counts g_this_isOne g_this_ways g_this_image g_this_isKept c_rules c_sights c_signs c_reason c_acts c_meetings c_clashes c_first c_where c_door c_wider c_ordersFound c_firstOrder c_least c_leastOrder c_book c_delay c_sight))) (vp_Si (fun r' => r' = r)) 0 0 (fun _ => False) := by
  refine ofSi (ty := .int) (by decide +kernel) rfl (Nat.le_of_ble_eq_true rfl) ?_
  intro p e s m args below meth c Z ls S hP hD hK hN hl hret
  obtain ⟨hx, hb, hml, hown, hts⟩ := id S
  have hown : s.vm.findClass RX11 = some m.cls := hown
  have hl : lv_has ls 7 [(0, .ref h_this), (1, .int l1)] := hl
  unfold f_X11_who at hf
  refine lv_iload_n hx hb dX11_who_0 rfl (lv_at hl 1 rfl) ?_
  refine lv_iconst (v := 0) hx hb dX11_who_1 (by decide) ?_
  refine lv_iconst (v := 2) hx hb dX11_who_2 (by decide) ?_
  obtain ⟨r_3, hv_3, hf⟩ := bd1_some hf
  refine kSi (rS [.int l1, .int 0, .int 2] [] S (c_X11_in l dC dI cI cJ cZ s.heap.size l1 0 2 r_3 hv_3) (va_cwS 3 hts gX11_who_X11_in rfl rfl rfl (by decide +kernel) ⟨Nat.le_of_ble_eq_true rfl, Nat.le_of_ble_eq_true rfl⟩) hP hD hK hN [] rfl (by decide +kernel) rfl hl.1 rfl (Nat.le_of_ble_eq_true rfl) dX11_who_3 ⟨Nat.le_of_ble_eq_true rfl, Nat.le_of_ble_eq_true rfl⟩) ?_
  refine lv_if_ne (tgt := 12) hx hb dX11_who_6 (by decide) (fun k_6 => ?_) (fun k_6 => ?_)
  · have hf := ite_f hf k_6
    refine lv_iconst (v := 0) hx hb dX11_who_12 (by decide) ?_
    refine lv_istore_n (lv' := [(2, .int 0), (0, .ref h_this), (1, .int l1)]) hx hb dX11_who_13 rfl hl (by decide) rfl (fun ls hl => ?_)
    refine lv_iconst (v := 0) hx hb dX11_who_14 (by decide) ?_
    refine lv_istore_n (lv' := [(3, .int 0), (2, .int 0), (0, .ref h_this), (1, .int l1)]) hx hb dX11_who_15 rfl hl (by decide) rfl (fun ls hl => ?_)
    refine lv_iconst (v := 0) hx hb dX11_who_16 (by decide) ?_
    refine lv_istore (lv' := [(4, .int 0), (3, .int 0), (2, .int 0), (0, .ref h_this), (1, .int l1)]) hx hb dX11_who_17 hl (by decide) rfl (fun ls hl => ?_)
    refine lv_iconst (v := 0) hx hb dX11_who_19 (by decide) ?_
    refine lv_istore (lv' := [(5, .int 0), (4, .int 0), (3, .int 0), (2, .int 0), (0, .ref h_this), (1, .int l1)]) hx hb dX11_who_20 hl (by decide) rfl (fun ls hl => ?_)
    obtain ⟨l2_22x, l3_22x, l4_22x, l5_22x, hq_22, hf⟩ := bd4_some hf
    have K_22 : ∀ (ls : Array Slot), lv_has ls 7 [(1, .int l1), (2, .int l2_22x), (3, .int l3_22x), (4, .int l4_22x)] → W p l e rm_X11_who s m args below meth c s.heap [] 0 0 Z (F0 m 86 ls []) := by
      intro ls hl
      refine lv_iload_n hx hb dX11_who_86 rfl (lv_at hl 0 rfl) ?_
      refine lv_if_ne (tgt := 94) hx hb dX11_who_87 (by decide) (fun k_87 => ?_) (fun k_87 => ?_)
      · have hf := ite_f hf k_87
        refine lv_iload_n hx hb dX11_who_94 rfl (lv_at hl 0 rfl) ?_
        refine lv_iconst (v := 1) hx hb dX11_who_95 (by decide) ?_
        refine lv_icmp_ne (tgt := 103) hx hb dX11_who_96 (by decide) (fun k_96 => ?_) (fun k_96 => ?_)
        · have hf := ite_f hf k_96
          refine lv_iload hx hb dX11_who_103 (lv_at hl 3 rfl) ?_
          have e_f := Option.some.inj hf
          cases e_f
          exact hret rfl dX11_who_105
        · have hf := ite_t hf k_96
          refine lv_iload_n hx hb dX11_who_99 rfl (lv_at hl 2 rfl) ?_
          refine lv_goto (tgt := 105) hx hb dX11_who_100 (by decide) ?_
          have e_f := Option.some.inj hf
          cases e_f
          exact hret rfl dX11_who_105
      · have hf := ite_t hf k_87
        refine lv_iload_n hx hb dX11_who_90 rfl (lv_at hl 1 rfl) ?_
        refine lv_goto (tgt := 105) hx hb dX11_who_91 (by decide) ?_
        have e_f := Option.some.inj hf
        cases e_f
        exact hret rfl dX11_who_105
    have L_22 : ∀ (n : Nat) (l2_22 : Int32) (l3_22 : Int32) (l4_22 : Int32) (l5_22 : Int32) (ls : Array Slot), lv_has ls 7 [(0, .ref h_this), (1, .int l1), (2, .int l2_22), (3, .int l3_22), (4, .int l4_22), (5, .int l5_22)] → loopN (fun (q : Int32 × Int32 × Int32 × Int32) => f_X11_who_b22 c_sights c_book c_delay c_sight q.1 q.2.1 q.2.2.1 q.2.2.2) n (l2_22, l3_22, l4_22, l5_22) = some (l2_22x, l3_22x, l4_22x, l5_22x) → W p l e rm_X11_who s m args below meth c s.heap [] 0 0 Z (F0 m 22 ls []) := by
      intro n
      induction n with
      | zero => intro l2_22 l3_22 l4_22 l5_22 ls hl hq; exact (loopN_zero hq).elim
      | succ n ih_22 =>
        intro l2_22 l3_22 l4_22 l5_22 ls hl hq
        obtain ⟨o_22, hf, ho1_22, ho2_22⟩ := loopN_step hq
        have hf : f_X11_who_b22 c_sights c_book c_delay c_sight l2_22 l3_22 l4_22 l5_22 = some o_22 := hf
        unfold f_X11_who_b22 at hf
        refine lv_iload hx hb dX11_who_22 (lv_at hl 5 rfl) ?_
        refine lv_bipush (v := 12) hx hb dX11_who_24 (by decide) ?_
        refine lv_icmp_ge (tgt := 86) hx hb dX11_who_26 (by decide) (fun k_26 => ?_) (fun k_26 => ?_)
        · have hf := ite_t hf k_26
          have e_22 := ho2_22 _ (Option.some.inj hf).symm
          cases e_22
          exact K_22 ls (lv_sub hl [1, 2, 3, 4] rfl)
        · have hf := ite_f hf k_26
          refine lv_iconst (v := 0) hx hb dX11_who_29 (by decide) ?_
          refine lv_istore (lv' := [(6, .int 0), (0, .ref h_this), (1, .int l1), (2, .int l2_22), (3, .int l3_22), (4, .int l4_22), (5, .int l5_22)]) hx hb dX11_who_30 hl (by decide) rfl (fun ls hl => ?_)
          obtain ⟨l2_32x, l3_32x, l4_32x, l6_32x, hq_32, hf⟩ := bd4_some hf
          have K_32 : ∀ (ls : Array Slot), lv_has ls 7 [(0, .ref h_this), (1, .int l1), (2, .int l2_32x), (3, .int l3_32x), (4, .int l4_32x), (5, .int l5_22)] → W p l e rm_X11_who s m args below meth c s.heap [] 0 0 Z (F0 m 80 ls []) := by
            intro ls hl
            refine lv_iinc (v := (l5_22 + 1)) (lv' := [(5, .int (l5_22 + 1)), (0, .ref h_this), (1, .int l1), (2, .int l2_32x), (3, .int l3_32x), (4, .int l4_32x)]) hx hb dX11_who_80 hl (k := 5) rfl rfl (by decide) rfl (fun ls hl => ?_)
            refine lv_goto (tgt := 22) hx hb dX11_who_83 (by decide) ?_
            exact ih_22 l2_32x l3_32x l4_32x (l5_22 + 1) ls (lv_sub hl [1, 2, 3, 4, 5, 0] rfl) (ho1_22 _ (Option.some.inj hf).symm)
          have L_32 : ∀ (n : Nat) (l2_32 : Int32) (l3_32 : Int32) (l4_32 : Int32) (l6_32 : Int32) (ls : Array Slot), lv_has ls 7 [(0, .ref h_this), (1, .int l1), (2, .int l2_32), (3, .int l3_32), (4, .int l4_32), (5, .int l5_22), (6, .int l6_32)] → loopN (fun (q : Int32 × Int32 × Int32 × Int32) => f_X11_who_b32 c_sights c_book c_delay c_sight l5_22 q.1 q.2.1 q.2.2.1 q.2.2.2) n (l2_32, l3_32, l4_32, l6_32) = some (l2_32x, l3_32x, l4_32x, l6_32x) → W p l e rm_X11_who s m args below meth c s.heap [] 0 0 Z (F0 m 32 ls []) := by
            intro n
            induction n with
            | zero => intro l2_32 l3_32 l4_32 l6_32 ls hl hq; exact (loopN_zero hq).elim
            | succ n ih_32 =>
              intro l2_32 l3_32 l4_32 l6_32 ls hl hq
              obtain ⟨o_32, hf, ho1_32, ho2_32⟩ := loopN_step hq
              have hf : f_X11_who_b32 c_sights c_book c_delay c_sight l5_22 l2_32 l3_32 l4_32 l6_32 = some o_32 := hf
              unfold f_X11_who_b32 at hf
              refine lv_iload hx hb dX11_who_32 (lv_at hl 6 rfl) ?_
              refine lv_bipush (v := 10) hx hb dX11_who_34 (by decide) ?_
              refine lv_icmp_ge (tgt := 80) hx hb dX11_who_36 (by decide) (fun k_36 => ?_) (fun k_36 => ?_)
              · have hf := ite_t hf k_36
                have e_32 := ho2_32 _ (Option.some.inj hf).symm
                cases e_32
                exact K_32 ls (lv_sub hl [0, 1, 2, 3, 4, 5] rfl)
              · have hf := ite_f hf k_36
                refine lv_aload_n hx hb dX11_who_39 rfl (lv_at hl 0 rfl) ?_
                refine lv_iload hx hb dX11_who_40 (lv_at hl 5 rfl) ?_
                refine lv_iload hx hb dX11_who_42 (lv_at hl 6 rfl) ?_
                obtain ⟨r_44, hv_44, hf⟩ := bd1_some hf
                refine kSi (rV (C := RX11) [.int l5_22, .int l6_32] [] S (c_X11_fits l dC dI cI cJ cZ h_this h_this_book h_this_delay h_this_sight g_this_now g_this_width g_this_key g_this_wide g_this_ahead g_this_after g_this_pad g_this_counts g_this_isOne g_this_ways g_this_image g_this_isKept s.heap.size c_rules c_sights c_signs c_reason c_acts c_meetings c_clashes c_first c_where c_door c_wider c_ordersFound c_firstOrder c_least c_leastOrder c_book c_delay c_sight l5_22 l6_32 r_44 hv_44) (cwV 2 hts gX11_who_X11_fits rfl rfl rfl (by decide +kernel) ⟨Nat.le_of_ble_eq_true rfl, Nat.le_of_ble_eq_true rfl⟩) (va_recv hK hP (ci := 11) (q0 := 0) rfl rfl) hP hD hK hN [0, 1, 2, 3] rfl (by decide +kernel) rfl hl.1 rfl (Nat.le_of_ble_eq_true rfl) dX11_who_44 ⟨Nat.le_of_ble_eq_true rfl, Nat.le_of_ble_eq_true rfl⟩) ?_
                refine lv_if_eq (tgt := 74) hx hb dX11_who_47 (by decide) (fun k_47 => ?_) (fun k_47 => ?_)
                · have hf := ite_t hf k_47
                  refine lv_iinc (v := (l6_32 + 1)) (lv' := [(6, .int (l6_32 + 1)), (0, .ref h_this), (1, .int l1), (2, .int l2_32), (3, .int l3_32), (4, .int l4_32), (5, .int l5_22)]) hx hb dX11_who_74 hl (k := 6) rfl rfl (by decide) rfl (fun ls hl => ?_)
                  refine lv_goto (tgt := 32) hx hb dX11_who_77 (by decide) ?_
                  exact ih_32 l2_32 l3_32 l4_32 (l6_32 + 1) ls (lv_sub hl [1, 2, 3, 4, 5, 6, 0] rfl) (ho1_32 _ (Option.some.inj hf).symm)
                · have hf := ite_f hf k_47
                  refine lv_iinc (v := (l2_32 + 1)) (lv' := [(2, .int (l2_32 + 1)), (0, .ref h_this), (1, .int l1), (3, .int l3_32), (4, .int l4_32), (5, .int l5_22), (6, .int l6_32)]) hx hb dX11_who_50 hl (k := 2) rfl rfl (by decide) rfl (fun ls hl => ?_)
                  refine lv_iload_n hx hb dX11_who_53 rfl (lv_at hl 3 rfl) ?_
                  refine lv_iconst (v := 1) hx hb dX11_who_54 (by decide) ?_
                  refine lv_aload_n hx hb dX11_who_55 rfl (lv_at hl 1 rfl) ?_
                  refine va_get (D := (dC, dI)) (ci := 11) (v := .ref h_this_book) (C := RX11) (T := TX11) (N := 30) hx hb hts in_X11_who_X11 hown hK hP 0 rfl rfl 0 (by decide) (hts _ m_X11_who_f7) (fun _ h9 => h9) rfl dX11_who_56 ?_
                  refine lv_iload hx hb dX11_who_59 (lv_at hl 5 rfl) ?_
                  obtain ⟨g_61, hf⟩ := gd_some hf
                  refine va_iald hx hb hK hP 1 0 rfl rfl g_61 dX11_who_61 ?_
                  refine lv_ishl hx hb dX11_who_62 ?_
                  refine lv_ior hx hb dX11_who_63 ?_
                  obtain ⟨l3_64s, e_l3_64s, hf⟩ := nmv_some hf
                  refine tpi e_l3_64s ?_
                  refine lv_istore_n (lv' := [(3, .int l3_64s), (2, .int (l2_32 + 1)), (0, .ref h_this), (1, .int l1), (4, .int l4_32), (5, .int l5_22), (6, .int l6_32)]) hx hb dX11_who_64 rfl hl (by decide) rfl (fun ls hl => ?_)
                  refine lv_iload hx hb dX11_who_65 (lv_at hl 4 rfl) ?_
                  refine lv_iconst (v := 1) hx hb dX11_who_67 (by decide) ?_
                  refine lv_iload hx hb dX11_who_68 (lv_at hl 6 rfl) ?_
                  refine lv_ishl hx hb dX11_who_70 ?_
                  refine lv_ior hx hb dX11_who_71 ?_
                  refine lv_istore (lv' := [(4, .int (l4_32 ||| (1 <<< (l6_32 &&& 31)))), (3, .int l3_64s), (2, .int (l2_32 + 1)), (0, .ref h_this), (1, .int l1), (5, .int l5_22), (6, .int l6_32)]) hx hb dX11_who_72 hl (by decide) rfl (fun ls hl => ?_)
                  refine lv_iinc (v := (l6_32 + 1)) (lv' := [(6, .int (l6_32 + 1)), (4, .int (l4_32 ||| (1 <<< (l6_32 &&& 31)))), (3, .int l3_64s), (2, .int (l2_32 + 1)), (0, .ref h_this), (1, .int l1), (5, .int l5_22)]) hx hb dX11_who_74 hl (k := 6) rfl rfl (by decide) rfl (fun ls hl => ?_)
                  refine lv_goto (tgt := 32) hx hb dX11_who_77 (by decide) ?_
                  exact ih_32 (l2_32 + 1) l3_64s (l4_32 ||| (1 <<< (l6_32 &&& 31))) (l6_32 + 1) ls (lv_sub hl [4, 5, 3, 2, 1, 6, 0] rfl) (ho1_32 _ (Option.some.inj hf).symm)
          exact L_32 FU l2_22 l3_22 l4_22 0 ls (lv_sub hl [1, 2, 3, 4, 5, 6, 0] rfl) hq_32
    exact L_22 FU 0 0 0 0 ls (lv_sub hl [4, 5, 3, 2, 1, 0] rfl) hq_22
  · have hf := ite_t hf k_6
    refine lv_bipush (v := (-2)) hx hb dX11_who_9 (by decide) ?_
    have e_f := Option.some.inj hf
    cases e_f
    exact hret rfl dX11_who_11
abbrev w_X11_look (cI cJ cZ : ClassId) (h_this h_this_book h_this_delay h_this_sight h_this_counts h_this_isOne g_this_now g_this_width g_this_key g_this_wide g_this_ahead g_this_after g_this_pad g_this_ways g_this_image g_this_isKept : Nat) (c_rules : Int32) (c_sights : Int32) (c_signs : Int32) (c_reason : Int32) (c_acts : Int32) (c_meetings : Int32) (c_clashes : Int32) (c_first : Int32) (c_where : Int32) (c_door : Int32) (c_wider : Int32) (c_ordersFound : Int32) (c_firstOrder : Int32) (c_least : Int32) (c_leastOrder : Int32) (c_book : Nat → Int32) (c_delay : Nat → Int32) (c_sight : Nat → Int32) (c_counts : Nat → Int32) (c_isOne : Nat → Int32) : va_W := [(h_this, .inr (11, [.ref h_this_book, .ref g_this_now, .ref g_this_width, .ref g_this_key, .ref g_this_wide, .ref h_this_delay, .int c_rules, .ref g_this_ahead, .ref g_this_after, .int c_sights, .ref h_this_sight, .int c_signs, .ref g_this_pad, .int c_reason, .int c_acts, .int c_meetings, .int c_clashes, .int c_first, .int c_where, .int c_door, .int c_wider, .int c_ordersFound, .int c_firstOrder, .int c_least, .int c_leastOrder, .ref h_this_counts, .ref h_this_isOne, .ref g_this_ways, .ref g_this_image, .ref g_this_isKept])), (h_this_book, .inl (cI, 15, .inl c_book)), (h_this_delay, .inl (cI, 2, .inl c_delay)), (h_this_sight, .inl (cI, 16, .inl c_sight)), (h_this_counts, .inl (cI, 18, .inl c_counts)), (h_this_isOne, .inl (cZ, 120, .inl c_isOne))]
abbrev rm_X11_look : Room := { frames := 3, cells := 0, slots := 0, locals := 70 }
theorem m_X11_look_f43 : (.fieldLink RX11 43 "WovenRowsModel" "isOne" "[Z" : Cond) ∈ wsX11_look := by decide +kernel
theorem in_X11_look_X11 : ∀ w ∈ u_ws RX11 TX11 30, w ∈ wsX11_look := by decide +kernel
theorem m_X11_look_k157 : (.constant RX11 157 (1000000) : Cond) ∈ wsX11_look := by decide +kernel
theorem m_X11_look_f40 : (.fieldLink RX11 40 "WovenRowsModel" "counts" "[I" : Cond) ∈ wsX11_look := by decide +kernel
set_option maxRecDepth 100000 in
set_option maxHeartbeats 4000000 in
theorem c_X11_look (l : Launch) (dC : Nat → ClassId) (dI : Nat → Nat → Nat) (cI cJ cZ : ClassId) (h_this h_this_book h_this_delay h_this_sight h_this_counts h_this_isOne g_this_now g_this_width g_this_key g_this_wide g_this_ahead g_this_after g_this_pad g_this_ways g_this_image g_this_isKept : Nat) (sz : Nat) (c_rules : Int32) (c_sights : Int32) (c_signs : Int32) (c_reason : Int32) (c_acts : Int32) (c_meetings : Int32) (c_clashes : Int32) (c_first : Int32) (c_where : Int32) (c_door : Int32) (c_wider : Int32) (c_ordersFound : Int32) (c_firstOrder : Int32) (c_least : Int32) (c_leastOrder : Int32) (c_book : Nat → Int32) (c_delay : Nat → Int32) (c_sight : Nat → Int32) (c_counts : Nat → Int32) (c_isOne : Nat → Int32) (l1 : Int32) (r : Int32) (z_counts : Nat → Int32) (z_isOne : Nat → Int32) (hf : f_X11_look c_sights c_book c_delay c_sight c_counts c_isOne l1 = some (r, z_counts, z_isOne)) : Met l yX11_look wsX11_look rm_X11_look (va_Pc [.ref h_this, .int l1] (PRE (dC, dI) (TY cI cJ cZ) sz (w_X11_look cI cJ cZ h_this h_this_book h_this_delay h_this_sight h_this_counts h_this_isOne g_this_now g_this_width g_this_key g_this_wide g_this_ahead g_this_after g_this_pad g_this_ways g_this_image g_this_isKept c_rules c_sights c_signs c_reason c_acts c_meetings c_clashes c_first c_where c_door c_wider c_ordersFound c_firstOrder c_least c_leastOrder c_book c_delay c_sight c_counts c_isOne))) (va_Qi (fun r' (_ : Unit) => r' = r) (POW (dC, dI) (va_A (w_X11_look cI cJ cZ h_this h_this_book h_this_delay h_this_sight h_this_counts h_this_isOne g_this_now g_this_width g_this_key g_this_wide g_this_ahead g_this_after g_this_pad g_this_ways g_this_image g_this_isKept c_rules c_sights c_signs c_reason c_acts c_meetings c_clashes c_first c_where c_door c_wider c_ordersFound c_firstOrder c_least c_leastOrder c_book c_delay c_sight c_counts c_isOne) sz) (w_X11_look cI cJ cZ h_this h_this_book h_this_delay h_this_sight h_this_counts h_this_isOne g_this_now g_this_width g_this_key g_this_wide g_this_ahead g_this_after g_this_pad g_this_ways g_this_image g_this_isKept c_rules c_sights c_signs c_reason c_acts c_meetings c_clashes c_first c_where c_door c_wider c_ordersFound c_firstOrder c_least c_leastOrder c_book c_delay c_sight z_counts z_isOne)) (va_A (w_X11_look cI cJ cZ h_this h_this_book h_this_delay h_this_sight h_this_counts h_this_isOne g_this_now g_this_width g_this_key g_this_wide g_this_ahead g_this_after g_this_pad g_this_ways g_this_image g_this_isKept c_rules c_sights c_signs c_reason c_acts c_meetings c_clashes c_first c_where c_door c_wider c_ordersFound c_firstOrder c_least c_leastOrder c_book c_delay c_sight c_counts c_isOne) sz)) 0 0 (va_A (w_X11_look cI cJ cZ h_this h_this_book h_this_delay h_this_sight h_this_counts h_this_isOne g_this_now g_this_width g_this_key g_this_wide g_this_ahead g_this_after g_this_pad g_this_ways g_this_image g_this_isKept c_rules c_sights c_signs c_reason c_acts c_meetings c_clashes c_first c_where c_door c_wider c_ordersFound c_firstOrder c_least c_leastOrder c_book c_delay c_sight c_counts c_isOne) sz) := by
  refine ofWi (ty := .int) (by decide +kernel) rfl (Nat.le_of_ble_eq_true rfl) ?_
  intro p e s m args below meth c Z A ls S hP hD hK hN hA hl hret
  obtain ⟨hx, hb, hml, hown, hts⟩ := id S
  have hown : s.vm.findClass RX11 = some m.cls := hown
  have hS : va_S A s.heap s.heap [] := va_S.rf
  have hl : lv_has ls 8 [(0, .ref h_this), (1, .int l1)] := hl
  unfold f_X11_look at hf
  have J_224 : ∀ (l2_224j : Int32) (c_counts_224j : Nat → Int32) (c_isOne_224j : Nat → Int32) (H : Heap) (locs : List Loc) (ls : Array Slot), va_P (dC, dI) vwCl (w_X11_look cI cJ cZ h_this h_this_book h_this_delay h_this_sight h_this_counts h_this_isOne g_this_now g_this_width g_this_key g_this_wide g_this_ahead g_this_after g_this_pad g_this_ways g_this_image g_this_isKept c_rules c_sights c_signs c_reason c_acts c_meetings c_clashes c_first c_where c_door c_wider c_ordersFound c_firstOrder c_least c_leastOrder c_book c_delay c_sight c_counts_224j c_isOne_224j) H → va_D A (w_X11_look cI cJ cZ h_this h_this_book h_this_delay h_this_sight h_this_counts h_this_isOne g_this_now g_this_width g_this_key g_this_wide g_this_ahead g_this_after g_this_pad g_this_ways g_this_image g_this_isKept c_rules c_sights c_signs c_reason c_acts c_meetings c_clashes c_first c_where c_door c_wider c_ordersFound c_firstOrder c_least c_leastOrder c_book c_delay c_sight c_counts_224j c_isOne_224j) → va_S A s.heap H locs → lv_has ls 8 [(2, .int l2_224j)] → f_X11_look_j224 l2_224j c_counts_224j c_isOne_224j = some (r, z_counts, z_isOne) → W p l e rm_X11_look s m args below meth c H locs 0 0 Z (F0 m 224 ls []) := by
    intro l2_224j c_counts_224j c_isOne_224j H locs ls hP hD hS hl hf
    unfold f_X11_look_j224 at hf
    refine lv_iload_n hx hb dX11_look_224 rfl (lv_at hl 0 rfl) ?_
    refine lv_goto (tgt := 229) hx hb dX11_look_225 (by decide) ?_
    have e_f := Option.some.inj hf
    cases e_f
    exact hret rfl hP hD hS dX11_look_229
  refine lv_iload_n hx hb dX11_look_0 rfl (lv_at hl 1 rfl) ?_
  refine lv_iconst (v := 0) hx hb dX11_look_1 (by decide) ?_
  refine lv_iconst (v := 1) hx hb dX11_look_2 (by decide) ?_
  obtain ⟨r_3, hv_3, hf⟩ := bd1_some hf
  refine kSi (rS [.int l1, .int 0, .int 1] [] S (c_X11_in l dC dI cI cJ cZ s.heap.size l1 0 1 r_3 hv_3) (va_cwS 3 hts gX11_look_X11_in rfl rfl rfl (by decide +kernel) ⟨Nat.le_of_ble_eq_true rfl, Nat.le_of_ble_eq_true rfl⟩) hP hD hK hN [] rfl (by decide +kernel) rfl hl.1 rfl (Nat.le_of_ble_eq_true rfl) dX11_look_3 ⟨Nat.le_of_ble_eq_true rfl, Nat.le_of_ble_eq_true rfl⟩) ?_
  refine lv_if_ne (tgt := 12) hx hb dX11_look_6 (by decide) (fun k_6 => ?_) (fun k_6 => ?_)
  · have hf := ite_f hf k_6
    refine lv_iconst (v := 0) hx hb dX11_look_12 (by decide) ?_
    refine lv_istore_n (lv' := [(2, .int 0), (0, .ref h_this), (1, .int l1)]) hx hb dX11_look_13 rfl hl (by decide) rfl (fun ls hl => ?_)
    obtain ⟨l2_14x, c_isOne_14x, hq_14, hf⟩ := bd2_some hf
    have K_14 : ∀ (H : Heap) (locs : List Loc) (ls : Array Slot), va_P (dC, dI) vwCl (w_X11_look cI cJ cZ h_this h_this_book h_this_delay h_this_sight h_this_counts h_this_isOne g_this_now g_this_width g_this_key g_this_wide g_this_ahead g_this_after g_this_pad g_this_ways g_this_image g_this_isKept c_rules c_sights c_signs c_reason c_acts c_meetings c_clashes c_first c_where c_door c_wider c_ordersFound c_firstOrder c_least c_leastOrder c_book c_delay c_sight c_counts c_isOne_14x) H → va_D A (w_X11_look cI cJ cZ h_this h_this_book h_this_delay h_this_sight h_this_counts h_this_isOne g_this_now g_this_width g_this_key g_this_wide g_this_ahead g_this_after g_this_pad g_this_ways g_this_image g_this_isKept c_rules c_sights c_signs c_reason c_acts c_meetings c_clashes c_first c_where c_door c_wider c_ordersFound c_firstOrder c_least c_leastOrder c_book c_delay c_sight c_counts c_isOne_14x) → va_S A s.heap H locs → lv_has ls 8 [(0, .ref h_this), (1, .int l1)] → W p l e rm_X11_look s m args below meth c H locs 0 0 Z (F0 m 44 ls []) := by
      intro H locs ls hP hD hS hl
      refine lv_bipush (v := (-6)) hx hb dX11_look_44 (by decide) ?_
      refine lv_istore_n (lv' := [(2, .int (-6)), (0, .ref h_this), (1, .int l1)]) hx hb dX11_look_46 rfl hl (by decide) rfl (fun ls hl => ?_)
      refine lv_ldc (v := 1000000) hx hb hown (hts _ m_X11_look_k157) dX11_look_47 ?_
      refine lv_istore_n (lv' := [(3, .int 1000000), (2, .int (-6)), (0, .ref h_this), (1, .int l1)]) hx hb dX11_look_49 rfl hl (by decide) rfl (fun ls hl => ?_)
      refine lv_iconst (v := 0) hx hb dX11_look_50 (by decide) ?_
      refine lv_istore (lv' := [(4, .int 0), (3, .int 1000000), (2, .int (-6)), (0, .ref h_this), (1, .int l1)]) hx hb dX11_look_51 hl (by decide) rfl (fun ls hl => ?_)
      obtain ⟨l2_53x, l3_53x, l4_53x, c_counts_53x, hq_53, hf⟩ := bd4_some hf
      have K_53 : ∀ (H : Heap) (locs : List Loc) (ls : Array Slot), va_P (dC, dI) vwCl (w_X11_look cI cJ cZ h_this h_this_book h_this_delay h_this_sight h_this_counts h_this_isOne g_this_now g_this_width g_this_key g_this_wide g_this_ahead g_this_after g_this_pad g_this_ways g_this_image g_this_isKept c_rules c_sights c_signs c_reason c_acts c_meetings c_clashes c_first c_where c_door c_wider c_ordersFound c_firstOrder c_least c_leastOrder c_book c_delay c_sight c_counts_53x c_isOne_14x) H → va_D A (w_X11_look cI cJ cZ h_this h_this_book h_this_delay h_this_sight h_this_counts h_this_isOne g_this_now g_this_width g_this_key g_this_wide g_this_ahead g_this_after g_this_pad g_this_ways g_this_image g_this_isKept c_rules c_sights c_signs c_reason c_acts c_meetings c_clashes c_first c_where c_door c_wider c_ordersFound c_firstOrder c_least c_leastOrder c_book c_delay c_sight c_counts_53x c_isOne_14x) → va_S A s.heap H locs → lv_has ls 8 [(1, .int l1), (2, .int l2_53x), (3, .int l3_53x)] → W p l e rm_X11_look s m args below meth c H locs 0 0 Z (F0 m 216 ls []) := by
        intro H locs ls hP hD hS hl
        refine lv_iload_n hx hb dX11_look_216 rfl (lv_at hl 1 rfl) ?_
        refine lv_if_lt (tgt := 224) hx hb dX11_look_217 (by decide) (fun k_217 => ?_) (fun k_217 => ?_)
        · have hf := ite_t hf k_217
          exact J_224 l2_53x c_counts_53x c_isOne_14x H locs ls hP hD hS (lv_sub hl [1] rfl) hf
        · have hf := ite_f hf k_217
          refine lv_iload_n hx hb dX11_look_220 rfl (lv_at hl 0 rfl) ?_
          refine lv_if_ne (tgt := 228) hx hb dX11_look_221 (by decide) (fun k_221 => ?_) (fun k_221 => ?_)
          · have hf := ite_f hf k_221
            refine lv_iload_n hx hb dX11_look_228 rfl (lv_at hl 2 rfl) ?_
            have e_f := Option.some.inj hf
            cases e_f
            exact hret rfl hP hD hS dX11_look_229
          · have hf := ite_t hf k_221
            exact J_224 l2_53x c_counts_53x c_isOne_14x H locs ls hP hD hS (lv_sub hl [1] rfl) hf
      have L_53 : ∀ (n : Nat) (l2_53 : Int32) (l3_53 : Int32) (l4_53 : Int32) (c_counts_53 : Nat → Int32) (H : Heap) (locs : List Loc) (ls : Array Slot), va_P (dC, dI) vwCl (w_X11_look cI cJ cZ h_this h_this_book h_this_delay h_this_sight h_this_counts h_this_isOne g_this_now g_this_width g_this_key g_this_wide g_this_ahead g_this_after g_this_pad g_this_ways g_this_image g_this_isKept c_rules c_sights c_signs c_reason c_acts c_meetings c_clashes c_first c_where c_door c_wider c_ordersFound c_firstOrder c_least c_leastOrder c_book c_delay c_sight c_counts_53 c_isOne_14x) H → va_D A (w_X11_look cI cJ cZ h_this h_this_book h_this_delay h_this_sight h_this_counts h_this_isOne g_this_now g_this_width g_this_key g_this_wide g_this_ahead g_this_after g_this_pad g_this_ways g_this_image g_this_isKept c_rules c_sights c_signs c_reason c_acts c_meetings c_clashes c_first c_where c_door c_wider c_ordersFound c_firstOrder c_least c_leastOrder c_book c_delay c_sight c_counts_53 c_isOne_14x) → va_S A s.heap H locs → lv_has ls 8 [(0, .ref h_this), (1, .int l1), (2, .int l2_53), (3, .int l3_53), (4, .int l4_53)] → loopN (fun (q : Int32 × Int32 × Int32 × (Nat → Int32)) => f_X11_look_b53 c_delay c_isOne_14x q.1 q.2.1 q.2.2.1 q.2.2.2) n (l2_53, l3_53, l4_53, c_counts_53) = some (l2_53x, l3_53x, l4_53x, c_counts_53x) → W p l e rm_X11_look s m args below meth c H locs 0 0 Z (F0 m 53 ls []) := by
        intro n
        induction n with
        | zero => intro l2_53 l3_53 l4_53 c_counts_53 H locs ls hP hD hS hl hq; exact (loopN_zero hq).elim
        | succ n ih_53 =>
          intro l2_53 l3_53 l4_53 c_counts_53 H locs ls hP hD hS hl hq
          obtain ⟨o_53, hf, ho1_53, ho2_53⟩ := loopN_step hq
          have hf : f_X11_look_b53 c_delay c_isOne_14x l2_53 l3_53 l4_53 c_counts_53 = some o_53 := hf
          unfold f_X11_look_b53 at hf
          have J_209 : ∀ (l2_209j : Int32) (l4_209j : Int32) (s0_209j : Int32) (c_counts_209j : Nat → Int32) (H : Heap) (locs : List Loc) (ls : Array Slot), va_P (dC, dI) vwCl (w_X11_look cI cJ cZ h_this h_this_book h_this_delay h_this_sight h_this_counts h_this_isOne g_this_now g_this_width g_this_key g_this_wide g_this_ahead g_this_after g_this_pad g_this_ways g_this_image g_this_isKept c_rules c_sights c_signs c_reason c_acts c_meetings c_clashes c_first c_where c_door c_wider c_ordersFound c_firstOrder c_least c_leastOrder c_book c_delay c_sight c_counts_209j c_isOne_14x) H → va_D A (w_X11_look cI cJ cZ h_this h_this_book h_this_delay h_this_sight h_this_counts h_this_isOne g_this_now g_this_width g_this_key g_this_wide g_this_ahead g_this_after g_this_pad g_this_ways g_this_image g_this_isKept c_rules c_sights c_signs c_reason c_acts c_meetings c_clashes c_first c_where c_door c_wider c_ordersFound c_firstOrder c_least c_leastOrder c_book c_delay c_sight c_counts_209j c_isOne_14x) → va_S A s.heap H locs → lv_has ls 8 [(0, .ref h_this), (1, .int l1), (2, .int l2_209j), (4, .int l4_209j)] → f_X11_look_j209 l2_209j l4_209j c_counts_209j s0_209j = some o_53 → W p l e rm_X11_look s m args below meth c H locs 0 0 Z (F0 m 209 ls [.int s0_209j]) := by
            intro l2_209j l4_209j s0_209j c_counts_209j H locs ls hP hD hS hl hf
            unfold f_X11_look_j209 at hf
            refine lv_istore_n (lv' := [(3, .int s0_209j), (0, .ref h_this), (1, .int l1), (2, .int l2_209j), (4, .int l4_209j)]) hx hb dX11_look_209 rfl hl (by decide) rfl (fun ls hl => ?_)
            refine lv_iinc (v := (l4_209j + 1)) (lv' := [(4, .int (l4_209j + 1)), (3, .int s0_209j), (0, .ref h_this), (1, .int l1), (2, .int l2_209j)]) hx hb dX11_look_210 hl (k := 4) rfl rfl (by decide) rfl (fun ls hl => ?_)
            refine lv_goto (tgt := 53) hx hb dX11_look_213 (by decide) ?_
            exact ih_53 l2_209j s0_209j (l4_209j + 1) c_counts_209j H locs ls hP hD hS (lv_sub hl [2, 3, 4, 1, 0] rfl) (ho1_53 _ (Option.some.inj hf).symm)
          have J_197 : ∀ (l3_197j : Int32) (l4_197j : Int32) (l5_197j : Int32) (l6_197j : Int32) (s0_197j : Int32) (c_counts_197j : Nat → Int32) (H : Heap) (locs : List Loc) (ls : Array Slot), va_P (dC, dI) vwCl (w_X11_look cI cJ cZ h_this h_this_book h_this_delay h_this_sight h_this_counts h_this_isOne g_this_now g_this_width g_this_key g_this_wide g_this_ahead g_this_after g_this_pad g_this_ways g_this_image g_this_isKept c_rules c_sights c_signs c_reason c_acts c_meetings c_clashes c_first c_where c_door c_wider c_ordersFound c_firstOrder c_least c_leastOrder c_book c_delay c_sight c_counts_197j c_isOne_14x) H → va_D A (w_X11_look cI cJ cZ h_this h_this_book h_this_delay h_this_sight h_this_counts h_this_isOne g_this_now g_this_width g_this_key g_this_wide g_this_ahead g_this_after g_this_pad g_this_ways g_this_image g_this_isKept c_rules c_sights c_signs c_reason c_acts c_meetings c_clashes c_first c_where c_door c_wider c_ordersFound c_firstOrder c_least c_leastOrder c_book c_delay c_sight c_counts_197j c_isOne_14x) → va_S A s.heap H locs → lv_has ls 8 [(0, .ref h_this), (1, .int l1), (3, .int l3_197j), (4, .int l4_197j), (5, .int l5_197j), (6, .int l6_197j)] → f_X11_look_j197 l3_197j l4_197j l5_197j l6_197j c_counts_197j s0_197j = some o_53 → W p l e rm_X11_look s m args below meth c H locs 0 0 Z (F0 m 197 ls [.int s0_197j]) := by
            intro l3_197j l4_197j l5_197j l6_197j s0_197j c_counts_197j H locs ls hP hD hS hl hf
            unfold f_X11_look_j197 at hf
            refine lv_istore_n (lv' := [(2, .int s0_197j), (0, .ref h_this), (1, .int l1), (3, .int l3_197j), (4, .int l4_197j), (5, .int l5_197j), (6, .int l6_197j)]) hx hb dX11_look_197 rfl hl (by decide) rfl (fun ls hl => ?_)
            refine lv_iload hx hb dX11_look_198 (lv_at hl 6 rfl) ?_
            refine lv_if_eq (tgt := 208) hx hb dX11_look_200 (by decide) (fun k_200 => ?_) (fun k_200 => ?_)
            · have hf := ite_t hf k_200
              refine lv_iload_n hx hb dX11_look_208 rfl (lv_at hl 3 rfl) ?_
              exact J_209 s0_197j l4_197j l3_197j c_counts_197j H locs ls hP hD hS (lv_sub hl [1, 2, 0, 4] rfl) hf
            · have hf := ite_f hf k_200
              refine lv_iload hx hb dX11_look_203 (lv_at hl 5 rfl) ?_
              refine lv_goto (tgt := 209) hx hb dX11_look_205 (by decide) ?_
              exact J_209 s0_197j l4_197j l5_197j c_counts_197j H locs ls hP hD hS (lv_sub hl [1, 2, 0, 4] rfl) hf
          have J_184 : ∀ (l2_184j : Int32) (l3_184j : Int32) (l4_184j : Int32) (l5_184j : Int32) (s0_184j : Int32) (c_counts_184j : Nat → Int32) (H : Heap) (locs : List Loc) (ls : Array Slot), va_P (dC, dI) vwCl (w_X11_look cI cJ cZ h_this h_this_book h_this_delay h_this_sight h_this_counts h_this_isOne g_this_now g_this_width g_this_key g_this_wide g_this_ahead g_this_after g_this_pad g_this_ways g_this_image g_this_isKept c_rules c_sights c_signs c_reason c_acts c_meetings c_clashes c_first c_where c_door c_wider c_ordersFound c_firstOrder c_least c_leastOrder c_book c_delay c_sight c_counts_184j c_isOne_14x) H → va_D A (w_X11_look cI cJ cZ h_this h_this_book h_this_delay h_this_sight h_this_counts h_this_isOne g_this_now g_this_width g_this_key g_this_wide g_this_ahead g_this_after g_this_pad g_this_ways g_this_image g_this_isKept c_rules c_sights c_signs c_reason c_acts c_meetings c_clashes c_first c_where c_door c_wider c_ordersFound c_firstOrder c_least c_leastOrder c_book c_delay c_sight c_counts_184j c_isOne_14x) → va_S A s.heap H locs → lv_has ls 8 [(0, .ref h_this), (1, .int l1), (2, .int l2_184j), (3, .int l3_184j), (4, .int l4_184j), (5, .int l5_184j)] → f_X11_look_j184 l2_184j l3_184j l4_184j l5_184j c_counts_184j s0_184j = some o_53 → W p l e rm_X11_look s m args below meth c H locs 0 0 Z (F0 m 184 ls [.int s0_184j]) := by
            intro l2_184j l3_184j l4_184j l5_184j s0_184j c_counts_184j H locs ls hP hD hS hl hf
            unfold f_X11_look_j184 at hf
            refine lv_istore (lv' := [(6, .int s0_184j), (0, .ref h_this), (1, .int l1), (2, .int l2_184j), (3, .int l3_184j), (4, .int l4_184j), (5, .int l5_184j)]) hx hb dX11_look_184 hl (by decide) rfl (fun ls hl => ?_)
            refine lv_iload hx hb dX11_look_186 (lv_at hl 0 rfl) ?_
            refine lv_if_eq (tgt := 196) hx hb dX11_look_188 (by decide) (fun k_188 => ?_) (fun k_188 => ?_)
            · have hf := ite_t hf k_188
              refine lv_iload_n hx hb dX11_look_196 rfl (lv_at hl 3 rfl) ?_
              exact J_197 l3_184j l4_184j l5_184j s0_184j l2_184j c_counts_184j H locs ls hP hD hS (lv_sub hl [1, 2, 4, 5, 6, 0] rfl) hf
            · have hf := ite_f hf k_188
              refine lv_iload hx hb dX11_look_191 (lv_at hl 5 rfl) ?_
              refine lv_goto (tgt := 197) hx hb dX11_look_193 (by decide) ?_
              exact J_197 l3_184j l4_184j l5_184j s0_184j l4_184j c_counts_184j H locs ls hP hD hS (lv_sub hl [1, 2, 4, 5, 6, 0] rfl) hf
          have J_183 : ∀ (l2_183j : Int32) (l3_183j : Int32) (l4_183j : Int32) (l5_183j : Int32) (c_counts_183j : Nat → Int32) (H : Heap) (locs : List Loc) (ls : Array Slot), va_P (dC, dI) vwCl (w_X11_look cI cJ cZ h_this h_this_book h_this_delay h_this_sight h_this_counts h_this_isOne g_this_now g_this_width g_this_key g_this_wide g_this_ahead g_this_after g_this_pad g_this_ways g_this_image g_this_isKept c_rules c_sights c_signs c_reason c_acts c_meetings c_clashes c_first c_where c_door c_wider c_ordersFound c_firstOrder c_least c_leastOrder c_book c_delay c_sight c_counts_183j c_isOne_14x) H → va_D A (w_X11_look cI cJ cZ h_this h_this_book h_this_delay h_this_sight h_this_counts h_this_isOne g_this_now g_this_width g_this_key g_this_wide g_this_ahead g_this_after g_this_pad g_this_ways g_this_image g_this_isKept c_rules c_sights c_signs c_reason c_acts c_meetings c_clashes c_first c_where c_door c_wider c_ordersFound c_firstOrder c_least c_leastOrder c_book c_delay c_sight c_counts_183j c_isOne_14x) → va_S A s.heap H locs → lv_has ls 8 [(0, .ref h_this), (1, .int l1), (2, .int l2_183j), (3, .int l3_183j), (4, .int l4_183j), (5, .int l5_183j)] → f_X11_look_j183 l2_183j l3_183j l4_183j l5_183j c_counts_183j = some o_53 → W p l e rm_X11_look s m args below meth c H locs 0 0 Z (F0 m 183 ls []) := by
            intro l2_183j l3_183j l4_183j l5_183j c_counts_183j H locs ls hP hD hS hl hf
            unfold f_X11_look_j183 at hf
            refine lv_iconst (v := 0) hx hb dX11_look_183 (by decide) ?_
            exact J_184 l2_183j l3_183j l4_183j l5_183j 0 c_counts_183j H locs ls hP hD hS (lv_sub hl [0, 1, 2, 3, 4, 5] rfl) hf
          refine lv_iload hx hb dX11_look_53 (lv_at hl 4 rfl) ?_
          refine lv_bipush (v := 61) hx hb dX11_look_55 (by decide) ?_
          refine lv_icmp_ge (tgt := 216) hx hb dX11_look_57 (by decide) (fun k_57 => ?_) (fun k_57 => ?_)
          · have hf := ite_t hf k_57
            have e_53 := ho2_53 _ (Option.some.inj hf).symm
            cases e_53
            exact K_53 H locs ls hP hD hS (lv_sub hl [1, 2, 3] rfl)
          · have hf := ite_f hf k_57
            refine lv_iconst (v := 0) hx hb dX11_look_60 (by decide) ?_
            refine lv_istore (lv' := [(5, .int 0), (0, .ref h_this), (1, .int l1), (2, .int l2_53), (3, .int l3_53), (4, .int l4_53)]) hx hb dX11_look_61 hl (by decide) rfl (fun ls hl => ?_)
            refine lv_iconst (v := 0) hx hb dX11_look_63 (by decide) ?_
            refine lv_istore (lv' := [(6, .int 0), (5, .int 0), (0, .ref h_this), (1, .int l1), (2, .int l2_53), (3, .int l3_53), (4, .int l4_53)]) hx hb dX11_look_64 hl (by decide) rfl (fun ls hl => ?_)
            obtain ⟨l6_66x, c_counts_66x, hq_66, hf⟩ := bd2_some hf
            have K_66 : ∀ (H : Heap) (locs : List Loc) (ls : Array Slot), va_P (dC, dI) vwCl (w_X11_look cI cJ cZ h_this h_this_book h_this_delay h_this_sight h_this_counts h_this_isOne g_this_now g_this_width g_this_key g_this_wide g_this_ahead g_this_after g_this_pad g_this_ways g_this_image g_this_isKept c_rules c_sights c_signs c_reason c_acts c_meetings c_clashes c_first c_where c_door c_wider c_ordersFound c_firstOrder c_least c_leastOrder c_book c_delay c_sight c_counts_66x c_isOne_14x) H → va_D A (w_X11_look cI cJ cZ h_this h_this_book h_this_delay h_this_sight h_this_counts h_this_isOne g_this_now g_this_width g_this_key g_this_wide g_this_ahead g_this_after g_this_pad g_this_ways g_this_image g_this_isKept c_rules c_sights c_signs c_reason c_acts c_meetings c_clashes c_first c_where c_door c_wider c_ordersFound c_firstOrder c_least c_leastOrder c_book c_delay c_sight c_counts_66x c_isOne_14x) → va_S A s.heap H locs → lv_has ls 8 [(0, .ref h_this), (1, .int l1), (2, .int l2_53), (3, .int l3_53), (4, .int l4_53), (5, .int 0)] → W p l e rm_X11_look s m args below meth c H locs 0 0 Z (F0 m 87 ls []) := by
              intro H locs ls hP hD hS hl
              refine lv_iconst (v := 0) hx hb dX11_look_87 (by decide) ?_
              refine lv_istore (lv' := [(6, .int 0), (0, .ref h_this), (1, .int l1), (2, .int l2_53), (3, .int l3_53), (4, .int l4_53), (5, .int 0)]) hx hb dX11_look_88 hl (by decide) rfl (fun ls hl => ?_)
              obtain ⟨l5_90x, l6_90x, c_counts_90x, hq_90, hf⟩ := bd3_some hf
              have K_90 : ∀ (H : Heap) (locs : List Loc) (ls : Array Slot), va_P (dC, dI) vwCl (w_X11_look cI cJ cZ h_this h_this_book h_this_delay h_this_sight h_this_counts h_this_isOne g_this_now g_this_width g_this_key g_this_wide g_this_ahead g_this_after g_this_pad g_this_ways g_this_image g_this_isKept c_rules c_sights c_signs c_reason c_acts c_meetings c_clashes c_first c_where c_door c_wider c_ordersFound c_firstOrder c_least c_leastOrder c_book c_delay c_sight c_counts_90x c_isOne_14x) H → va_D A (w_X11_look cI cJ cZ h_this h_this_book h_this_delay h_this_sight h_this_counts h_this_isOne g_this_now g_this_width g_this_key g_this_wide g_this_ahead g_this_after g_this_pad g_this_ways g_this_image g_this_isKept c_rules c_sights c_signs c_reason c_acts c_meetings c_clashes c_first c_where c_door c_wider c_ordersFound c_firstOrder c_least c_leastOrder c_book c_delay c_sight c_counts_90x c_isOne_14x) → va_S A s.heap H locs → lv_has ls 8 [(0, .ref h_this), (1, .int l1), (2, .int l2_53), (3, .int l3_53), (4, .int l4_53), (5, .int l5_90x)] → W p l e rm_X11_look s m args below meth c H locs 0 0 Z (F0 m 168 ls []) := by
                intro H locs ls hP hD hS hl
                refine lv_iload hx hb dX11_look_168 (lv_at hl 5 rfl) ?_
                refine lv_if_le (tgt := 183) hx hb dX11_look_170 (by decide) (fun k_170 => ?_) (fun k_170 => ?_)
                · have hf := ite_t hf k_170
                  exact J_183 l2_53 l3_53 l4_53 l5_90x c_counts_90x H locs ls hP hD hS (lv_sub hl [0, 1, 2, 3, 4, 5] rfl) hf
                · have hf := ite_f hf k_170
                  refine lv_iload hx hb dX11_look_173 (lv_at hl 5 rfl) ?_
                  refine lv_iload_n hx hb dX11_look_175 rfl (lv_at hl 3 rfl) ?_
                  refine lv_icmp_ge (tgt := 183) hx hb dX11_look_176 (by decide) (fun k_176 => ?_) (fun k_176 => ?_)
                  · have hf := ite_t hf k_176
                    exact J_183 l2_53 l3_53 l4_53 l5_90x c_counts_90x H locs ls hP hD hS (lv_sub hl [0, 1, 2, 3, 4, 5] rfl) hf
                  · have hf := ite_f hf k_176
                    refine lv_iconst (v := 1) hx hb dX11_look_179 (by decide) ?_
                    refine lv_goto (tgt := 184) hx hb dX11_look_180 (by decide) ?_
                    exact J_184 l2_53 l3_53 l4_53 l5_90x 1 c_counts_90x H locs ls hP hD hS (lv_sub hl [0, 1, 2, 3, 4, 5] rfl) hf
              have L_90 : ∀ (n : Nat) (l5_90 : Int32) (l6_90 : Int32) (c_counts_90 : Nat → Int32) (H : Heap) (locs : List Loc) (ls : Array Slot), va_P (dC, dI) vwCl (w_X11_look cI cJ cZ h_this h_this_book h_this_delay h_this_sight h_this_counts h_this_isOne g_this_now g_this_width g_this_key g_this_wide g_this_ahead g_this_after g_this_pad g_this_ways g_this_image g_this_isKept c_rules c_sights c_signs c_reason c_acts c_meetings c_clashes c_first c_where c_door c_wider c_ordersFound c_firstOrder c_least c_leastOrder c_book c_delay c_sight c_counts_90 c_isOne_14x) H → va_D A (w_X11_look cI cJ cZ h_this h_this_book h_this_delay h_this_sight h_this_counts h_this_isOne g_this_now g_this_width g_this_key g_this_wide g_this_ahead g_this_after g_this_pad g_this_ways g_this_image g_this_isKept c_rules c_sights c_signs c_reason c_acts c_meetings c_clashes c_first c_where c_door c_wider c_ordersFound c_firstOrder c_least c_leastOrder c_book c_delay c_sight c_counts_90 c_isOne_14x) → va_S A s.heap H locs → lv_has ls 8 [(0, .ref h_this), (1, .int l1), (2, .int l2_53), (3, .int l3_53), (4, .int l4_53), (5, .int l5_90), (6, .int l6_90)] → loopN (fun (q : Int32 × Int32 × (Nat → Int32)) => f_X11_look_b90 c_delay c_isOne_14x l4_53 q.1 q.2.1 q.2.2) n (l5_90, l6_90, c_counts_90) = some (l5_90x, l6_90x, c_counts_90x) → W p l e rm_X11_look s m args below meth c H locs 0 0 Z (F0 m 90 ls []) := by
                intro n
                induction n with
                | zero => intro l5_90 l6_90 c_counts_90 H locs ls hP hD hS hl hq; exact (loopN_zero hq).elim
                | succ n ih_90 =>
                  intro l5_90 l6_90 c_counts_90 H locs ls hP hD hS hl hq
                  obtain ⟨o_90, hf, ho1_90, ho2_90⟩ := loopN_step hq
                  have hf : f_X11_look_b90 c_delay c_isOne_14x l4_53 l5_90 l6_90 c_counts_90 = some o_90 := hf
                  unfold f_X11_look_b90 at hf
                  have J_160 : ∀ (l6_160j : Int32) (s0_160j : Int32) (c_counts_160j : Nat → Int32) (H : Heap) (locs : List Loc) (ls : Array Slot), va_P (dC, dI) vwCl (w_X11_look cI cJ cZ h_this h_this_book h_this_delay h_this_sight h_this_counts h_this_isOne g_this_now g_this_width g_this_key g_this_wide g_this_ahead g_this_after g_this_pad g_this_ways g_this_image g_this_isKept c_rules c_sights c_signs c_reason c_acts c_meetings c_clashes c_first c_where c_door c_wider c_ordersFound c_firstOrder c_least c_leastOrder c_book c_delay c_sight c_counts_160j c_isOne_14x) H → va_D A (w_X11_look cI cJ cZ h_this h_this_book h_this_delay h_this_sight h_this_counts h_this_isOne g_this_now g_this_width g_this_key g_this_wide g_this_ahead g_this_after g_this_pad g_this_ways g_this_image g_this_isKept c_rules c_sights c_signs c_reason c_acts c_meetings c_clashes c_first c_where c_door c_wider c_ordersFound c_firstOrder c_least c_leastOrder c_book c_delay c_sight c_counts_160j c_isOne_14x) → va_S A s.heap H locs → lv_has ls 8 [(0, .ref h_this), (1, .int l1), (2, .int l2_53), (3, .int l3_53), (4, .int l4_53), (6, .int l6_160j)] → f_X11_look_j160 l6_160j c_counts_160j s0_160j = some o_90 → W p l e rm_X11_look s m args below meth c H locs 0 0 Z (F0 m 160 ls [.int s0_160j]) := by
                    intro l6_160j s0_160j c_counts_160j H locs ls hP hD hS hl hf
                    unfold f_X11_look_j160 at hf
                    refine lv_istore (lv' := [(5, .int s0_160j), (0, .ref h_this), (1, .int l1), (2, .int l2_53), (3, .int l3_53), (4, .int l4_53), (6, .int l6_160j)]) hx hb dX11_look_160 hl (by decide) rfl (fun ls hl => ?_)
                    refine lv_iinc (v := (l6_160j + 1)) (lv' := [(6, .int (l6_160j + 1)), (5, .int s0_160j), (0, .ref h_this), (1, .int l1), (2, .int l2_53), (3, .int l3_53), (4, .int l4_53)]) hx hb dX11_look_162 hl (k := 6) rfl rfl (by decide) rfl (fun ls hl => ?_)
                    refine lv_goto (tgt := 90) hx hb dX11_look_165 (by decide) ?_
                    exact ih_90 s0_160j (l6_160j + 1) c_counts_160j H locs ls hP hD hS (lv_sub hl [2, 3, 4, 5, 6, 1, 0] rfl) (ho1_90 _ (Option.some.inj hf).symm)
                  refine lv_iload hx hb dX11_look_90 (lv_at hl 6 rfl) ?_
                  refine lv_bipush (v := 120) hx hb dX11_look_92 (by decide) ?_
                  refine lv_icmp_ge (tgt := 168) hx hb dX11_look_94 (by decide) (fun k_94 => ?_) (fun k_94 => ?_)
                  · have hf := ite_t hf k_94
                    have e_90 := ho2_90 _ (Option.some.inj hf).symm
                    cases e_90
                    exact K_90 H locs ls hP hD hS (lv_sub hl [0, 1, 2, 3, 4, 5] rfl)
                  · have hf := ite_f hf k_94
                    refine lv_aload_n hx hb dX11_look_97 rfl (lv_at hl 0 rfl) ?_
                    refine va_get (D := (dC, dI)) (ci := 11) (v := .ref h_this_isOne) (C := RX11) (T := TX11) (N := 30) hx hb hts in_X11_look_X11 hown hK hP 0 rfl rfl 26 (by decide) (hts _ m_X11_look_f43) (fun _ h9 => h9) rfl dX11_look_98 ?_
                    refine lv_iload hx hb dX11_look_101 (lv_at hl 6 rfl) ?_
                    obtain ⟨g_103, hf⟩ := gd_some hf
                    refine va_zald hx hb hK hP 5 2 rfl rfl g_103 dX11_look_103 ?_
                    refine lv_if_eq (tgt := 162) hx hb dX11_look_104 (by decide) (fun k_104 => ?_) (fun k_104 => ?_)
                    · have hf := ite_t hf k_104
                      refine lv_iinc (v := (l6_90 + 1)) (lv' := [(6, .int (l6_90 + 1)), (0, .ref h_this), (1, .int l1), (2, .int l2_53), (3, .int l3_53), (4, .int l4_53), (5, .int l5_90)]) hx hb dX11_look_162 hl (k := 6) rfl rfl (by decide) rfl (fun ls hl => ?_)
                      refine lv_goto (tgt := 90) hx hb dX11_look_165 (by decide) ?_
                      exact ih_90 l5_90 (l6_90 + 1) c_counts_90 H locs ls hP hD hS (lv_sub hl [1, 2, 3, 4, 5, 6, 0] rfl) (ho1_90 _ (Option.some.inj hf).symm)
                    · have hf := ite_f hf k_104
                      refine lv_aload_n hx hb dX11_look_107 rfl (lv_at hl 0 rfl) ?_
                      refine lv_iload hx hb dX11_look_108 (lv_at hl 6 rfl) ?_
                      refine lv_bipush (v := 10) hx hb dX11_look_110 (by decide) ?_
                      refine lv_idiv hx hb dX11_look_112 (by decide) ?_
                      refine lv_iload hx hb dX11_look_113 (lv_at hl 6 rfl) ?_
                      refine lv_bipush (v := 10) hx hb dX11_look_115 (by decide) ?_
                      refine lv_irem hx hb dX11_look_117 (by decide) ?_
                      refine lv_iload hx hb dX11_look_118 (lv_at hl 4 rfl) ?_
                      obtain ⟨r_120, hv_120, hf⟩ := bd1_some hf
                      refine kSi (rV (C := RX11) [.int (l6_90 / 10), .int (l6_90 - (l6_90 / 10) * 10), .int l4_53] [] S (c_X11_cellOf l dC dI cI cJ cZ h_this h_this_delay h_this_book g_this_now g_this_width g_this_key g_this_wide g_this_ahead g_this_after h_this_sight g_this_pad h_this_counts h_this_isOne g_this_ways g_this_image g_this_isKept H.size c_rules c_sights c_signs c_reason c_acts c_meetings c_clashes c_first c_where c_door c_wider c_ordersFound c_firstOrder c_least c_leastOrder c_delay (l6_90 / 10) (l6_90 - (l6_90 / 10) * 10) l4_53 r_120 hv_120) (cwV 3 hts gX11_look_X11_cellOf rfl rfl rfl (by decide +kernel) ⟨Nat.le_of_ble_eq_true rfl, Nat.le_of_ble_eq_true rfl⟩) (va_recv hK hP (ci := 11) (q0 := 0) rfl rfl) hP hD hK hN [0, 2] rfl (by decide +kernel) rfl hl.1 rfl (Nat.le_of_ble_eq_true rfl) dX11_look_120 ⟨Nat.le_of_ble_eq_true rfl, Nat.le_of_ble_eq_true rfl⟩) ?_
                      refine lv_istore (lv' := [(7, .int r_120), (0, .ref h_this), (1, .int l1), (2, .int l2_53), (3, .int l3_53), (4, .int l4_53), (5, .int l5_90), (6, .int l6_90)]) hx hb dX11_look_123 hl (by decide) rfl (fun ls hl => ?_)
                      refine lv_aload_n hx hb dX11_look_125 rfl (lv_at hl 1 rfl) ?_
                      refine va_get (D := (dC, dI)) (ci := 11) (v := .ref h_this_counts) (C := RX11) (T := TX11) (N := 30) hx hb hts in_X11_look_X11 hown hK hP 0 rfl rfl 25 (by decide) (hts _ m_X11_look_f40) (fun _ h9 => h9) rfl dX11_look_126 ?_
                      refine lv_iload hx hb dX11_look_129 (lv_at hl 0 rfl) ?_
                      refine lv_dup2_11 hx hb dX11_look_131 rfl rfl ?_
                      obtain ⟨g_132, hf⟩ := gd_some hf
                      refine va_iald hx hb hK hP 4 0 rfl rfl g_132 dX11_look_132 ?_
                      refine lv_iconst (v := 1) hx hb dX11_look_133 (by decide) ?_
                      refine lv_iadd hx hb dX11_look_134 ?_
                      obtain ⟨g_135, hf⟩ := gd_some hf
                      refine va_iast hx hb hK hP hD hS 4 0 rfl rfl g_135 dX11_look_135 (fun H locs hP hD hS => ?_)
                      have hP : va_P (dC, dI) vwCl (w_X11_look cI cJ cZ h_this h_this_book h_this_delay h_this_sight h_this_counts h_this_isOne g_this_now g_this_width g_this_key g_this_wide g_this_ahead g_this_after g_this_pad g_this_ways g_this_image g_this_isKept c_rules c_sights c_signs c_reason c_acts c_meetings c_clashes c_first c_where c_door c_wider c_ordersFound c_firstOrder c_least c_leastOrder c_book c_delay c_sight (upd c_counts_90 (Int32.toNatClampNeg r_120) ((c_counts_90 (Int32.toNatClampNeg r_120)) + 1)) c_isOne_14x) H := hP
                      have hD : va_D A (w_X11_look cI cJ cZ h_this h_this_book h_this_delay h_this_sight h_this_counts h_this_isOne g_this_now g_this_width g_this_key g_this_wide g_this_ahead g_this_after g_this_pad g_this_ways g_this_image g_this_isKept c_rules c_sights c_signs c_reason c_acts c_meetings c_clashes c_first c_where c_door c_wider c_ordersFound c_firstOrder c_least c_leastOrder c_book c_delay c_sight (upd c_counts_90 (Int32.toNatClampNeg r_120) ((c_counts_90 (Int32.toNatClampNeg r_120)) + 1)) c_isOne_14x) := hD
                      refine lv_aload_n hx hb dX11_look_136 rfl (lv_at hl 1 rfl) ?_
                      refine va_get (D := (dC, dI)) (ci := 11) (v := .ref h_this_counts) (C := RX11) (T := TX11) (N := 30) hx hb hts in_X11_look_X11 hown hK hP 0 rfl rfl 25 (by decide) (hts _ m_X11_look_f40) (fun _ h9 => h9) rfl dX11_look_137 ?_
                      refine lv_iload hx hb dX11_look_140 (lv_at hl 0 rfl) ?_
                      obtain ⟨g_142, hf⟩ := gd_some hf
                      refine va_iald hx hb hK hP 4 0 rfl rfl g_142 dX11_look_142 ?_
                      refine lv_iload hx hb dX11_look_143 (lv_at hl 6 rfl) ?_
                      refine lv_icmp_le (tgt := 158) hx hb dX11_look_145 (by decide) (fun k_145 => ?_) (fun k_145 => ?_)
                      · have hf := ite_t hf k_145
                        refine lv_iload hx hb dX11_look_158 (lv_at hl 6 rfl) ?_
                        exact J_160 l6_90 l5_90 (upd c_counts_90 (Int32.toNatClampNeg r_120) ((c_counts_90 (Int32.toNatClampNeg r_120)) + 1)) H locs ls hP hD hS (lv_sub hl [1, 2, 3, 4, 5, 7] rfl) hf
                      · have hf := ite_f hf k_145
                        refine lv_aload_n hx hb dX11_look_148 rfl (lv_at hl 1 rfl) ?_
                        refine va_get (D := (dC, dI)) (ci := 11) (v := .ref h_this_counts) (C := RX11) (T := TX11) (N := 30) hx hb hts in_X11_look_X11 hown hK hP 0 rfl rfl 25 (by decide) (hts _ m_X11_look_f40) (fun _ h9 => h9) rfl dX11_look_149 ?_
                        refine lv_iload hx hb dX11_look_152 (lv_at hl 0 rfl) ?_
                        obtain ⟨g_154, hf⟩ := gd_some hf
                        refine va_iald hx hb hK hP 4 0 rfl rfl g_154 dX11_look_154 ?_
                        refine lv_goto (tgt := 160) hx hb dX11_look_155 (by decide) ?_
                        exact J_160 l6_90 ((upd c_counts_90 (Int32.toNatClampNeg r_120) ((c_counts_90 (Int32.toNatClampNeg r_120)) + 1)) (Int32.toNatClampNeg r_120)) (upd c_counts_90 (Int32.toNatClampNeg r_120) ((c_counts_90 (Int32.toNatClampNeg r_120)) + 1)) H locs ls hP hD hS (lv_sub hl [1, 2, 3, 4, 5, 7] rfl) hf
              exact L_90 FU 0 0 c_counts_66x H locs ls hP hD hS (lv_sub hl [1, 2, 3, 4, 5, 6, 0] rfl) hq_90
            have L_66 : ∀ (n : Nat) (l6_66 : Int32) (c_counts_66 : Nat → Int32) (H : Heap) (locs : List Loc) (ls : Array Slot), va_P (dC, dI) vwCl (w_X11_look cI cJ cZ h_this h_this_book h_this_delay h_this_sight h_this_counts h_this_isOne g_this_now g_this_width g_this_key g_this_wide g_this_ahead g_this_after g_this_pad g_this_ways g_this_image g_this_isKept c_rules c_sights c_signs c_reason c_acts c_meetings c_clashes c_first c_where c_door c_wider c_ordersFound c_firstOrder c_least c_leastOrder c_book c_delay c_sight c_counts_66 c_isOne_14x) H → va_D A (w_X11_look cI cJ cZ h_this h_this_book h_this_delay h_this_sight h_this_counts h_this_isOne g_this_now g_this_width g_this_key g_this_wide g_this_ahead g_this_after g_this_pad g_this_ways g_this_image g_this_isKept c_rules c_sights c_signs c_reason c_acts c_meetings c_clashes c_first c_where c_door c_wider c_ordersFound c_firstOrder c_least c_leastOrder c_book c_delay c_sight c_counts_66 c_isOne_14x) → va_S A s.heap H locs → lv_has ls 8 [(0, .ref h_this), (1, .int l1), (2, .int l2_53), (3, .int l3_53), (4, .int l4_53), (5, .int 0), (6, .int l6_66)] → loopN (fun (q : Int32 × (Nat → Int32)) => f_X11_look_b66 q.1 q.2) n (l6_66, c_counts_66) = some (l6_66x, c_counts_66x) → W p l e rm_X11_look s m args below meth c H locs 0 0 Z (F0 m 66 ls []) := by
              intro n
              induction n with
              | zero => intro l6_66 c_counts_66 H locs ls hP hD hS hl hq; exact (loopN_zero hq).elim
              | succ n ih_66 =>
                intro l6_66 c_counts_66 H locs ls hP hD hS hl hq
                obtain ⟨o_66, hf, ho1_66, ho2_66⟩ := loopN_step hq
                have hf : f_X11_look_b66 l6_66 c_counts_66 = some o_66 := hf
                unfold f_X11_look_b66 at hf
                refine lv_iload hx hb dX11_look_66 (lv_at hl 6 rfl) ?_
                refine lv_bipush (v := 18) hx hb dX11_look_68 (by decide) ?_
                refine lv_icmp_ge (tgt := 87) hx hb dX11_look_70 (by decide) (fun k_70 => ?_) (fun k_70 => ?_)
                · have hf := ite_t hf k_70
                  have e_66 := ho2_66 _ (Option.some.inj hf).symm
                  cases e_66
                  exact K_66 H locs ls hP hD hS (lv_sub hl [0, 1, 2, 3, 4, 5] rfl)
                · have hf := ite_f hf k_70
                  refine lv_aload_n hx hb dX11_look_73 rfl (lv_at hl 0 rfl) ?_
                  refine va_get (D := (dC, dI)) (ci := 11) (v := .ref h_this_counts) (C := RX11) (T := TX11) (N := 30) hx hb hts in_X11_look_X11 hown hK hP 0 rfl rfl 25 (by decide) (hts _ m_X11_look_f40) (fun _ h9 => h9) rfl dX11_look_74 ?_
                  refine lv_iload hx hb dX11_look_77 (lv_at hl 6 rfl) ?_
                  refine lv_iconst (v := 0) hx hb dX11_look_79 (by decide) ?_
                  obtain ⟨g_80, hf⟩ := gd_some hf
                  refine va_iast hx hb hK hP hD hS 4 0 rfl rfl g_80 dX11_look_80 (fun H locs hP hD hS => ?_)
                  have hP : va_P (dC, dI) vwCl (w_X11_look cI cJ cZ h_this h_this_book h_this_delay h_this_sight h_this_counts h_this_isOne g_this_now g_this_width g_this_key g_this_wide g_this_ahead g_this_after g_this_pad g_this_ways g_this_image g_this_isKept c_rules c_sights c_signs c_reason c_acts c_meetings c_clashes c_first c_where c_door c_wider c_ordersFound c_firstOrder c_least c_leastOrder c_book c_delay c_sight (upd c_counts_66 (Int32.toNatClampNeg l6_66) 0) c_isOne_14x) H := hP
                  have hD : va_D A (w_X11_look cI cJ cZ h_this h_this_book h_this_delay h_this_sight h_this_counts h_this_isOne g_this_now g_this_width g_this_key g_this_wide g_this_ahead g_this_after g_this_pad g_this_ways g_this_image g_this_isKept c_rules c_sights c_signs c_reason c_acts c_meetings c_clashes c_first c_where c_door c_wider c_ordersFound c_firstOrder c_least c_leastOrder c_book c_delay c_sight (upd c_counts_66 (Int32.toNatClampNeg l6_66) 0) c_isOne_14x) := hD
                  refine lv_iinc (v := (l6_66 + 1)) (lv' := [(6, .int (l6_66 + 1)), (0, .ref h_this), (1, .int l1), (2, .int l2_53), (3, .int l3_53), (4, .int l4_53), (5, .int 0)]) hx hb dX11_look_81 hl (k := 6) rfl rfl (by decide) rfl (fun ls hl => ?_)
                  refine lv_goto (tgt := 66) hx hb dX11_look_84 (by decide) ?_
                  exact ih_66 (l6_66 + 1) (upd c_counts_66 (Int32.toNatClampNeg l6_66) 0) H locs ls hP hD hS (lv_sub hl [1, 2, 3, 4, 5, 6, 0] rfl) (ho1_66 _ (Option.some.inj hf).symm)
            exact L_66 FU 0 c_counts_53 H locs ls hP hD hS (lv_sub hl [2, 3, 4, 5, 6, 1, 0] rfl) hq_66
      exact L_53 FU (-6) 1000000 0 c_counts H locs ls hP hD hS (lv_sub hl [3, 4, 2, 1, 0] rfl) hq_53
    have L_14 : ∀ (n : Nat) (l2_14 : Int32) (c_isOne_14 : Nat → Int32) (H : Heap) (locs : List Loc) (ls : Array Slot), va_P (dC, dI) vwCl (w_X11_look cI cJ cZ h_this h_this_book h_this_delay h_this_sight h_this_counts h_this_isOne g_this_now g_this_width g_this_key g_this_wide g_this_ahead g_this_after g_this_pad g_this_ways g_this_image g_this_isKept c_rules c_sights c_signs c_reason c_acts c_meetings c_clashes c_first c_where c_door c_wider c_ordersFound c_firstOrder c_least c_leastOrder c_book c_delay c_sight c_counts c_isOne_14) H → va_D A (w_X11_look cI cJ cZ h_this h_this_book h_this_delay h_this_sight h_this_counts h_this_isOne g_this_now g_this_width g_this_key g_this_wide g_this_ahead g_this_after g_this_pad g_this_ways g_this_image g_this_isKept c_rules c_sights c_signs c_reason c_acts c_meetings c_clashes c_first c_where c_door c_wider c_ordersFound c_firstOrder c_least c_leastOrder c_book c_delay c_sight c_counts c_isOne_14) → va_S A s.heap H locs → lv_has ls 8 [(0, .ref h_this), (1, .int l1), (2, .int l2_14)] → loopN (fun (q : Int32 × (Nat → Int32)) => f_X11_look_b14 c_sights c_book c_delay c_sight q.1 q.2) n (l2_14, c_isOne_14) = some (l2_14x, c_isOne_14x) → W p l e rm_X11_look s m args below meth c H locs 0 0 Z (F0 m 14 ls []) := by
      intro n
      induction n with
      | zero => intro l2_14 c_isOne_14 H locs ls hP hD hS hl hq; exact (loopN_zero hq).elim
      | succ n ih_14 =>
        intro l2_14 c_isOne_14 H locs ls hP hD hS hl hq
        obtain ⟨o_14, hf, ho1_14, ho2_14⟩ := loopN_step hq
        have hf : f_X11_look_b14 c_sights c_book c_delay c_sight l2_14 c_isOne_14 = some o_14 := hf
        unfold f_X11_look_b14 at hf
        refine lv_iload_n hx hb dX11_look_14 rfl (lv_at hl 2 rfl) ?_
        refine lv_bipush (v := 120) hx hb dX11_look_15 (by decide) ?_
        refine lv_icmp_ge (tgt := 44) hx hb dX11_look_17 (by decide) (fun k_17 => ?_) (fun k_17 => ?_)
        · have hf := ite_t hf k_17
          have e_14 := ho2_14 _ (Option.some.inj hf).symm
          cases e_14
          exact K_14 H locs ls hP hD hS (lv_sub hl [0, 1] rfl)
        · have hf := ite_f hf k_17
          refine lv_aload_n hx hb dX11_look_20 rfl (lv_at hl 0 rfl) ?_
          refine va_get (D := (dC, dI)) (ci := 11) (v := .ref h_this_isOne) (C := RX11) (T := TX11) (N := 30) hx hb hts in_X11_look_X11 hown hK hP 0 rfl rfl 26 (by decide) (hts _ m_X11_look_f43) (fun _ h9 => h9) rfl dX11_look_21 ?_
          refine lv_iload_n hx hb dX11_look_24 rfl (lv_at hl 2 rfl) ?_
          refine lv_aload_n hx hb dX11_look_25 rfl (lv_at hl 0 rfl) ?_
          refine lv_iload_n hx hb dX11_look_26 rfl (lv_at hl 2 rfl) ?_
          refine lv_bipush (v := 10) hx hb dX11_look_27 (by decide) ?_
          refine lv_idiv hx hb dX11_look_29 (by decide) ?_
          refine lv_iload_n hx hb dX11_look_30 rfl (lv_at hl 2 rfl) ?_
          refine lv_bipush (v := 10) hx hb dX11_look_31 (by decide) ?_
          refine lv_irem hx hb dX11_look_33 (by decide) ?_
          obtain ⟨r_34, hv_34, hf⟩ := bd1_some hf
          refine kSi (rV (C := RX11) [.int (l2_14 / 10), .int (l2_14 - (l2_14 / 10) * 10)] [.int l2_14, .ref h_this_isOne] S (c_X11_fits l dC dI cI cJ cZ h_this h_this_book h_this_delay h_this_sight g_this_now g_this_width g_this_key g_this_wide g_this_ahead g_this_after g_this_pad h_this_counts h_this_isOne g_this_ways g_this_image g_this_isKept H.size c_rules c_sights c_signs c_reason c_acts c_meetings c_clashes c_first c_where c_door c_wider c_ordersFound c_firstOrder c_least c_leastOrder c_book c_delay c_sight (l2_14 / 10) (l2_14 - (l2_14 / 10) * 10) r_34 hv_34) (cwV 2 hts gX11_look_X11_fits rfl rfl rfl (by decide +kernel) ⟨Nat.le_of_ble_eq_true rfl, Nat.le_of_ble_eq_true rfl⟩) (va_recv hK hP (ci := 11) (q0 := 0) rfl rfl) hP hD hK hN [0, 1, 2, 3] rfl (by decide +kernel) rfl hl.1 rfl (Nat.le_of_ble_eq_true rfl) dX11_look_34 ⟨Nat.le_of_ble_eq_true rfl, Nat.le_of_ble_eq_true rfl⟩) ?_
          obtain ⟨g_37, hf⟩ := gd_some hf
          refine va_zast hx hb hK hP hD hS 5 2 rfl rfl g_37 dX11_look_37 (fun H locs hP hD hS => ?_)
          have hP : va_P (dC, dI) vwCl (w_X11_look cI cJ cZ h_this h_this_book h_this_delay h_this_sight h_this_counts h_this_isOne g_this_now g_this_width g_this_key g_this_wide g_this_ahead g_this_after g_this_pad g_this_ways g_this_image g_this_isKept c_rules c_sights c_signs c_reason c_acts c_meetings c_clashes c_first c_where c_door c_wider c_ordersFound c_firstOrder c_least c_leastOrder c_book c_delay c_sight c_counts (upd c_isOne_14 (Int32.toNatClampNeg l2_14) (vp_nar .boolean r_34))) H := hP
          have hD : va_D A (w_X11_look cI cJ cZ h_this h_this_book h_this_delay h_this_sight h_this_counts h_this_isOne g_this_now g_this_width g_this_key g_this_wide g_this_ahead g_this_after g_this_pad g_this_ways g_this_image g_this_isKept c_rules c_sights c_signs c_reason c_acts c_meetings c_clashes c_first c_where c_door c_wider c_ordersFound c_firstOrder c_least c_leastOrder c_book c_delay c_sight c_counts (upd c_isOne_14 (Int32.toNatClampNeg l2_14) (vp_nar .boolean r_34))) := hD
          refine lv_iinc (v := (l2_14 + 1)) (lv' := [(2, .int (l2_14 + 1)), (0, .ref h_this), (1, .int l1)]) hx hb dX11_look_38 hl (k := 2) rfl rfl (by decide) rfl (fun ls hl => ?_)
          refine lv_goto (tgt := 14) hx hb dX11_look_41 (by decide) ?_
          exact ih_14 (l2_14 + 1) (upd c_isOne_14 (Int32.toNatClampNeg l2_14) (vp_nar .boolean r_34)) H locs ls hP hD hS (lv_sub hl [1, 2, 0] rfl) (ho1_14 _ (Option.some.inj hf).symm)
    exact L_14 FU 0 c_isOne s.heap [] ls hP hD hS (lv_sub hl [1, 2, 0] rfl) hq_14
  · have hf := ite_t hf k_6
    refine lv_bipush (v := (-2)) hx hb dX11_look_9 (by decide) ?_
    have e_f := Option.some.inj hf
    cases e_f
    exact hret rfl hP hD hS dX11_look_11
abbrev w_X11_chance (cI cJ cZ : ClassId) (h_this h_this_book h_this_now h_this_width h_this_wide h_this_delay h_this_ways g_this_key g_this_ahead g_this_after g_this_sight g_this_pad g_this_counts g_this_isOne g_this_image g_this_isKept : Nat) (c_rules : Int32) (c_sights : Int32) (c_signs : Int32) (c_reason : Int32) (c_acts : Int32) (c_meetings : Int32) (c_clashes : Int32) (c_first : Int32) (c_where : Int32) (c_door : Int32) (c_wider : Int32) (c_ordersFound : Int32) (c_firstOrder : Int32) (c_least : Int32) (c_leastOrder : Int32) (c_book : Nat → Int32) (c_now : Nat → Int32) (c_width : Nat → Int32) (c_wide : Nat → Int32) (c_delay : Nat → Int32) (c_ways : Nat → Int64) : va_W := [(h_this, .inr (11, [.ref h_this_book, .ref h_this_now, .ref h_this_width, .ref g_this_key, .ref h_this_wide, .ref h_this_delay, .int c_rules, .ref g_this_ahead, .ref g_this_after, .int c_sights, .ref g_this_sight, .int c_signs, .ref g_this_pad, .int c_reason, .int c_acts, .int c_meetings, .int c_clashes, .int c_first, .int c_where, .int c_door, .int c_wider, .int c_ordersFound, .int c_firstOrder, .int c_least, .int c_leastOrder, .ref g_this_counts, .ref g_this_isOne, .ref h_this_ways, .ref g_this_image, .ref g_this_isKept])), (h_this_book, .inl (cI, 15, .inl c_book)), (h_this_now, .inl (cI, 15, .inl c_now)), (h_this_width, .inl (cI, 10, .inl c_width)), (h_this_wide, .inl (cI, 17, .inl c_wide)), (h_this_delay, .inl (cI, 2, .inl c_delay)), (h_this_ways, .inl (cJ, 14, .inr (.inl c_ways)))]
abbrev rm_X11_chance : Room := { frames := 3, cells := 0, slots := 0, locals := 69 }
theorem m_X11_chance_k187 : (.constantLong RX11 187 (-1000000000000000002) : Cond) ∈ wsX11_chance := by decide +kernel
theorem m_X11_chance_f126 : (.fieldLink RX11 126 "WovenRowsModel" "clashes" "I" : Cond) ∈ wsX11_chance := by decide +kernel
theorem in_X11_chance_X11 : ∀ w ∈ u_ws RX11 TX11 30, w ∈ wsX11_chance := by decide +kernel
theorem m_X11_chance_f47 : (.fieldLink RX11 47 "WovenRowsModel" "ways" "[J" : Cond) ∈ wsX11_chance := by decide +kernel
theorem m_X11_chance_k191 : (.constantLong RX11 191 (10) : Cond) ∈ wsX11_chance := by decide +kernel
theorem m_X11_chance_k189 : (.constantLong RX11 189 (-1000000000000000003) : Cond) ∈ wsX11_chance := by decide +kernel
set_option maxRecDepth 100000 in
set_option maxHeartbeats 4000000 in
theorem c_X11_chance (l : Launch) (dC : Nat → ClassId) (dI : Nat → Nat → Nat) (cI cJ cZ : ClassId) (h_this h_this_book h_this_now h_this_width h_this_wide h_this_delay h_this_ways g_this_key g_this_ahead g_this_after g_this_sight g_this_pad g_this_counts g_this_isOne g_this_image g_this_isKept : Nat) (sz : Nat) (c_rules : Int32) (c_sights : Int32) (c_signs : Int32) (c_reason : Int32) (c_acts : Int32) (c_meetings : Int32) (c_clashes : Int32) (c_first : Int32) (c_where : Int32) (c_door : Int32) (c_wider : Int32) (c_ordersFound : Int32) (c_firstOrder : Int32) (c_least : Int32) (c_leastOrder : Int32) (c_book : Nat → Int32) (c_now : Nat → Int32) (c_width : Nat → Int32) (c_wide : Nat → Int32) (c_delay : Nat → Int32) (c_ways : Nat → Int64) (l1 : Int32) (l2 : Int32) (l3 : Int32) (r : Int64) (z_meetings : Int32) (z_clashes : Int32) (z_first : Int32) (z_where : Int32) (z_door : Int32) (z_wider : Int32) (z_now : Nat → Int32) (z_ways : Nat → Int64) (hf : f_X11_chance c_meetings c_clashes c_first c_where c_door c_wider c_book c_now c_width c_wide c_delay c_ways l1 l2 l3 = some (r, z_meetings, z_clashes, z_first, z_where, z_door, z_wider, z_now, z_ways)) : Met l yX11_chance wsX11_chance rm_X11_chance (va_Pc [.ref h_this, .int l1, .int l2, .int l3] (PRE (dC, dI) (TY cI cJ cZ) sz (w_X11_chance cI cJ cZ h_this h_this_book h_this_now h_this_width h_this_wide h_this_delay h_this_ways g_this_key g_this_ahead g_this_after g_this_sight g_this_pad g_this_counts g_this_isOne g_this_image g_this_isKept c_rules c_sights c_signs c_reason c_acts c_meetings c_clashes c_first c_where c_door c_wider c_ordersFound c_firstOrder c_least c_leastOrder c_book c_now c_width c_wide c_delay c_ways))) (va_Ql (fun r' (_ : Unit) => r' = r) (POW (dC, dI) (va_A (w_X11_chance cI cJ cZ h_this h_this_book h_this_now h_this_width h_this_wide h_this_delay h_this_ways g_this_key g_this_ahead g_this_after g_this_sight g_this_pad g_this_counts g_this_isOne g_this_image g_this_isKept c_rules c_sights c_signs c_reason c_acts c_meetings c_clashes c_first c_where c_door c_wider c_ordersFound c_firstOrder c_least c_leastOrder c_book c_now c_width c_wide c_delay c_ways) sz) (w_X11_chance cI cJ cZ h_this h_this_book h_this_now h_this_width h_this_wide h_this_delay h_this_ways g_this_key g_this_ahead g_this_after g_this_sight g_this_pad g_this_counts g_this_isOne g_this_image g_this_isKept c_rules c_sights c_signs c_reason c_acts z_meetings z_clashes z_first z_where z_door z_wider c_ordersFound c_firstOrder c_least c_leastOrder c_book z_now c_width c_wide c_delay z_ways)) (va_A (w_X11_chance cI cJ cZ h_this h_this_book h_this_now h_this_width h_this_wide h_this_delay h_this_ways g_this_key g_this_ahead g_this_after g_this_sight g_this_pad g_this_counts g_this_isOne g_this_image g_this_isKept c_rules c_sights c_signs c_reason c_acts c_meetings c_clashes c_first c_where c_door c_wider c_ordersFound c_firstOrder c_least c_leastOrder c_book c_now c_width c_wide c_delay c_ways) sz)) 0 0 (va_A (w_X11_chance cI cJ cZ h_this h_this_book h_this_now h_this_width h_this_wide h_this_delay h_this_ways g_this_key g_this_ahead g_this_after g_this_sight g_this_pad g_this_counts g_this_isOne g_this_image g_this_isKept c_rules c_sights c_signs c_reason c_acts c_meetings c_clashes c_first c_where c_door c_wider c_ordersFound c_firstOrder c_least c_leastOrder c_book c_now c_width c_wide c_delay c_ways) sz) := by
  refine ofWl (by decide +kernel) rfl (Nat.le_of_ble_eq_true rfl) ?_
  intro p e s m args below meth c Z A ls S hP hD hK hN hA hl hret
  obtain ⟨hx, hb, hml, hown, hts⟩ := id S
  have hown : s.vm.findClass RX11 = some m.cls := hown
  have hS : va_S A s.heap s.heap [] := va_S.rf
  have hl : lv_has ls 14 [(0, .ref h_this), (1, .int l1), (2, .int l2), (3, .int l3)] := hl
  unfold f_X11_chance at hf
  refine lv_iload_n hx hb dX11_chance_0 rfl (lv_at hl 1 rfl) ?_
  refine lv_iconst (v := 0) hx hb dX11_chance_1 (by decide) ?_
  refine lv_bipush (v := 10) hx hb dX11_chance_2 (by decide) ?_
  obtain ⟨r_4, hv_4, hf⟩ := bd1_some hf
  refine kSi (rS [.int l1, .int 0, .int 10] [] S (c_X11_in l dC dI cI cJ cZ s.heap.size l1 0 10 r_4 hv_4) (va_cwS 3 hts gX11_chance_X11_in rfl rfl rfl (by decide +kernel) ⟨Nat.le_of_ble_eq_true rfl, Nat.le_of_ble_eq_true rfl⟩) hP hD hK hN [] rfl (by decide +kernel) rfl hl.1 rfl (Nat.le_of_ble_eq_true rfl) dX11_chance_4 ⟨Nat.le_of_ble_eq_true rfl, Nat.le_of_ble_eq_true rfl⟩) ?_
  refine lv_if_eq (tgt := 29) hx hb dX11_chance_7 (by decide) (fun k_7 => ?_) (fun k_7 => ?_)
  · have hf := ite_t hf k_7
    refine lv_ldc2 (v := (-1000000000000000002)) hx hb hown (hts _ m_X11_chance_k187) dX11_chance_29 ?_
    have e_f := Option.some.inj hf
    cases e_f
    exact hret hP hD hS dX11_chance_32
  · have hf := ite_f hf k_7
    refine lv_iload_n hx hb dX11_chance_10 rfl (lv_at hl 2 rfl) ?_
    refine lv_iconst (v := 0) hx hb dX11_chance_11 (by decide) ?_
    refine lv_bipush (v := 12) hx hb dX11_chance_12 (by decide) ?_
    obtain ⟨r_14, hv_14, hf⟩ := bd1_some hf
    refine kSi (rS [.int l2, .int 0, .int 12] [] S (c_X11_in l dC dI cI cJ cZ s.heap.size l2 0 12 r_14 hv_14) (va_cwS 3 hts gX11_chance_X11_in rfl rfl rfl (by decide +kernel) ⟨Nat.le_of_ble_eq_true rfl, Nat.le_of_ble_eq_true rfl⟩) hP hD hK hN [] rfl (by decide +kernel) rfl hl.1 rfl (Nat.le_of_ble_eq_true rfl) dX11_chance_14 ⟨Nat.le_of_ble_eq_true rfl, Nat.le_of_ble_eq_true rfl⟩) ?_
    refine lv_if_eq (tgt := 29) hx hb dX11_chance_17 (by decide) (fun k_17 => ?_) (fun k_17 => ?_)
    · have hf := ite_t hf k_17
      refine lv_ldc2 (v := (-1000000000000000002)) hx hb hown (hts _ m_X11_chance_k187) dX11_chance_29 ?_
      have e_f := Option.some.inj hf
      cases e_f
      exact hret hP hD hS dX11_chance_32
    · have hf := ite_f hf k_17
      refine lv_iload_n hx hb dX11_chance_20 rfl (lv_at hl 3 rfl) ?_
      refine lv_iconst (v := 0) hx hb dX11_chance_21 (by decide) ?_
      refine lv_iconst (v := 1) hx hb dX11_chance_22 (by decide) ?_
      obtain ⟨r_23, hv_23, hf⟩ := bd1_some hf
      refine kSi (rS [.int l3, .int 0, .int 1] [] S (c_X11_in l dC dI cI cJ cZ s.heap.size l3 0 1 r_23 hv_23) (va_cwS 3 hts gX11_chance_X11_in rfl rfl rfl (by decide +kernel) ⟨Nat.le_of_ble_eq_true rfl, Nat.le_of_ble_eq_true rfl⟩) hP hD hK hN [] rfl (by decide +kernel) rfl hl.1 rfl (Nat.le_of_ble_eq_true rfl) dX11_chance_23 ⟨Nat.le_of_ble_eq_true rfl, Nat.le_of_ble_eq_true rfl⟩) ?_
      refine lv_if_ne (tgt := 33) hx hb dX11_chance_26 (by decide) (fun k_26 => ?_) (fun k_26 => ?_)
      · have hf := ite_f hf k_26
        refine lv_aload_n hx hb dX11_chance_33 rfl (lv_at hl 0 rfl) ?_
        obtain ⟨c_door_34, c_wider_34, c_now_34, hv_34, hf⟩ := bd3_some hf
        refine kWv (rV (C := RX11) [] [] S (c_X11_plain l dC dI cI cJ cZ h_this h_this_book h_this_now h_this_width g_this_key h_this_wide h_this_delay g_this_ahead g_this_after g_this_sight g_this_pad g_this_counts g_this_isOne h_this_ways g_this_image g_this_isKept s.heap.size c_rules c_sights c_signs c_reason c_acts c_meetings c_clashes c_first c_where c_door c_wider c_ordersFound c_firstOrder c_least c_leastOrder c_book c_now c_door_34 c_wider_34 c_now_34 hv_34) (cwV 0 hts gX11_chance_X11_plain rfl rfl rfl (by decide +kernel) ⟨Nat.le_of_ble_eq_true rfl, Nat.le_of_ble_eq_true rfl⟩) (va_recv hK hP (ci := 11) (q0 := 0) rfl rfl) hP hD hK hN [0, 1, 2] rfl (by decide +kernel) rfl hl.1 rfl (Nat.le_of_ble_eq_true rfl) dX11_chance_34 ⟨Nat.le_of_ble_eq_true rfl, Nat.le_of_ble_eq_true rfl⟩) hP hD hS hA [0, 1, 2] rfl rfl [some 0, some 1, some 2, none, none, none, none] (by decide +kernel) rfl (fun H locs hP hD hS => ?_)
        have hP : va_P (dC, dI) vwCl (w_X11_chance cI cJ cZ h_this h_this_book h_this_now h_this_width h_this_wide h_this_delay h_this_ways g_this_key g_this_ahead g_this_after g_this_sight g_this_pad g_this_counts g_this_isOne g_this_image g_this_isKept c_rules c_sights c_signs c_reason c_acts c_meetings c_clashes c_first c_where c_door_34 c_wider_34 c_ordersFound c_firstOrder c_least c_leastOrder c_book c_now_34 c_width c_wide c_delay c_ways) H := hP
        have hD : va_D A (w_X11_chance cI cJ cZ h_this h_this_book h_this_now h_this_width h_this_wide h_this_delay h_this_ways g_this_key g_this_ahead g_this_after g_this_sight g_this_pad g_this_counts g_this_isOne g_this_image g_this_isKept c_rules c_sights c_signs c_reason c_acts c_meetings c_clashes c_first c_where c_door_34 c_wider_34 c_ordersFound c_firstOrder c_least c_leastOrder c_book c_now_34 c_width c_wide c_delay c_ways) := hD
        refine lv_aload_n hx hb dX11_chance_37 rfl (lv_at hl 0 rfl) ?_
        obtain ⟨c_meetings_38, c_clashes_38, c_first_38, c_where_38, hv_38, hf⟩ := bd4_some hf
        refine kWv (rV (C := RX11) [] [] S (c_X11_layMeetings l dC dI cI cJ cZ h_this h_this_now h_this_width h_this_wide h_this_delay h_this_book g_this_key g_this_ahead g_this_after g_this_sight g_this_pad g_this_counts g_this_isOne h_this_ways g_this_image g_this_isKept H.size c_rules c_sights c_signs c_reason c_acts c_meetings c_clashes c_first c_where c_door_34 c_wider_34 c_ordersFound c_firstOrder c_least c_leastOrder c_now_34 c_width c_wide c_delay c_meetings_38 c_clashes_38 c_first_38 c_where_38 hv_38) (cwV 0 hts gX11_chance_X11_layMeetings rfl rfl rfl (by decide +kernel) ⟨Nat.le_of_ble_eq_true rfl, Nat.le_of_ble_eq_true rfl⟩) (va_recv hK hP (ci := 11) (q0 := 0) rfl rfl) hP hD hK hN [0, 2, 3, 4, 5] rfl (by decide +kernel) rfl hl.1 rfl (Nat.le_of_ble_eq_true rfl) dX11_chance_38 ⟨Nat.le_of_ble_eq_true rfl, Nat.le_of_ble_eq_true rfl⟩) hP hD hS hA [0, 2, 3, 4, 5] rfl rfl [some 0, none, some 1, some 2, some 3, some 4, none] (by decide +kernel) rfl (fun H locs hP hD hS => ?_)
        have hP : va_P (dC, dI) vwCl (w_X11_chance cI cJ cZ h_this h_this_book h_this_now h_this_width h_this_wide h_this_delay h_this_ways g_this_key g_this_ahead g_this_after g_this_sight g_this_pad g_this_counts g_this_isOne g_this_image g_this_isKept c_rules c_sights c_signs c_reason c_acts c_meetings_38 c_clashes_38 c_first_38 c_where_38 c_door_34 c_wider_34 c_ordersFound c_firstOrder c_least c_leastOrder c_book c_now_34 c_width c_wide c_delay c_ways) H := hP
        have hD : va_D A (w_X11_chance cI cJ cZ h_this h_this_book h_this_now h_this_width h_this_wide h_this_delay h_this_ways g_this_key g_this_ahead g_this_after g_this_sight g_this_pad g_this_counts g_this_isOne g_this_image g_this_isKept c_rules c_sights c_signs c_reason c_acts c_meetings_38 c_clashes_38 c_first_38 c_where_38 c_door_34 c_wider_34 c_ordersFound c_firstOrder c_least c_leastOrder c_book c_now_34 c_width c_wide c_delay c_ways) := hD
        refine lv_aload_n hx hb dX11_chance_41 rfl (lv_at hl 0 rfl) ?_
        refine va_get (D := (dC, dI)) (ci := 11) (v := .int c_clashes_38) (C := RX11) (T := TX11) (N := 30) hx hb hts in_X11_chance_X11 hown hK hP 0 rfl rfl 16 (by decide) (hts _ m_X11_chance_f126) (fun _ h9 => h9) rfl dX11_chance_42 ?_
        refine lv_bipush (v := 12) hx hb dX11_chance_45 (by decide) ?_
        refine lv_icmp_le (tgt := 54) hx hb dX11_chance_47 (by decide) (fun k_47 => ?_) (fun k_47 => ?_)
        · have hf := ite_t hf k_47
          refine lv_lconst (v := 1) hx hb dX11_chance_54 (by decide) ?_
          refine lv_lstore (lv' := [(4, .long 1), (0, .ref h_this), (1, .int l1), (2, .int l2), (3, .int l3)]) hx hb dX11_chance_55 hl (by decide) rfl (fun ls hl => ?_)
          refine lv_iconst (v := 0) hx hb dX11_chance_57 (by decide) ?_
          refine lv_istore (lv' := [(6, .int 0), (4, .long 1), (0, .ref h_this), (1, .int l1), (2, .int l2), (3, .int l3)]) hx hb dX11_chance_58 hl (by decide) rfl (fun ls hl => ?_)
          obtain ⟨l6_60x, c_ways_60x, hq_60, hf⟩ := bd2_some hf
          have K_60 : ∀ (H : Heap) (locs : List Loc) (ls : Array Slot), va_P (dC, dI) vwCl (w_X11_chance cI cJ cZ h_this h_this_book h_this_now h_this_width h_this_wide h_this_delay h_this_ways g_this_key g_this_ahead g_this_after g_this_sight g_this_pad g_this_counts g_this_isOne g_this_image g_this_isKept c_rules c_sights c_signs c_reason c_acts c_meetings_38 c_clashes_38 c_first_38 c_where_38 c_door_34 c_wider_34 c_ordersFound c_firstOrder c_least c_leastOrder c_book c_now_34 c_width c_wide c_delay c_ways_60x) H → va_D A (w_X11_chance cI cJ cZ h_this h_this_book h_this_now h_this_width h_this_wide h_this_delay h_this_ways g_this_key g_this_ahead g_this_after g_this_sight g_this_pad g_this_counts g_this_isOne g_this_image g_this_isKept c_rules c_sights c_signs c_reason c_acts c_meetings_38 c_clashes_38 c_first_38 c_where_38 c_door_34 c_wider_34 c_ordersFound c_firstOrder c_least c_leastOrder c_book c_now_34 c_width c_wide c_delay c_ways_60x) → va_S A s.heap H locs → lv_has ls 14 [(0, .ref h_this), (1, .int l1), (2, .int l2), (3, .int l3), (4, .long 1)] → W p l e rm_X11_chance s m args below meth c H locs 0 0 Z (F0 m 90 ls []) := by
            intro H locs ls hP hD hS hl
            refine lv_iconst (v := 0) hx hb dX11_chance_90 (by decide) ?_
            refine lv_istore (lv' := [(6, .int 0), (0, .ref h_this), (1, .int l1), (2, .int l2), (3, .int l3), (4, .long 1)]) hx hb dX11_chance_91 hl (by decide) rfl (fun ls hl => ?_)
            obtain ⟨l4_93x, l6_93x, c_ways_93x, hq_93, hf⟩ := bd3_some hf
            have K_93 : ∀ (H : Heap) (locs : List Loc) (ls : Array Slot), va_P (dC, dI) vwCl (w_X11_chance cI cJ cZ h_this h_this_book h_this_now h_this_width h_this_wide h_this_delay h_this_ways g_this_key g_this_ahead g_this_after g_this_sight g_this_pad g_this_counts g_this_isOne g_this_image g_this_isKept c_rules c_sights c_signs c_reason c_acts c_meetings_38 c_clashes_38 c_first_38 c_where_38 c_door_34 c_wider_34 c_ordersFound c_firstOrder c_least c_leastOrder c_book c_now_34 c_width c_wide c_delay c_ways_93x) H → va_D A (w_X11_chance cI cJ cZ h_this h_this_book h_this_now h_this_width h_this_wide h_this_delay h_this_ways g_this_key g_this_ahead g_this_after g_this_sight g_this_pad g_this_counts g_this_isOne g_this_image g_this_isKept c_rules c_sights c_signs c_reason c_acts c_meetings_38 c_clashes_38 c_first_38 c_where_38 c_door_34 c_wider_34 c_ordersFound c_firstOrder c_least c_leastOrder c_book c_now_34 c_width c_wide c_delay c_ways_93x) → va_S A s.heap H locs → lv_has ls 14 [(0, .ref h_this), (2, .int l2), (3, .int l3), (4, .long l4_93x)] → W p l e rm_X11_chance s m args below meth c H locs 0 0 Z (F0 m 173 ls []) := by
              intro H locs ls hP hD hS hl
              refine lv_lconst (v := 0) hx hb dX11_chance_173 (by decide) ?_
              refine lv_lstore (lv' := [(6, .long 0), (0, .ref h_this), (2, .int l2), (3, .int l3), (4, .long l4_93x)]) hx hb dX11_chance_174 hl (by decide) rfl (fun ls hl => ?_)
              refine lv_iload_n hx hb dX11_chance_176 rfl (lv_at hl 2 rfl) ?_
              refine lv_istore (lv' := [(8, .int l2), (6, .long 0), (0, .ref h_this), (2, .int l2), (3, .int l3), (4, .long l4_93x)]) hx hb dX11_chance_177 hl (by decide) rfl (fun ls hl => ?_)
              obtain ⟨l6_179x, l8_179x, hq_179, hf⟩ := bd2_some hf
              have K_179 : ∀ (ls : Array Slot), lv_has ls 14 [(3, .int l3), (4, .long l4_93x), (6, .long l6_179x)] → W p l e rm_X11_chance s m args below meth c H locs 0 0 Z (F0 m 204 ls []) := by
                intro ls hl
                refine lv_lload hx hb dX11_chance_204 (lv_at hl 2 rfl) ?_
                refine lv_lstore (lv' := [(8, .long l6_179x), (3, .int l3), (4, .long l4_93x), (6, .long l6_179x)]) hx hb dX11_chance_206 hl (by decide) rfl (fun ls hl => ?_)
                refine lv_lload hx hb dX11_chance_208 (lv_at hl 2 rfl) ?_
                refine lv_lstore (lv' := [(10, .long l4_93x), (8, .long l6_179x), (3, .int l3), (4, .long l4_93x), (6, .long l6_179x)]) hx hb dX11_chance_210 hl (by decide) rfl (fun ls hl => ?_)
                obtain ⟨l8_212x, l10_212x, hq_212, hf⟩ := bd2_some hf
                have K_212 : ∀ (ls : Array Slot), lv_has ls 14 [(3, .int l3), (4, .long l4_93x), (6, .long l6_179x), (8, .long l8_212x)] → W p l e rm_X11_chance s m args below meth c H locs 0 0 Z (F0 m 237 ls []) := by
                  intro ls hl
                  refine lv_iload_n hx hb dX11_chance_237 rfl (lv_at hl 0 rfl) ?_
                  refine lv_if_ne (tgt := 249) hx hb dX11_chance_238 (by decide) (fun k_238 => ?_) (fun k_238 => ?_)
                  · have hf := ite_f hf k_238
                    refine lv_lload hx hb dX11_chance_249 (lv_at hl 1 rfl) ?_
                    refine lv_lload hx hb dX11_chance_251 (lv_at hl 3 rfl) ?_
                    obtain ⟨g_253, hf⟩ := nzl_some hf
                    refine lv_ldiv hx hb dX11_chance_253 g_253 ?_
                    have e_f := Option.some.inj hf
                    cases e_f
                    exact hret hP hD hS dX11_chance_254
                  · have hf := ite_t hf k_238
                    refine lv_lload hx hb dX11_chance_241 (lv_at hl 2 rfl) ?_
                    refine lv_lload hx hb dX11_chance_243 (lv_at hl 3 rfl) ?_
                    obtain ⟨g_245, hf⟩ := nzl_some hf
                    refine lv_ldiv hx hb dX11_chance_245 g_245 ?_
                    refine lv_goto (tgt := 254) hx hb dX11_chance_246 (by decide) ?_
                    have e_f := Option.some.inj hf
                    cases e_f
                    exact hret hP hD hS dX11_chance_254
                have L_212 : ∀ (n : Nat) (l8_212 : Int64) (l10_212 : Int64) (ls : Array Slot), lv_has ls 14 [(3, .int l3), (4, .long l4_93x), (6, .long l6_179x), (8, .long l8_212), (10, .long l10_212)] → loopN (fun (q : Int64 × Int64) => f_X11_chance_b212 q.1 q.2) n (l8_212, l10_212) = some (l8_212x, l10_212x) → W p l e rm_X11_chance s m args below meth c H locs 0 0 Z (F0 m 212 ls []) := by
                  intro n
                  induction n with
                  | zero => intro l8_212 l10_212 ls hl hq; exact (loopN_zero hq).elim
                  | succ n ih_212 =>
                    intro l8_212 l10_212 ls hl hq
                    obtain ⟨o_212, hf, ho1_212, ho2_212⟩ := loopN_step hq
                    have hf : f_X11_chance_b212 l8_212 l10_212 = some o_212 := hf
                    unfold f_X11_chance_b212 at hf
                    refine lv_lload hx hb dX11_chance_212 (lv_at hl 4 rfl) ?_
                    refine lv_lconst (v := 0) hx hb dX11_chance_214 (by decide) ?_
                    refine W.lcmp hx hb dX11_chance_215 ?_
                    refine lv_if_eq (tgt := 237) hx hb dX11_chance_216 (by decide) (fun k_216 => ?_) (fun k_216 => ?_)
                    · have hf := ite_t hf k_216
                      have e_212 := ho2_212 _ (Option.some.inj hf).symm
                      cases e_212
                      exact K_212 ls (lv_sub hl [0, 1, 2, 3] rfl)
                    · have hf := ite_f hf k_216
                      refine lv_lload hx hb dX11_chance_219 (lv_at hl 3 rfl) ?_
                      refine lv_lload hx hb dX11_chance_221 (lv_at hl 4 rfl) ?_
                      obtain ⟨g_223, hf⟩ := nzl_some hf
                      refine lv_lrem hx hb dX11_chance_223 g_223 ?_
                      refine lv_lstore (lv' := [(12, .long (l8_212 - (l8_212 / l10_212) * l10_212)), (3, .int l3), (4, .long l4_93x), (6, .long l6_179x), (8, .long l8_212), (10, .long l10_212)]) hx hb dX11_chance_224 hl (by decide) rfl (fun ls hl => ?_)
                      refine lv_lload hx hb dX11_chance_226 (lv_at hl 5 rfl) ?_
                      refine lv_lstore (lv' := [(8, .long l10_212), (12, .long (l8_212 - (l8_212 / l10_212) * l10_212)), (3, .int l3), (4, .long l4_93x), (6, .long l6_179x), (10, .long l10_212)]) hx hb dX11_chance_228 hl (by decide) rfl (fun ls hl => ?_)
                      refine lv_lload hx hb dX11_chance_230 (lv_at hl 1 rfl) ?_
                      refine lv_lstore (lv' := [(10, .long (l8_212 - (l8_212 / l10_212) * l10_212)), (8, .long l10_212), (12, .long (l8_212 - (l8_212 / l10_212) * l10_212)), (3, .int l3), (4, .long l4_93x), (6, .long l6_179x)]) hx hb dX11_chance_232 hl (by decide) rfl (fun ls hl => ?_)
                      refine lv_goto (tgt := 212) hx hb dX11_chance_234 (by decide) ?_
                      exact ih_212 l10_212 (l8_212 - (l8_212 / l10_212) * l10_212) ls (lv_sub hl [3, 4, 5, 1, 0] rfl) (ho1_212 _ (Option.some.inj hf).symm)
                exact L_212 FU l6_179x l4_93x ls (lv_sub hl [2, 3, 4, 1, 0] rfl) hq_212
              have L_179 : ∀ (n : Nat) (l6_179 : Int64) (l8_179 : Int32) (ls : Array Slot), lv_has ls 14 [(0, .ref h_this), (3, .int l3), (4, .long l4_93x), (6, .long l6_179), (8, .int l8_179)] → loopN (fun (q : Int64 × Int32) => f_X11_chance_b179 c_ways_93x q.1 q.2) n (l6_179, l8_179) = some (l6_179x, l8_179x) → W p l e rm_X11_chance s m args below meth c H locs 0 0 Z (F0 m 179 ls []) := by
                intro n
                induction n with
                | zero => intro l6_179 l8_179 ls hl hq; exact (loopN_zero hq).elim
                | succ n ih_179 =>
                  intro l6_179 l8_179 ls hl hq
                  obtain ⟨o_179, hf, ho1_179, ho2_179⟩ := loopN_step hq
                  have hf : f_X11_chance_b179 c_ways_93x l6_179 l8_179 = some o_179 := hf
                  unfold f_X11_chance_b179 at hf
                  refine lv_iload hx hb dX11_chance_179 (lv_at hl 4 rfl) ?_
                  refine lv_bipush (v := 13) hx hb dX11_chance_181 (by decide) ?_
                  refine lv_icmp_ge (tgt := 204) hx hb dX11_chance_183 (by decide) (fun k_183 => ?_) (fun k_183 => ?_)
                  · have hf := ite_t hf k_183
                    have e_179 := ho2_179 _ (Option.some.inj hf).symm
                    cases e_179
                    exact K_179 ls (lv_sub hl [1, 2, 3] rfl)
                  · have hf := ite_f hf k_183
                    refine lv_lload hx hb dX11_chance_186 (lv_at hl 3 rfl) ?_
                    refine lv_aload_n hx hb dX11_chance_188 rfl (lv_at hl 0 rfl) ?_
                    refine va_get (D := (dC, dI)) (ci := 11) (v := .ref h_this_ways) (C := RX11) (T := TX11) (N := 30) hx hb hts in_X11_chance_X11 hown hK hP 0 rfl rfl 27 (by decide) (hts _ m_X11_chance_f47) (fun _ h9 => h9) rfl dX11_chance_189 ?_
                    refine lv_iload hx hb dX11_chance_192 (lv_at hl 4 rfl) ?_
                    obtain ⟨g_194, hf⟩ := gd_some hf
                    refine va_lald hx hb hK hP 6 1 rfl rfl g_194 dX11_chance_194 ?_
                    refine lv_ladd hx hb dX11_chance_195 ?_
                    obtain ⟨l6_196s, e_l6_196s, hf⟩ := nmv_some hf
                    refine tpl e_l6_196s ?_
                    refine lv_lstore (lv' := [(6, .long l6_196s), (0, .ref h_this), (3, .int l3), (4, .long l4_93x), (8, .int l8_179)]) hx hb dX11_chance_196 hl (by decide) rfl (fun ls hl => ?_)
                    refine lv_iinc (v := (l8_179 + 1)) (lv' := [(8, .int (l8_179 + 1)), (6, .long l6_196s), (0, .ref h_this), (3, .int l3), (4, .long l4_93x)]) hx hb dX11_chance_198 hl (k := 4) rfl rfl (by decide) rfl (fun ls hl => ?_)
                    refine lv_goto (tgt := 179) hx hb dX11_chance_201 (by decide) ?_
                    exact ih_179 l6_196s (l8_179 + 1) ls (lv_sub hl [2, 3, 4, 1, 0] rfl) (ho1_179 _ (Option.some.inj hf).symm)
              exact L_179 FU 0 l2 ls (lv_sub hl [2, 4, 5, 1, 0] rfl) hq_179
            have L_93 : ∀ (n : Nat) (l4_93 : Int64) (l6_93 : Int32) (c_ways_93 : Nat → Int64) (H : Heap) (locs : List Loc) (ls : Array Slot), va_P (dC, dI) vwCl (w_X11_chance cI cJ cZ h_this h_this_book h_this_now h_this_width h_this_wide h_this_delay h_this_ways g_this_key g_this_ahead g_this_after g_this_sight g_this_pad g_this_counts g_this_isOne g_this_image g_this_isKept c_rules c_sights c_signs c_reason c_acts c_meetings_38 c_clashes_38 c_first_38 c_where_38 c_door_34 c_wider_34 c_ordersFound c_firstOrder c_least c_leastOrder c_book c_now_34 c_width c_wide c_delay c_ways_93) H → va_D A (w_X11_chance cI cJ cZ h_this h_this_book h_this_now h_this_width h_this_wide h_this_delay h_this_ways g_this_key g_this_ahead g_this_after g_this_sight g_this_pad g_this_counts g_this_isOne g_this_image g_this_isKept c_rules c_sights c_signs c_reason c_acts c_meetings_38 c_clashes_38 c_first_38 c_where_38 c_door_34 c_wider_34 c_ordersFound c_firstOrder c_least c_leastOrder c_book c_now_34 c_width c_wide c_delay c_ways_93) → va_S A s.heap H locs → lv_has ls 14 [(0, .ref h_this), (1, .int l1), (2, .int l2), (3, .int l3), (4, .long l4_93), (6, .int l6_93)] → loopN (fun (q : Int64 × Int32 × (Nat → Int64)) => f_X11_chance_b93 l1 c_clashes_38 q.1 q.2.1 q.2.2) n (l4_93, l6_93, c_ways_93) = some (l4_93x, l6_93x, c_ways_93x) → W p l e rm_X11_chance s m args below meth c H locs 0 0 Z (F0 m 93 ls []) := by
              intro n
              induction n with
              | zero => intro l4_93 l6_93 c_ways_93 H locs ls hP hD hS hl hq; exact (loopN_zero hq).elim
              | succ n ih_93 =>
                intro l4_93 l6_93 c_ways_93 H locs ls hP hD hS hl hq
                obtain ⟨o_93, hf, ho1_93, ho2_93⟩ := loopN_step hq
                have hf : f_X11_chance_b93 l1 c_clashes_38 l4_93 l6_93 c_ways_93 = some o_93 := hf
                unfold f_X11_chance_b93 at hf
                refine lv_iload hx hb dX11_chance_93 (lv_at hl 5 rfl) ?_
                refine lv_aload_n hx hb dX11_chance_95 rfl (lv_at hl 0 rfl) ?_
                refine va_get (D := (dC, dI)) (ci := 11) (v := .int c_clashes_38) (C := RX11) (T := TX11) (N := 30) hx hb hts in_X11_chance_X11 hown hK hP 0 rfl rfl 16 (by decide) (hts _ m_X11_chance_f126) (fun _ h9 => h9) rfl dX11_chance_96 ?_
                refine lv_icmp_ge (tgt := 173) hx hb dX11_chance_99 (by decide) (fun k_99 => ?_) (fun k_99 => ?_)
                · have hf := ite_t hf k_99
                  have e_93 := ho2_93 _ (Option.some.inj hf).symm
                  cases e_93
                  exact K_93 H locs ls hP hD hS (lv_sub hl [0, 2, 3, 4] rfl)
                · have hf := ite_f hf k_99
                  refine lv_bipush (v := 12) hx hb dX11_chance_102 (by decide) ?_
                  refine lv_istore (lv' := [(7, .int 12), (0, .ref h_this), (1, .int l1), (2, .int l2), (3, .int l3), (4, .long l4_93), (6, .int l6_93)]) hx hb dX11_chance_104 hl (by decide) rfl (fun ls hl => ?_)
                  obtain ⟨l7_106x, c_ways_106x, hq_106, hf⟩ := bd2_some hf
                  have K_106 : ∀ (H : Heap) (locs : List Loc) (ls : Array Slot), va_P (dC, dI) vwCl (w_X11_chance cI cJ cZ h_this h_this_book h_this_now h_this_width h_this_wide h_this_delay h_this_ways g_this_key g_this_ahead g_this_after g_this_sight g_this_pad g_this_counts g_this_isOne g_this_image g_this_isKept c_rules c_sights c_signs c_reason c_acts c_meetings_38 c_clashes_38 c_first_38 c_where_38 c_door_34 c_wider_34 c_ordersFound c_firstOrder c_least c_leastOrder c_book c_now_34 c_width c_wide c_delay c_ways_106x) H → va_D A (w_X11_chance cI cJ cZ h_this h_this_book h_this_now h_this_width h_this_wide h_this_delay h_this_ways g_this_key g_this_ahead g_this_after g_this_sight g_this_pad g_this_counts g_this_isOne g_this_image g_this_isKept c_rules c_sights c_signs c_reason c_acts c_meetings_38 c_clashes_38 c_first_38 c_where_38 c_door_34 c_wider_34 c_ordersFound c_firstOrder c_least c_leastOrder c_book c_now_34 c_width c_wide c_delay c_ways_106x) → va_S A s.heap H locs → lv_has ls 14 [(0, .ref h_this), (1, .int l1), (2, .int l2), (3, .int l3), (4, .long l4_93), (6, .int l6_93)] → W p l e rm_X11_chance s m args below meth c H locs 0 0 Z (F0 m 159 ls []) := by
                    intro H locs ls hP hD hS hl
                    refine lv_lload hx hb dX11_chance_159 (lv_at hl 4 rfl) ?_
                    refine lv_ldc2 (v := 10) hx hb hown (hts _ m_X11_chance_k191) dX11_chance_161 ?_
                    refine lv_lmul hx hb dX11_chance_164 ?_
                    refine lv_lstore (lv' := [(4, .long (l4_93 * 10)), (0, .ref h_this), (1, .int l1), (2, .int l2), (3, .int l3), (6, .int l6_93)]) hx hb dX11_chance_165 hl (by decide) rfl (fun ls hl => ?_)
                    refine lv_iinc (v := (l6_93 + 1)) (lv' := [(6, .int (l6_93 + 1)), (4, .long (l4_93 * 10)), (0, .ref h_this), (1, .int l1), (2, .int l2), (3, .int l3)]) hx hb dX11_chance_167 hl (k := 5) rfl rfl (by decide) rfl (fun ls hl => ?_)
                    refine lv_goto (tgt := 93) hx hb dX11_chance_170 (by decide) ?_
                    exact ih_93 (l4_93 * 10) (l6_93 + 1) c_ways_106x H locs ls hP hD hS (lv_sub hl [2, 3, 4, 5, 1, 0] rfl) (ho1_93 _ (Option.some.inj hf).symm)
                  have L_106 : ∀ (n : Nat) (l7_106 : Int32) (c_ways_106 : Nat → Int64) (H : Heap) (locs : List Loc) (ls : Array Slot), va_P (dC, dI) vwCl (w_X11_chance cI cJ cZ h_this h_this_book h_this_now h_this_width h_this_wide h_this_delay h_this_ways g_this_key g_this_ahead g_this_after g_this_sight g_this_pad g_this_counts g_this_isOne g_this_image g_this_isKept c_rules c_sights c_signs c_reason c_acts c_meetings_38 c_clashes_38 c_first_38 c_where_38 c_door_34 c_wider_34 c_ordersFound c_firstOrder c_least c_leastOrder c_book c_now_34 c_width c_wide c_delay c_ways_106) H → va_D A (w_X11_chance cI cJ cZ h_this h_this_book h_this_now h_this_width h_this_wide h_this_delay h_this_ways g_this_key g_this_ahead g_this_after g_this_sight g_this_pad g_this_counts g_this_isOne g_this_image g_this_isKept c_rules c_sights c_signs c_reason c_acts c_meetings_38 c_clashes_38 c_first_38 c_where_38 c_door_34 c_wider_34 c_ordersFound c_firstOrder c_least c_leastOrder c_book c_now_34 c_width c_wide c_delay c_ways_106) → va_S A s.heap H locs → lv_has ls 14 [(0, .ref h_this), (1, .int l1), (2, .int l2), (3, .int l3), (4, .long l4_93), (6, .int l6_93), (7, .int l7_106)] → loopN (fun (q : Int32 × (Nat → Int64)) => f_X11_chance_b106 l1 q.1 q.2) n (l7_106, c_ways_106) = some (l7_106x, c_ways_106x) → W p l e rm_X11_chance s m args below meth c H locs 0 0 Z (F0 m 106 ls []) := by
                    intro n
                    induction n with
                    | zero => intro l7_106 c_ways_106 H locs ls hP hD hS hl hq; exact (loopN_zero hq).elim
                    | succ n ih_106 =>
                      intro l7_106 c_ways_106 H locs ls hP hD hS hl hq
                      obtain ⟨o_106, hf, ho1_106, ho2_106⟩ := loopN_step hq
                      have hf : f_X11_chance_b106 l1 l7_106 c_ways_106 = some o_106 := hf
                      unfold f_X11_chance_b106 at hf
                      have J_151 : ∀ (l7_151j : Int32) (s1_151j : Int32) (s2_151j : Int64) (s3_151j : Int64) (c_ways_151j : Nat → Int64) (H : Heap) (locs : List Loc) (ls : Array Slot), va_P (dC, dI) vwCl (w_X11_chance cI cJ cZ h_this h_this_book h_this_now h_this_width h_this_wide h_this_delay h_this_ways g_this_key g_this_ahead g_this_after g_this_sight g_this_pad g_this_counts g_this_isOne g_this_image g_this_isKept c_rules c_sights c_signs c_reason c_acts c_meetings_38 c_clashes_38 c_first_38 c_where_38 c_door_34 c_wider_34 c_ordersFound c_firstOrder c_least c_leastOrder c_book c_now_34 c_width c_wide c_delay c_ways_151j) H → va_D A (w_X11_chance cI cJ cZ h_this h_this_book h_this_now h_this_width h_this_wide h_this_delay h_this_ways g_this_key g_this_ahead g_this_after g_this_sight g_this_pad g_this_counts g_this_isOne g_this_image g_this_isKept c_rules c_sights c_signs c_reason c_acts c_meetings_38 c_clashes_38 c_first_38 c_where_38 c_door_34 c_wider_34 c_ordersFound c_firstOrder c_least c_leastOrder c_book c_now_34 c_width c_wide c_delay c_ways_151j) → va_S A s.heap H locs → lv_has ls 14 [(0, .ref h_this), (1, .int l1), (2, .int l2), (3, .int l3), (4, .long l4_93), (6, .int l6_93), (7, .int l7_151j)] → f_X11_chance_j151 l7_151j c_ways_151j s1_151j s2_151j s3_151j = some o_106 → W p l e rm_X11_chance s m args below meth c H locs 0 0 Z (F0 m 151 ls [.long s3_151j, .long s2_151j, .int s1_151j, .ref h_this_ways]) := by
                        intro l7_151j s1_151j s2_151j s3_151j c_ways_151j H locs ls hP hD hS hl hf
                        unfold f_X11_chance_j151 at hf
                        refine lv_ladd hx hb dX11_chance_151 ?_
                        obtain ⟨g_152, hf⟩ := gd_some hf
                        refine va_last hx hb hK hP hD hS 6 1 rfl rfl g_152 dX11_chance_152 (fun H locs hP hD hS => ?_)
                        have hP : va_P (dC, dI) vwCl (w_X11_chance cI cJ cZ h_this h_this_book h_this_now h_this_width h_this_wide h_this_delay h_this_ways g_this_key g_this_ahead g_this_after g_this_sight g_this_pad g_this_counts g_this_isOne g_this_image g_this_isKept c_rules c_sights c_signs c_reason c_acts c_meetings_38 c_clashes_38 c_first_38 c_where_38 c_door_34 c_wider_34 c_ordersFound c_firstOrder c_least c_leastOrder c_book c_now_34 c_width c_wide c_delay (vp_updL c_ways_151j (Int32.toNatClampNeg s1_151j) (s2_151j + s3_151j))) H := hP
                        have hD : va_D A (w_X11_chance cI cJ cZ h_this h_this_book h_this_now h_this_width h_this_wide h_this_delay h_this_ways g_this_key g_this_ahead g_this_after g_this_sight g_this_pad g_this_counts g_this_isOne g_this_image g_this_isKept c_rules c_sights c_signs c_reason c_acts c_meetings_38 c_clashes_38 c_first_38 c_where_38 c_door_34 c_wider_34 c_ordersFound c_firstOrder c_least c_leastOrder c_book c_now_34 c_width c_wide c_delay (vp_updL c_ways_151j (Int32.toNatClampNeg s1_151j) (s2_151j + s3_151j))) := hD
                        refine lv_iinc (v := (l7_151j + (-1))) (lv' := [(7, .int (l7_151j + (-1))), (0, .ref h_this), (1, .int l1), (2, .int l2), (3, .int l3), (4, .long l4_93), (6, .int l6_93)]) hx hb dX11_chance_153 hl (k := 6) rfl rfl (by decide) rfl (fun ls hl => ?_)
                        refine lv_goto (tgt := 106) hx hb dX11_chance_156 (by decide) ?_
                        exact ih_106 (l7_151j + (-1)) (vp_updL c_ways_151j (Int32.toNatClampNeg s1_151j) (s2_151j + s3_151j)) H locs ls hP hD hS (lv_sub hl [1, 2, 3, 4, 5, 6, 0] rfl) (ho1_106 _ (Option.some.inj hf).symm)
                      refine lv_iload hx hb dX11_chance_106 (lv_at hl 6 rfl) ?_
                      refine lv_if_lt (tgt := 159) hx hb dX11_chance_108 (by decide) (fun k_108 => ?_) (fun k_108 => ?_)
                      · have hf := ite_t hf k_108
                        have e_106 := ho2_106 _ (Option.some.inj hf).symm
                        cases e_106
                        exact K_106 H locs ls hP hD hS (lv_sub hl [0, 1, 2, 3, 4, 5] rfl)
                      · have hf := ite_f hf k_108
                        refine lv_aload_n hx hb dX11_chance_111 rfl (lv_at hl 0 rfl) ?_
                        refine va_get (D := (dC, dI)) (ci := 11) (v := .ref h_this_ways) (C := RX11) (T := TX11) (N := 30) hx hb hts in_X11_chance_X11 hown hK hP 0 rfl rfl 27 (by decide) (hts _ m_X11_chance_f47) (fun _ h9 => h9) rfl dX11_chance_112 ?_
                        refine lv_iload hx hb dX11_chance_115 (lv_at hl 6 rfl) ?_
                        refine lv_aload_n hx hb dX11_chance_117 rfl (lv_at hl 0 rfl) ?_
                        refine va_get (D := (dC, dI)) (ci := 11) (v := .ref h_this_ways) (C := RX11) (T := TX11) (N := 30) hx hb hts in_X11_chance_X11 hown hK hP 0 rfl rfl 27 (by decide) (hts _ m_X11_chance_f47) (fun _ h9 => h9) rfl dX11_chance_118 ?_
                        refine lv_iload hx hb dX11_chance_121 (lv_at hl 6 rfl) ?_
                        obtain ⟨g_123, hf⟩ := gd_some hf
                        refine va_lald hx hb hK hP 6 1 rfl rfl g_123 dX11_chance_123 ?_
                        refine lv_iload_n hx hb dX11_chance_124 rfl (lv_at hl 1 rfl) ?_
                        refine lv_i2l hx hb dX11_chance_125 rfl ?_
                        refine lv_lmul hx hb dX11_chance_126 ?_
                        refine lv_iload hx hb dX11_chance_127 (lv_at hl 6 rfl) ?_
                        refine lv_if_le (tgt := 150) hx hb dX11_chance_129 (by decide) (fun k_129 => ?_) (fun k_129 => ?_)
                        · have hf := ite_t hf k_129
                          refine lv_lconst (v := 0) hx hb dX11_chance_150 (by decide) ?_
                          exact J_151 l7_106 l7_106 ((c_ways_106 (Int32.toNatClampNeg l7_106)) * (Int32.toInt64 l1)) 0 c_ways_106 H locs ls hP hD hS (lv_sub hl [0, 1, 2, 3, 4, 5, 6] rfl) hf
                        · have hf := ite_f hf k_129
                          refine lv_aload_n hx hb dX11_chance_132 rfl (lv_at hl 0 rfl) ?_
                          refine va_get (D := (dC, dI)) (ci := 11) (v := .ref h_this_ways) (C := RX11) (T := TX11) (N := 30) hx hb hts in_X11_chance_X11 hown hK hP 0 rfl rfl 27 (by decide) (hts _ m_X11_chance_f47) (fun _ h9 => h9) rfl dX11_chance_133 ?_
                          refine lv_iload hx hb dX11_chance_136 (lv_at hl 6 rfl) ?_
                          refine lv_iconst (v := 1) hx hb dX11_chance_138 (by decide) ?_
                          refine lv_isub hx hb dX11_chance_139 ?_
                          obtain ⟨g_140, hf⟩ := gd_some hf
                          refine va_lald hx hb hK hP 6 1 rfl rfl g_140 dX11_chance_140 ?_
                          refine lv_bipush (v := 10) hx hb dX11_chance_141 (by decide) ?_
                          refine lv_iload_n hx hb dX11_chance_143 rfl (lv_at hl 1 rfl) ?_
                          refine lv_isub hx hb dX11_chance_144 ?_
                          refine lv_i2l hx hb dX11_chance_145 rfl ?_
                          refine lv_lmul hx hb dX11_chance_146 ?_
                          refine lv_goto (tgt := 151) hx hb dX11_chance_147 (by decide) ?_
                          exact J_151 l7_106 l7_106 ((c_ways_106 (Int32.toNatClampNeg l7_106)) * (Int32.toInt64 l1)) ((c_ways_106 (Int32.toNatClampNeg (l7_106 - 1))) * (Int32.toInt64 (10 - l1))) c_ways_106 H locs ls hP hD hS (lv_sub hl [0, 1, 2, 3, 4, 5, 6] rfl) hf
                  exact L_106 FU 12 c_ways_93 H locs ls hP hD hS (lv_sub hl [1, 2, 3, 4, 5, 6, 0] rfl) hq_106
            exact L_93 FU 1 0 c_ways_60x H locs ls hP hD hS (lv_sub hl [1, 2, 3, 4, 5, 0] rfl) hq_93
          have L_60 : ∀ (n : Nat) (l6_60 : Int32) (c_ways_60 : Nat → Int64) (H : Heap) (locs : List Loc) (ls : Array Slot), va_P (dC, dI) vwCl (w_X11_chance cI cJ cZ h_this h_this_book h_this_now h_this_width h_this_wide h_this_delay h_this_ways g_this_key g_this_ahead g_this_after g_this_sight g_this_pad g_this_counts g_this_isOne g_this_image g_this_isKept c_rules c_sights c_signs c_reason c_acts c_meetings_38 c_clashes_38 c_first_38 c_where_38 c_door_34 c_wider_34 c_ordersFound c_firstOrder c_least c_leastOrder c_book c_now_34 c_width c_wide c_delay c_ways_60) H → va_D A (w_X11_chance cI cJ cZ h_this h_this_book h_this_now h_this_width h_this_wide h_this_delay h_this_ways g_this_key g_this_ahead g_this_after g_this_sight g_this_pad g_this_counts g_this_isOne g_this_image g_this_isKept c_rules c_sights c_signs c_reason c_acts c_meetings_38 c_clashes_38 c_first_38 c_where_38 c_door_34 c_wider_34 c_ordersFound c_firstOrder c_least c_leastOrder c_book c_now_34 c_width c_wide c_delay c_ways_60) → va_S A s.heap H locs → lv_has ls 14 [(0, .ref h_this), (1, .int l1), (2, .int l2), (3, .int l3), (4, .long 1), (6, .int l6_60)] → loopN (fun (q : Int32 × (Nat → Int64)) => f_X11_chance_b60 q.1 q.2) n (l6_60, c_ways_60) = some (l6_60x, c_ways_60x) → W p l e rm_X11_chance s m args below meth c H locs 0 0 Z (F0 m 60 ls []) := by
            intro n
            induction n with
            | zero => intro l6_60 c_ways_60 H locs ls hP hD hS hl hq; exact (loopN_zero hq).elim
            | succ n ih_60 =>
              intro l6_60 c_ways_60 H locs ls hP hD hS hl hq
              obtain ⟨o_60, hf, ho1_60, ho2_60⟩ := loopN_step hq
              have hf : f_X11_chance_b60 l6_60 c_ways_60 = some o_60 := hf
              unfold f_X11_chance_b60 at hf
              have J_83 : ∀ (l6_83j : Int32) (s1_83j : Int32) (s2_83j : Int64) (c_ways_83j : Nat → Int64) (H : Heap) (locs : List Loc) (ls : Array Slot), va_P (dC, dI) vwCl (w_X11_chance cI cJ cZ h_this h_this_book h_this_now h_this_width h_this_wide h_this_delay h_this_ways g_this_key g_this_ahead g_this_after g_this_sight g_this_pad g_this_counts g_this_isOne g_this_image g_this_isKept c_rules c_sights c_signs c_reason c_acts c_meetings_38 c_clashes_38 c_first_38 c_where_38 c_door_34 c_wider_34 c_ordersFound c_firstOrder c_least c_leastOrder c_book c_now_34 c_width c_wide c_delay c_ways_83j) H → va_D A (w_X11_chance cI cJ cZ h_this h_this_book h_this_now h_this_width h_this_wide h_this_delay h_this_ways g_this_key g_this_ahead g_this_after g_this_sight g_this_pad g_this_counts g_this_isOne g_this_image g_this_isKept c_rules c_sights c_signs c_reason c_acts c_meetings_38 c_clashes_38 c_first_38 c_where_38 c_door_34 c_wider_34 c_ordersFound c_firstOrder c_least c_leastOrder c_book c_now_34 c_width c_wide c_delay c_ways_83j) → va_S A s.heap H locs → lv_has ls 14 [(0, .ref h_this), (1, .int l1), (2, .int l2), (3, .int l3), (4, .long 1), (6, .int l6_83j)] → f_X11_chance_j83 l6_83j c_ways_83j s1_83j s2_83j = some o_60 → W p l e rm_X11_chance s m args below meth c H locs 0 0 Z (F0 m 83 ls [.long s2_83j, .int s1_83j, .ref h_this_ways]) := by
                intro l6_83j s1_83j s2_83j c_ways_83j H locs ls hP hD hS hl hf
                unfold f_X11_chance_j83 at hf
                obtain ⟨g_83, hf⟩ := gd_some hf
                refine va_last hx hb hK hP hD hS 6 1 rfl rfl g_83 dX11_chance_83 (fun H locs hP hD hS => ?_)
                have hP : va_P (dC, dI) vwCl (w_X11_chance cI cJ cZ h_this h_this_book h_this_now h_this_width h_this_wide h_this_delay h_this_ways g_this_key g_this_ahead g_this_after g_this_sight g_this_pad g_this_counts g_this_isOne g_this_image g_this_isKept c_rules c_sights c_signs c_reason c_acts c_meetings_38 c_clashes_38 c_first_38 c_where_38 c_door_34 c_wider_34 c_ordersFound c_firstOrder c_least c_leastOrder c_book c_now_34 c_width c_wide c_delay (vp_updL c_ways_83j (Int32.toNatClampNeg s1_83j) s2_83j)) H := hP
                have hD : va_D A (w_X11_chance cI cJ cZ h_this h_this_book h_this_now h_this_width h_this_wide h_this_delay h_this_ways g_this_key g_this_ahead g_this_after g_this_sight g_this_pad g_this_counts g_this_isOne g_this_image g_this_isKept c_rules c_sights c_signs c_reason c_acts c_meetings_38 c_clashes_38 c_first_38 c_where_38 c_door_34 c_wider_34 c_ordersFound c_firstOrder c_least c_leastOrder c_book c_now_34 c_width c_wide c_delay (vp_updL c_ways_83j (Int32.toNatClampNeg s1_83j) s2_83j)) := hD
                refine lv_iinc (v := (l6_83j + 1)) (lv' := [(6, .int (l6_83j + 1)), (0, .ref h_this), (1, .int l1), (2, .int l2), (3, .int l3), (4, .long 1)]) hx hb dX11_chance_84 hl (k := 5) rfl rfl (by decide) rfl (fun ls hl => ?_)
                refine lv_goto (tgt := 60) hx hb dX11_chance_87 (by decide) ?_
                exact ih_60 (l6_83j + 1) (vp_updL c_ways_83j (Int32.toNatClampNeg s1_83j) s2_83j) H locs ls hP hD hS (lv_sub hl [1, 2, 3, 4, 5, 0] rfl) (ho1_60 _ (Option.some.inj hf).symm)
              refine lv_iload hx hb dX11_chance_60 (lv_at hl 5 rfl) ?_
              refine lv_bipush (v := 14) hx hb dX11_chance_62 (by decide) ?_
              refine lv_icmp_ge (tgt := 90) hx hb dX11_chance_64 (by decide) (fun k_64 => ?_) (fun k_64 => ?_)
              · have hf := ite_t hf k_64
                have e_60 := ho2_60 _ (Option.some.inj hf).symm
                cases e_60
                exact K_60 H locs ls hP hD hS (lv_sub hl [0, 1, 2, 3, 4] rfl)
              · have hf := ite_f hf k_64
                refine lv_aload_n hx hb dX11_chance_67 rfl (lv_at hl 0 rfl) ?_
                refine va_get (D := (dC, dI)) (ci := 11) (v := .ref h_this_ways) (C := RX11) (T := TX11) (N := 30) hx hb hts in_X11_chance_X11 hown hK hP 0 rfl rfl 27 (by decide) (hts _ m_X11_chance_f47) (fun _ h9 => h9) rfl dX11_chance_68 ?_
                refine lv_iload hx hb dX11_chance_71 (lv_at hl 5 rfl) ?_
                refine lv_iload hx hb dX11_chance_73 (lv_at hl 5 rfl) ?_
                refine lv_if_ne (tgt := 82) hx hb dX11_chance_75 (by decide) (fun k_75 => ?_) (fun k_75 => ?_)
                · have hf := ite_f hf k_75
                  refine lv_lconst (v := 0) hx hb dX11_chance_82 (by decide) ?_
                  exact J_83 l6_60 l6_60 0 c_ways_60 H locs ls hP hD hS (lv_sub hl [0, 1, 2, 3, 4, 5] rfl) hf
                · have hf := ite_t hf k_75
                  refine lv_lconst (v := 1) hx hb dX11_chance_78 (by decide) ?_
                  refine lv_goto (tgt := 83) hx hb dX11_chance_79 (by decide) ?_
                  exact J_83 l6_60 l6_60 1 c_ways_60 H locs ls hP hD hS (lv_sub hl [0, 1, 2, 3, 4, 5] rfl) hf
          exact L_60 FU 0 c_ways H locs ls hP hD hS (lv_sub hl [2, 3, 4, 5, 1, 0] rfl) hq_60
        · have hf := ite_f hf k_47
          refine lv_ldc2 (v := (-1000000000000000003)) hx hb hown (hts _ m_X11_chance_k189) dX11_chance_50 ?_
          have e_f := Option.some.inj hf
          cases e_f
          exact hret hP hD hS dX11_chance_53
      · have hf := ite_t hf k_26
        refine lv_ldc2 (v := (-1000000000000000002)) hx hb hown (hts _ m_X11_chance_k187) dX11_chance_29 ?_
        have e_f := Option.some.inj hf
        cases e_f
        exact hret hP hD hS dX11_chance_32
abbrev w_X11_year (cI cJ cZ : ClassId) (h_this h_this_book h_this_now h_this_width h_this_wide h_this_delay g_this_key g_this_ahead g_this_after g_this_sight g_this_pad g_this_counts g_this_isOne g_this_ways g_this_image g_this_isKept : Nat) (c_rules : Int32) (c_sights : Int32) (c_signs : Int32) (c_reason : Int32) (c_acts : Int32) (c_meetings : Int32) (c_clashes : Int32) (c_first : Int32) (c_where : Int32) (c_door : Int32) (c_wider : Int32) (c_ordersFound : Int32) (c_firstOrder : Int32) (c_least : Int32) (c_leastOrder : Int32) (c_book : Nat → Int32) (c_now : Nat → Int32) (c_width : Nat → Int32) (c_wide : Nat → Int32) (c_delay : Nat → Int32) : va_W := [(h_this, .inr (11, [.ref h_this_book, .ref h_this_now, .ref h_this_width, .ref g_this_key, .ref h_this_wide, .ref h_this_delay, .int c_rules, .ref g_this_ahead, .ref g_this_after, .int c_sights, .ref g_this_sight, .int c_signs, .ref g_this_pad, .int c_reason, .int c_acts, .int c_meetings, .int c_clashes, .int c_first, .int c_where, .int c_door, .int c_wider, .int c_ordersFound, .int c_firstOrder, .int c_least, .int c_leastOrder, .ref g_this_counts, .ref g_this_isOne, .ref g_this_ways, .ref g_this_image, .ref g_this_isKept])), (h_this_book, .inl (cI, 15, .inl c_book)), (h_this_now, .inl (cI, 15, .inl c_now)), (h_this_width, .inl (cI, 10, .inl c_width)), (h_this_wide, .inl (cI, 17, .inl c_wide)), (h_this_delay, .inl (cI, 2, .inl c_delay))]
abbrev rm_X11_year : Room := { frames := 3, cells := 0, slots := 0, locals := 69 }
theorem m_X11_year_k193 : (.constant RX11 193 (65537) : Cond) ∈ wsX11_year := by decide +kernel
theorem m_X11_year_f13 : (.fieldLink RX11 13 "WovenRowsModel" "now" "[I" : Cond) ∈ wsX11_year := by decide +kernel
theorem in_X11_year_X11 : ∀ w ∈ u_ws RX11 TX11 30, w ∈ wsX11_year := by decide +kernel
theorem m_X11_year_f126 : (.fieldLink RX11 126 "WovenRowsModel" "clashes" "I" : Cond) ∈ wsX11_year := by decide +kernel
set_option maxRecDepth 100000 in
set_option maxHeartbeats 4000000 in
theorem c_X11_year (l : Launch) (dC : Nat → ClassId) (dI : Nat → Nat → Nat) (cI cJ cZ : ClassId) (h_this h_this_book h_this_now h_this_width h_this_wide h_this_delay g_this_key g_this_ahead g_this_after g_this_sight g_this_pad g_this_counts g_this_isOne g_this_ways g_this_image g_this_isKept : Nat) (sz : Nat) (c_rules : Int32) (c_sights : Int32) (c_signs : Int32) (c_reason : Int32) (c_acts : Int32) (c_meetings : Int32) (c_clashes : Int32) (c_first : Int32) (c_where : Int32) (c_door : Int32) (c_wider : Int32) (c_ordersFound : Int32) (c_firstOrder : Int32) (c_least : Int32) (c_leastOrder : Int32) (c_book : Nat → Int32) (c_now : Nat → Int32) (c_width : Nat → Int32) (c_wide : Nat → Int32) (c_delay : Nat → Int32) (l1 : Int32) (l2 : Int32) (l3 : Int32) (r : Int32) (z_meetings : Int32) (z_clashes : Int32) (z_first : Int32) (z_where : Int32) (z_door : Int32) (z_wider : Int32) (z_now : Nat → Int32) (hf : f_X11_year c_meetings c_clashes c_first c_where c_door c_wider c_book c_now c_width c_wide c_delay l1 l2 l3 = some (r, z_meetings, z_clashes, z_first, z_where, z_door, z_wider, z_now)) : Met l yX11_year wsX11_year rm_X11_year (va_Pc [.ref h_this, .int l1, .int l2, .int l3] (PRE (dC, dI) (TY cI cJ cZ) sz (w_X11_year cI cJ cZ h_this h_this_book h_this_now h_this_width h_this_wide h_this_delay g_this_key g_this_ahead g_this_after g_this_sight g_this_pad g_this_counts g_this_isOne g_this_ways g_this_image g_this_isKept c_rules c_sights c_signs c_reason c_acts c_meetings c_clashes c_first c_where c_door c_wider c_ordersFound c_firstOrder c_least c_leastOrder c_book c_now c_width c_wide c_delay))) (va_Qi (fun r' (_ : Unit) => r' = r) (POW (dC, dI) (va_A (w_X11_year cI cJ cZ h_this h_this_book h_this_now h_this_width h_this_wide h_this_delay g_this_key g_this_ahead g_this_after g_this_sight g_this_pad g_this_counts g_this_isOne g_this_ways g_this_image g_this_isKept c_rules c_sights c_signs c_reason c_acts c_meetings c_clashes c_first c_where c_door c_wider c_ordersFound c_firstOrder c_least c_leastOrder c_book c_now c_width c_wide c_delay) sz) (w_X11_year cI cJ cZ h_this h_this_book h_this_now h_this_width h_this_wide h_this_delay g_this_key g_this_ahead g_this_after g_this_sight g_this_pad g_this_counts g_this_isOne g_this_ways g_this_image g_this_isKept c_rules c_sights c_signs c_reason c_acts z_meetings z_clashes z_first z_where z_door z_wider c_ordersFound c_firstOrder c_least c_leastOrder c_book z_now c_width c_wide c_delay)) (va_A (w_X11_year cI cJ cZ h_this h_this_book h_this_now h_this_width h_this_wide h_this_delay g_this_key g_this_ahead g_this_after g_this_sight g_this_pad g_this_counts g_this_isOne g_this_ways g_this_image g_this_isKept c_rules c_sights c_signs c_reason c_acts c_meetings c_clashes c_first c_where c_door c_wider c_ordersFound c_firstOrder c_least c_leastOrder c_book c_now c_width c_wide c_delay) sz)) 0 0 (va_A (w_X11_year cI cJ cZ h_this h_this_book h_this_now h_this_width h_this_wide h_this_delay g_this_key g_this_ahead g_this_after g_this_sight g_this_pad g_this_counts g_this_isOne g_this_ways g_this_image g_this_isKept c_rules c_sights c_signs c_reason c_acts c_meetings c_clashes c_first c_where c_door c_wider c_ordersFound c_firstOrder c_least c_leastOrder c_book c_now c_width c_wide c_delay) sz) := by
  refine ofWi (ty := .int) (by decide +kernel) rfl (Nat.le_of_ble_eq_true rfl) ?_
  intro p e s m args below meth c Z A ls S hP hD hK hN hA hl hret
  obtain ⟨hx, hb, hml, hown, hts⟩ := id S
  have hown : s.vm.findClass RX11 = some m.cls := hown
  have hS : va_S A s.heap s.heap [] := va_S.rf
  have hl : lv_has ls 8 [(0, .ref h_this), (1, .int l1), (2, .int l2), (3, .int l3)] := hl
  unfold f_X11_year at hf
  refine lv_iload_n hx hb dX11_year_0 rfl (lv_at hl 1 rfl) ?_
  refine lv_iconst (v := 0) hx hb dX11_year_1 (by decide) ?_
  refine lv_sipush (v := 9999) hx hb dX11_year_2 (by decide) ?_
  obtain ⟨r_5, hv_5, hf⟩ := bd1_some hf
  refine kSi (rS [.int l1, .int 0, .int 9999] [] S (c_X11_in l dC dI cI cJ cZ s.heap.size l1 0 9999 r_5 hv_5) (va_cwS 3 hts gX11_year_X11_in rfl rfl rfl (by decide +kernel) ⟨Nat.le_of_ble_eq_true rfl, Nat.le_of_ble_eq_true rfl⟩) hP hD hK hN [] rfl (by decide +kernel) rfl hl.1 rfl (Nat.le_of_ble_eq_true rfl) dX11_year_5 ⟨Nat.le_of_ble_eq_true rfl, Nat.le_of_ble_eq_true rfl⟩) ?_
  refine lv_if_eq (tgt := 30) hx hb dX11_year_8 (by decide) (fun k_8 => ?_) (fun k_8 => ?_)
  · have hf := ite_t hf k_8
    refine lv_bipush (v := (-2)) hx hb dX11_year_30 (by decide) ?_
    have e_f := Option.some.inj hf
    cases e_f
    exact hret rfl hP hD hS dX11_year_32
  · have hf := ite_f hf k_8
    refine lv_iload_n hx hb dX11_year_11 rfl (lv_at hl 2 rfl) ?_
    refine lv_iconst (v := 1) hx hb dX11_year_12 (by decide) ?_
    refine lv_bipush (v := 99) hx hb dX11_year_13 (by decide) ?_
    obtain ⟨r_15, hv_15, hf⟩ := bd1_some hf
    refine kSi (rS [.int l2, .int 1, .int 99] [] S (c_X11_in l dC dI cI cJ cZ s.heap.size l2 1 99 r_15 hv_15) (va_cwS 3 hts gX11_year_X11_in rfl rfl rfl (by decide +kernel) ⟨Nat.le_of_ble_eq_true rfl, Nat.le_of_ble_eq_true rfl⟩) hP hD hK hN [] rfl (by decide +kernel) rfl hl.1 rfl (Nat.le_of_ble_eq_true rfl) dX11_year_15 ⟨Nat.le_of_ble_eq_true rfl, Nat.le_of_ble_eq_true rfl⟩) ?_
    refine lv_if_eq (tgt := 30) hx hb dX11_year_18 (by decide) (fun k_18 => ?_) (fun k_18 => ?_)
    · have hf := ite_t hf k_18
      refine lv_bipush (v := (-2)) hx hb dX11_year_30 (by decide) ?_
      have e_f := Option.some.inj hf
      cases e_f
      exact hret rfl hP hD hS dX11_year_32
    · have hf := ite_f hf k_18
      refine lv_iload_n hx hb dX11_year_21 rfl (lv_at hl 3 rfl) ?_
      refine lv_iconst (v := 0) hx hb dX11_year_22 (by decide) ?_
      refine lv_iconst (v := 2) hx hb dX11_year_23 (by decide) ?_
      obtain ⟨r_24, hv_24, hf⟩ := bd1_some hf
      refine kSi (rS [.int l3, .int 0, .int 2] [] S (c_X11_in l dC dI cI cJ cZ s.heap.size l3 0 2 r_24 hv_24) (va_cwS 3 hts gX11_year_X11_in rfl rfl rfl (by decide +kernel) ⟨Nat.le_of_ble_eq_true rfl, Nat.le_of_ble_eq_true rfl⟩) hP hD hK hN [] rfl (by decide +kernel) rfl hl.1 rfl (Nat.le_of_ble_eq_true rfl) dX11_year_24 ⟨Nat.le_of_ble_eq_true rfl, Nat.le_of_ble_eq_true rfl⟩) ?_
      refine lv_if_ne (tgt := 33) hx hb dX11_year_27 (by decide) (fun k_27 => ?_) (fun k_27 => ?_)
      · have hf := ite_f hf k_27
        refine lv_aload_n hx hb dX11_year_33 rfl (lv_at hl 0 rfl) ?_
        obtain ⟨c_door_34, c_wider_34, c_now_34, hv_34, hf⟩ := bd3_some hf
        refine kWv (rV (C := RX11) [] [] S (c_X11_plain l dC dI cI cJ cZ h_this h_this_book h_this_now h_this_width g_this_key h_this_wide h_this_delay g_this_ahead g_this_after g_this_sight g_this_pad g_this_counts g_this_isOne g_this_ways g_this_image g_this_isKept s.heap.size c_rules c_sights c_signs c_reason c_acts c_meetings c_clashes c_first c_where c_door c_wider c_ordersFound c_firstOrder c_least c_leastOrder c_book c_now c_door_34 c_wider_34 c_now_34 hv_34) (cwV 0 hts gX11_year_X11_plain rfl rfl rfl (by decide +kernel) ⟨Nat.le_of_ble_eq_true rfl, Nat.le_of_ble_eq_true rfl⟩) (va_recv hK hP (ci := 11) (q0 := 0) rfl rfl) hP hD hK hN [0, 1, 2] rfl (by decide +kernel) rfl hl.1 rfl (Nat.le_of_ble_eq_true rfl) dX11_year_34 ⟨Nat.le_of_ble_eq_true rfl, Nat.le_of_ble_eq_true rfl⟩) hP hD hS hA [0, 1, 2] rfl rfl [some 0, some 1, some 2, none, none, none] (by decide +kernel) rfl (fun H locs hP hD hS => ?_)
        have hP : va_P (dC, dI) vwCl (w_X11_year cI cJ cZ h_this h_this_book h_this_now h_this_width h_this_wide h_this_delay g_this_key g_this_ahead g_this_after g_this_sight g_this_pad g_this_counts g_this_isOne g_this_ways g_this_image g_this_isKept c_rules c_sights c_signs c_reason c_acts c_meetings c_clashes c_first c_where c_door_34 c_wider_34 c_ordersFound c_firstOrder c_least c_leastOrder c_book c_now_34 c_width c_wide c_delay) H := hP
        have hD : va_D A (w_X11_year cI cJ cZ h_this h_this_book h_this_now h_this_width h_this_wide h_this_delay g_this_key g_this_ahead g_this_after g_this_sight g_this_pad g_this_counts g_this_isOne g_this_ways g_this_image g_this_isKept c_rules c_sights c_signs c_reason c_acts c_meetings c_clashes c_first c_where c_door_34 c_wider_34 c_ordersFound c_firstOrder c_least c_leastOrder c_book c_now_34 c_width c_wide c_delay) := hD
        refine lv_iload_n hx hb dX11_year_37 rfl (lv_at hl 1 rfl) ?_
        refine lv_istore (lv' := [(4, .int l1), (0, .ref h_this), (1, .int l1), (2, .int l2), (3, .int l3)]) hx hb dX11_year_38 hl (by decide) rfl (fun ls hl => ?_)
        refine lv_iconst (v := 0) hx hb dX11_year_40 (by decide) ?_
        refine lv_istore (lv' := [(5, .int 0), (4, .int l1), (0, .ref h_this), (1, .int l1), (2, .int l2), (3, .int l3)]) hx hb dX11_year_41 hl (by decide) rfl (fun ls hl => ?_)
        obtain ⟨l4_43x, l5_43x, c_now_43x, hq_43, hf⟩ := bd3_some hf
        have K_43 : ∀ (H : Heap) (locs : List Loc) (ls : Array Slot), va_P (dC, dI) vwCl (w_X11_year cI cJ cZ h_this h_this_book h_this_now h_this_width h_this_wide h_this_delay g_this_key g_this_ahead g_this_after g_this_sight g_this_pad g_this_counts g_this_isOne g_this_ways g_this_image g_this_isKept c_rules c_sights c_signs c_reason c_acts c_meetings c_clashes c_first c_where c_door_34 c_wider_34 c_ordersFound c_firstOrder c_least c_leastOrder c_book c_now_43x c_width c_wide c_delay) H → va_D A (w_X11_year cI cJ cZ h_this h_this_book h_this_now h_this_width h_this_wide h_this_delay g_this_key g_this_ahead g_this_after g_this_sight g_this_pad g_this_counts g_this_isOne g_this_ways g_this_image g_this_isKept c_rules c_sights c_signs c_reason c_acts c_meetings c_clashes c_first c_where c_door_34 c_wider_34 c_ordersFound c_firstOrder c_least c_leastOrder c_book c_now_43x c_width c_wide c_delay) → va_S A s.heap H locs → lv_has ls 8 [(0, .ref h_this), (3, .int l3)] → W p l e rm_X11_year s m args below meth c H locs 0 0 Z (F0 m 152 ls []) := by
          intro H locs ls hP hD hS hl
          refine lv_aload_n hx hb dX11_year_152 rfl (lv_at hl 0 rfl) ?_
          obtain ⟨c_meetings_153, c_clashes_153, c_first_153, c_where_153, hv_153, hf⟩ := bd4_some hf
          refine kWv (rV (C := RX11) [] [] S (c_X11_layMeetings l dC dI cI cJ cZ h_this h_this_now h_this_width h_this_wide h_this_delay h_this_book g_this_key g_this_ahead g_this_after g_this_sight g_this_pad g_this_counts g_this_isOne g_this_ways g_this_image g_this_isKept H.size c_rules c_sights c_signs c_reason c_acts c_meetings c_clashes c_first c_where c_door_34 c_wider_34 c_ordersFound c_firstOrder c_least c_leastOrder c_now_43x c_width c_wide c_delay c_meetings_153 c_clashes_153 c_first_153 c_where_153 hv_153) (cwV 0 hts gX11_year_X11_layMeetings rfl rfl rfl (by decide +kernel) ⟨Nat.le_of_ble_eq_true rfl, Nat.le_of_ble_eq_true rfl⟩) (va_recv hK hP (ci := 11) (q0 := 0) rfl rfl) hP hD hK hN [0, 2, 3, 4, 5] rfl (by decide +kernel) rfl hl.1 rfl (Nat.le_of_ble_eq_true rfl) dX11_year_153 ⟨Nat.le_of_ble_eq_true rfl, Nat.le_of_ble_eq_true rfl⟩) hP hD hS hA [0, 2, 3, 4, 5] rfl rfl [some 0, none, some 1, some 2, some 3, some 4] (by decide +kernel) rfl (fun H locs hP hD hS => ?_)
          have hP : va_P (dC, dI) vwCl (w_X11_year cI cJ cZ h_this h_this_book h_this_now h_this_width h_this_wide h_this_delay g_this_key g_this_ahead g_this_after g_this_sight g_this_pad g_this_counts g_this_isOne g_this_ways g_this_image g_this_isKept c_rules c_sights c_signs c_reason c_acts c_meetings_153 c_clashes_153 c_first_153 c_where_153 c_door_34 c_wider_34 c_ordersFound c_firstOrder c_least c_leastOrder c_book c_now_43x c_width c_wide c_delay) H := hP
          have hD : va_D A (w_X11_year cI cJ cZ h_this h_this_book h_this_now h_this_width h_this_wide h_this_delay g_this_key g_this_ahead g_this_after g_this_sight g_this_pad g_this_counts g_this_isOne g_this_ways g_this_image g_this_isKept c_rules c_sights c_signs c_reason c_acts c_meetings_153 c_clashes_153 c_first_153 c_where_153 c_door_34 c_wider_34 c_ordersFound c_firstOrder c_least c_leastOrder c_book c_now_43x c_width c_wide c_delay) := hD
          refine lv_iload_n hx hb dX11_year_156 rfl (lv_at hl 1 rfl) ?_
          refine lv_if_ne (tgt := 178) hx hb dX11_year_157 (by decide) (fun k_157 => ?_) (fun k_157 => ?_)
          · have hf := ite_f hf k_157
            refine lv_iload_n hx hb dX11_year_178 rfl (lv_at hl 1 rfl) ?_
            refine lv_iconst (v := 1) hx hb dX11_year_179 (by decide) ?_
            refine lv_icmp_ne (tgt := 190) hx hb dX11_year_180 (by decide) (fun k_180 => ?_) (fun k_180 => ?_)
            · have hf := ite_f hf k_180
              refine lv_aload_n hx hb dX11_year_190 rfl (lv_at hl 0 rfl) ?_
              refine va_get (D := (dC, dI)) (ci := 11) (v := .ref h_this_now) (C := RX11) (T := TX11) (N := 30) hx hb hts in_X11_year_X11 hown hK hP 0 rfl rfl 1 (by decide) (hts _ m_X11_year_f13) (fun _ h9 => h9) rfl dX11_year_191 ?_
              refine lv_bipush (v := 14) hx hb dX11_year_194 (by decide) ?_
              obtain ⟨g_196, hf⟩ := gd_some hf
              refine va_iald hx hb hK hP 2 0 rfl rfl g_196 dX11_year_196 ?_
              have e_f := Option.some.inj hf
              cases e_f
              exact hret rfl hP hD hS dX11_year_197
            · have hf := ite_t hf k_180
              refine lv_aload_n hx hb dX11_year_183 rfl (lv_at hl 0 rfl) ?_
              refine va_get (D := (dC, dI)) (ci := 11) (v := .int c_clashes_153) (C := RX11) (T := TX11) (N := 30) hx hb hts in_X11_year_X11 hown hK hP 0 rfl rfl 16 (by decide) (hts _ m_X11_year_f126) (fun _ h9 => h9) rfl dX11_year_184 ?_
              refine lv_goto (tgt := 197) hx hb dX11_year_187 (by decide) ?_
              have e_f := Option.some.inj hf
              cases e_f
              exact hret rfl hP hD hS dX11_year_197
          · have hf := ite_t hf k_157
            refine lv_aload_n hx hb dX11_year_160 rfl (lv_at hl 0 rfl) ?_
            refine va_get (D := (dC, dI)) (ci := 11) (v := .ref h_this_now) (C := RX11) (T := TX11) (N := 30) hx hb hts in_X11_year_X11 hown hK hP 0 rfl rfl 1 (by decide) (hts _ m_X11_year_f13) (fun _ h9 => h9) rfl dX11_year_161 ?_
            refine lv_bipush (v := 12) hx hb dX11_year_164 (by decide) ?_
            obtain ⟨g_166, hf⟩ := gd_some hf
            refine va_iald hx hb hK hP 2 0 rfl rfl g_166 dX11_year_166 ?_
            refine lv_aload_n hx hb dX11_year_167 rfl (lv_at hl 0 rfl) ?_
            refine va_get (D := (dC, dI)) (ci := 11) (v := .ref h_this_now) (C := RX11) (T := TX11) (N := 30) hx hb hts in_X11_year_X11 hown hK hP 0 rfl rfl 1 (by decide) (hts _ m_X11_year_f13) (fun _ h9 => h9) rfl dX11_year_168 ?_
            refine lv_bipush (v := 13) hx hb dX11_year_171 (by decide) ?_
            obtain ⟨g_173, hf⟩ := gd_some hf
            refine va_iald hx hb hK hP 2 0 rfl rfl g_173 dX11_year_173 ?_
            refine lv_iadd hx hb dX11_year_174 ?_
            refine lv_goto (tgt := 197) hx hb dX11_year_175 (by decide) ?_
            have e_f := Option.some.inj hf
            cases e_f
            exact hret rfl hP hD hS dX11_year_197
        have L_43 : ∀ (n : Nat) (l4_43 : Int32) (l5_43 : Int32) (c_now_43 : Nat → Int32) (H : Heap) (locs : List Loc) (ls : Array Slot), va_P (dC, dI) vwCl (w_X11_year cI cJ cZ h_this h_this_book h_this_now h_this_width h_this_wide h_this_delay g_this_key g_this_ahead g_this_after g_this_sight g_this_pad g_this_counts g_this_isOne g_this_ways g_this_image g_this_isKept c_rules c_sights c_signs c_reason c_acts c_meetings c_clashes c_first c_where c_door_34 c_wider_34 c_ordersFound c_firstOrder c_least c_leastOrder c_book c_now_43 c_width c_wide c_delay) H → va_D A (w_X11_year cI cJ cZ h_this h_this_book h_this_now h_this_width h_this_wide h_this_delay g_this_key g_this_ahead g_this_after g_this_sight g_this_pad g_this_counts g_this_isOne g_this_ways g_this_image g_this_isKept c_rules c_sights c_signs c_reason c_acts c_meetings c_clashes c_first c_where c_door_34 c_wider_34 c_ordersFound c_firstOrder c_least c_leastOrder c_book c_now_43 c_width c_wide c_delay) → va_S A s.heap H locs → lv_has ls 8 [(0, .ref h_this), (2, .int l2), (3, .int l3), (4, .int l4_43), (5, .int l5_43)] → loopN (fun (q : Int32 × Int32 × (Nat → Int32)) => f_X11_year_b43 l2 q.1 q.2.1 q.2.2) n (l4_43, l5_43, c_now_43) = some (l4_43x, l5_43x, c_now_43x) → W p l e rm_X11_year s m args below meth c H locs 0 0 Z (F0 m 43 ls []) := by
          intro n
          induction n with
          | zero => intro l4_43 l5_43 c_now_43 H locs ls hP hD hS hl hq; exact (loopN_zero hq).elim
          | succ n ih_43 =>
            intro l4_43 l5_43 c_now_43 H locs ls hP hD hS hl hq
            obtain ⟨o_43, hf, ho1_43, ho2_43⟩ := loopN_step hq
            have hf : f_X11_year_b43 l2 l4_43 l5_43 c_now_43 = some o_43 := hf
            unfold f_X11_year_b43 at hf
            refine lv_iload hx hb dX11_year_43 (lv_at hl 4 rfl) ?_
            refine lv_iload_n hx hb dX11_year_45 rfl (lv_at hl 1 rfl) ?_
            refine lv_icmp_ge (tgt := 152) hx hb dX11_year_46 (by decide) (fun k_46 => ?_) (fun k_46 => ?_)
            · have hf := ite_t hf k_46
              have e_43 := ho2_43 _ (Option.some.inj hf).symm
              cases e_43
              exact K_43 H locs ls hP hD hS (lv_sub hl [0, 2] rfl)
            · have hf := ite_f hf k_46
              refine lv_bipush (v := 75) hx hb dX11_year_49 (by decide) ?_
              refine lv_iload hx hb dX11_year_51 (lv_at hl 3 rfl) ?_
              refine lv_imul hx hb dX11_year_53 ?_
              refine lv_bipush (v := 74) hx hb dX11_year_54 (by decide) ?_
              refine lv_iadd hx hb dX11_year_56 ?_
              refine lv_ldc (v := 65537) hx hb hown (hts _ m_X11_year_k193) dX11_year_57 ?_
              refine lv_irem hx hb dX11_year_59 (by decide) ?_
              obtain ⟨l4_60s, e_l4_60s, hf⟩ := nmv_some hf
              refine tpi e_l4_60s ?_
              refine lv_istore (lv' := [(4, .int l4_60s), (0, .ref h_this), (2, .int l2), (3, .int l3), (5, .int l5_43)]) hx hb dX11_year_60 hl (by decide) rfl (fun ls hl => ?_)
              refine lv_iload hx hb dX11_year_62 (lv_at hl 0 rfl) ?_
              refine lv_bipush (v := 10) hx hb dX11_year_64 (by decide) ?_
              refine lv_irem hx hb dX11_year_66 (by decide) ?_
              refine lv_istore (lv' := [(6, .int (l4_60s - (l4_60s / 10) * 10)), (4, .int l4_60s), (0, .ref h_this), (2, .int l2), (3, .int l3), (5, .int l5_43)]) hx hb dX11_year_67 hl (by decide) rfl (fun ls hl => ?_)
              refine lv_iload hx hb dX11_year_69 (lv_at hl 1 rfl) ?_
              refine lv_bipush (v := 10) hx hb dX11_year_71 (by decide) ?_
              refine lv_idiv hx hb dX11_year_73 (by decide) ?_
              refine lv_bipush (v := 8) hx hb dX11_year_74 (by decide) ?_
              refine lv_irem hx hb dX11_year_76 (by decide) ?_
              obtain ⟨l7_77s, e_l7_77s, hf⟩ := nmv_some hf
              refine tpi e_l7_77s ?_
              refine lv_istore (lv' := [(7, .int l7_77s), (6, .int (l4_60s - (l4_60s / 10) * 10)), (4, .int l4_60s), (0, .ref h_this), (2, .int l2), (3, .int l3), (5, .int l5_43)]) hx hb dX11_year_77 hl (by decide) rfl (fun ls hl => ?_)
              refine lv_iload hx hb dX11_year_79 (lv_at hl 0 rfl) ?_
              refine lv_iconst (v := 4) hx hb dX11_year_81 (by decide) ?_
              refine lv_icmp_ge (tgt := 99) hx hb dX11_year_82 (by decide) (fun k_82 => ?_) (fun k_82 => ?_)
              · have hf := ite_t hf k_82
                refine lv_iload hx hb dX11_year_99 (lv_at hl 0 rfl) ?_
                refine lv_bipush (v := 6) hx hb dX11_year_101 (by decide) ?_
                refine lv_icmp_ge (tgt := 116) hx hb dX11_year_103 (by decide) (fun k_103 => ?_) (fun k_103 => ?_)
                · have hf := ite_t hf k_103
                  refine lv_iload hx hb dX11_year_116 (lv_at hl 0 rfl) ?_
                  refine lv_bipush (v := 6) hx hb dX11_year_118 (by decide) ?_
                  refine lv_icmp_ne (tgt := 141) hx hb dX11_year_120 (by decide) (fun k_120 => ?_) (fun k_120 => ?_)
                  · have hf := ite_f hf k_120
                    refine lv_aload_n hx hb dX11_year_141 rfl (lv_at hl 3 rfl) ?_
                    obtain ⟨r_142, c_now_142, hv_142, hf⟩ := bd2_some hf
                    refine kWi (rV (C := RX11) [] [] S (c_X11_ring l dC dI cI cJ cZ h_this h_this_now h_this_book h_this_width g_this_key h_this_wide h_this_delay g_this_ahead g_this_after g_this_sight g_this_pad g_this_counts g_this_isOne g_this_ways g_this_image g_this_isKept H.size c_rules c_sights c_signs c_reason c_acts c_meetings c_clashes c_first c_where c_door_34 c_wider_34 c_ordersFound c_firstOrder c_least c_leastOrder c_now_43 r_142 c_now_142 hv_142) (cwV 0 hts gX11_year_X11_ring rfl rfl rfl (by decide +kernel) ⟨Nat.le_of_ble_eq_true rfl, Nat.le_of_ble_eq_true rfl⟩) (va_recv hK hP (ci := 11) (q0 := 0) rfl rfl) hP hD hK hN [0, 2] rfl (by decide +kernel) rfl hl.1 rfl (Nat.le_of_ble_eq_true rfl) dX11_year_142 ⟨Nat.le_of_ble_eq_true rfl, Nat.le_of_ble_eq_true rfl⟩) hP hD hS hA [0, 2] rfl rfl [some 0, none, some 1, none, none, none] (by decide +kernel) rfl (fun H locs hP hD hS => ?_)
                    have hP : va_P (dC, dI) vwCl (w_X11_year cI cJ cZ h_this h_this_book h_this_now h_this_width h_this_wide h_this_delay g_this_key g_this_ahead g_this_after g_this_sight g_this_pad g_this_counts g_this_isOne g_this_ways g_this_image g_this_isKept c_rules c_sights c_signs c_reason c_acts c_meetings c_clashes c_first c_where c_door_34 c_wider_34 c_ordersFound c_firstOrder c_least c_leastOrder c_book c_now_142 c_width c_wide c_delay) H := hP
                    have hD : va_D A (w_X11_year cI cJ cZ h_this h_this_book h_this_now h_this_width h_this_wide h_this_delay g_this_key g_this_ahead g_this_after g_this_sight g_this_pad g_this_counts g_this_isOne g_this_ways g_this_image g_this_isKept c_rules c_sights c_signs c_reason c_acts c_meetings c_clashes c_first c_where c_door_34 c_wider_34 c_ordersFound c_firstOrder c_least c_leastOrder c_book c_now_142 c_width c_wide c_delay) := hD
                    refine lv_pop hx hb dX11_year_145 rfl ?_
                    refine lv_iinc (v := (l5_43 + 1)) (lv' := [(5, .int (l5_43 + 1)), (7, .int l7_77s), (6, .int (l4_60s - (l4_60s / 10) * 10)), (4, .int l4_60s), (0, .ref h_this), (2, .int l2), (3, .int l3)]) hx hb dX11_year_146 hl (k := 6) rfl rfl (by decide) rfl (fun ls hl => ?_)
                    refine lv_goto (tgt := 43) hx hb dX11_year_149 (by decide) ?_
                    exact ih_43 l4_60s (l5_43 + 1) c_now_142 H locs ls hP hD hS (lv_sub hl [4, 5, 6, 3, 0] rfl) (ho1_43 _ (Option.some.inj hf).symm)
                  · have hf := ite_t hf k_120
                    refine lv_aload_n hx hb dX11_year_123 rfl (lv_at hl 3 rfl) ?_
                    refine lv_iload hx hb dX11_year_124 (lv_at hl 1 rfl) ?_
                    refine lv_iload hx hb dX11_year_126 (lv_at hl 2 rfl) ?_
                    refine lv_bipush (v := 80) hx hb dX11_year_128 (by decide) ?_
                    refine lv_idiv hx hb dX11_year_130 (by decide) ?_
                    refine lv_bipush (v := 10) hx hb dX11_year_131 (by decide) ?_
                    refine lv_irem hx hb dX11_year_133 (by decide) ?_
                    obtain ⟨r_134, c_now_134, hv_134, hf⟩ := bd2_some hf
                    refine kWi (rV (C := RX11) [.int (l4_60s - (l4_60s / 10) * 10), .int ((l4_60s / 80) - ((l4_60s / 80) / 10) * 10)] [] S (c_X11_change l dC dI cI cJ cZ h_this h_this_now h_this_book h_this_width g_this_key h_this_wide h_this_delay g_this_ahead g_this_after g_this_sight g_this_pad g_this_counts g_this_isOne g_this_ways g_this_image g_this_isKept H.size c_rules c_sights c_signs c_reason c_acts c_meetings c_clashes c_first c_where c_door_34 c_wider_34 c_ordersFound c_firstOrder c_least c_leastOrder c_now_43 (l4_60s - (l4_60s / 10) * 10) ((l4_60s / 80) - ((l4_60s / 80) / 10) * 10) r_134 c_now_134 hv_134) (cwV 2 hts gX11_year_X11_change rfl rfl rfl (by decide +kernel) ⟨Nat.le_of_ble_eq_true rfl, Nat.le_of_ble_eq_true rfl⟩) (va_recv hK hP (ci := 11) (q0 := 0) rfl rfl) hP hD hK hN [0, 2] rfl (by decide +kernel) rfl hl.1 rfl (Nat.le_of_ble_eq_true rfl) dX11_year_134 ⟨Nat.le_of_ble_eq_true rfl, Nat.le_of_ble_eq_true rfl⟩) hP hD hS hA [0, 2] rfl rfl [some 0, none, some 1, none, none, none] (by decide +kernel) rfl (fun H locs hP hD hS => ?_)
                    have hP : va_P (dC, dI) vwCl (w_X11_year cI cJ cZ h_this h_this_book h_this_now h_this_width h_this_wide h_this_delay g_this_key g_this_ahead g_this_after g_this_sight g_this_pad g_this_counts g_this_isOne g_this_ways g_this_image g_this_isKept c_rules c_sights c_signs c_reason c_acts c_meetings c_clashes c_first c_where c_door_34 c_wider_34 c_ordersFound c_firstOrder c_least c_leastOrder c_book c_now_134 c_width c_wide c_delay) H := hP
                    have hD : va_D A (w_X11_year cI cJ cZ h_this h_this_book h_this_now h_this_width h_this_wide h_this_delay g_this_key g_this_ahead g_this_after g_this_sight g_this_pad g_this_counts g_this_isOne g_this_ways g_this_image g_this_isKept c_rules c_sights c_signs c_reason c_acts c_meetings c_clashes c_first c_where c_door_34 c_wider_34 c_ordersFound c_firstOrder c_least c_leastOrder c_book c_now_134 c_width c_wide c_delay) := hD
                    refine lv_pop hx hb dX11_year_137 rfl ?_
                    refine lv_goto (tgt := 146) hx hb dX11_year_138 (by decide) ?_
                    refine lv_iinc (v := (l5_43 + 1)) (lv' := [(5, .int (l5_43 + 1)), (7, .int l7_77s), (6, .int (l4_60s - (l4_60s / 10) * 10)), (4, .int l4_60s), (0, .ref h_this), (2, .int l2), (3, .int l3)]) hx hb dX11_year_146 hl (k := 6) rfl rfl (by decide) rfl (fun ls hl => ?_)
                    refine lv_goto (tgt := 43) hx hb dX11_year_149 (by decide) ?_
                    exact ih_43 l4_60s (l5_43 + 1) c_now_134 H locs ls hP hD hS (lv_sub hl [4, 5, 6, 3, 0] rfl) (ho1_43 _ (Option.some.inj hf).symm)
                · have hf := ite_f hf k_103
                  refine lv_aload_n hx hb dX11_year_106 rfl (lv_at hl 3 rfl) ?_
                  refine lv_iload hx hb dX11_year_107 (lv_at hl 1 rfl) ?_
                  obtain ⟨r_109, c_now_109, hv_109, hf⟩ := bd2_some hf
                  refine kWi (rV (C := RX11) [.int (l4_60s - (l4_60s / 10) * 10)] [] S (c_X11_goHome l dC dI cI cJ cZ h_this h_this_now h_this_book h_this_width g_this_key h_this_wide h_this_delay g_this_ahead g_this_after g_this_sight g_this_pad g_this_counts g_this_isOne g_this_ways g_this_image g_this_isKept H.size c_rules c_sights c_signs c_reason c_acts c_meetings c_clashes c_first c_where c_door_34 c_wider_34 c_ordersFound c_firstOrder c_least c_leastOrder c_now_43 (l4_60s - (l4_60s / 10) * 10) r_109 c_now_109 hv_109) (cwV 1 hts gX11_year_X11_goHome rfl rfl rfl (by decide +kernel) ⟨Nat.le_of_ble_eq_true rfl, Nat.le_of_ble_eq_true rfl⟩) (va_recv hK hP (ci := 11) (q0 := 0) rfl rfl) hP hD hK hN [0, 2] rfl (by decide +kernel) rfl hl.1 rfl (Nat.le_of_ble_eq_true rfl) dX11_year_109 ⟨Nat.le_of_ble_eq_true rfl, Nat.le_of_ble_eq_true rfl⟩) hP hD hS hA [0, 2] rfl rfl [some 0, none, some 1, none, none, none] (by decide +kernel) rfl (fun H locs hP hD hS => ?_)
                  have hP : va_P (dC, dI) vwCl (w_X11_year cI cJ cZ h_this h_this_book h_this_now h_this_width h_this_wide h_this_delay g_this_key g_this_ahead g_this_after g_this_sight g_this_pad g_this_counts g_this_isOne g_this_ways g_this_image g_this_isKept c_rules c_sights c_signs c_reason c_acts c_meetings c_clashes c_first c_where c_door_34 c_wider_34 c_ordersFound c_firstOrder c_least c_leastOrder c_book c_now_109 c_width c_wide c_delay) H := hP
                  have hD : va_D A (w_X11_year cI cJ cZ h_this h_this_book h_this_now h_this_width h_this_wide h_this_delay g_this_key g_this_ahead g_this_after g_this_sight g_this_pad g_this_counts g_this_isOne g_this_ways g_this_image g_this_isKept c_rules c_sights c_signs c_reason c_acts c_meetings c_clashes c_first c_where c_door_34 c_wider_34 c_ordersFound c_firstOrder c_least c_leastOrder c_book c_now_109 c_width c_wide c_delay) := hD
                  refine lv_pop hx hb dX11_year_112 rfl ?_
                  refine lv_goto (tgt := 146) hx hb dX11_year_113 (by decide) ?_
                  refine lv_iinc (v := (l5_43 + 1)) (lv' := [(5, .int (l5_43 + 1)), (7, .int l7_77s), (6, .int (l4_60s - (l4_60s / 10) * 10)), (4, .int l4_60s), (0, .ref h_this), (2, .int l2), (3, .int l3)]) hx hb dX11_year_146 hl (k := 6) rfl rfl (by decide) rfl (fun ls hl => ?_)
                  refine lv_goto (tgt := 43) hx hb dX11_year_149 (by decide) ?_
                  exact ih_43 l4_60s (l5_43 + 1) c_now_109 H locs ls hP hD hS (lv_sub hl [4, 5, 6, 3, 0] rfl) (ho1_43 _ (Option.some.inj hf).symm)
              · have hf := ite_f hf k_82
                refine lv_aload_n hx hb dX11_year_85 rfl (lv_at hl 3 rfl) ?_
                refine lv_iload hx hb dX11_year_86 (lv_at hl 1 rfl) ?_
                refine lv_iload hx hb dX11_year_88 (lv_at hl 0 rfl) ?_
                refine lv_iconst (v := 2) hx hb dX11_year_90 (by decide) ?_
                refine lv_idiv hx hb dX11_year_91 (by decide) ?_
                obtain ⟨r_92, c_now_92, hv_92, hf⟩ := bd2_some hf
                refine kWi (rV (C := RX11) [.int (l4_60s - (l4_60s / 10) * 10), .int (l7_77s / 2)] [] S (c_X11_join l dC dI cI cJ cZ h_this h_this_now h_this_book h_this_width g_this_key h_this_wide h_this_delay g_this_ahead g_this_after g_this_sight g_this_pad g_this_counts g_this_isOne g_this_ways g_this_image g_this_isKept H.size c_rules c_sights c_signs c_reason c_acts c_meetings c_clashes c_first c_where c_door_34 c_wider_34 c_ordersFound c_firstOrder c_least c_leastOrder c_now_43 (l4_60s - (l4_60s / 10) * 10) (l7_77s / 2) r_92 c_now_92 hv_92) (cwV 2 hts gX11_year_X11_join rfl rfl rfl (by decide +kernel) ⟨Nat.le_of_ble_eq_true rfl, Nat.le_of_ble_eq_true rfl⟩) (va_recv hK hP (ci := 11) (q0 := 0) rfl rfl) hP hD hK hN [0, 2] rfl (by decide +kernel) rfl hl.1 rfl (Nat.le_of_ble_eq_true rfl) dX11_year_92 ⟨Nat.le_of_ble_eq_true rfl, Nat.le_of_ble_eq_true rfl⟩) hP hD hS hA [0, 2] rfl rfl [some 0, none, some 1, none, none, none] (by decide +kernel) rfl (fun H locs hP hD hS => ?_)
                have hP : va_P (dC, dI) vwCl (w_X11_year cI cJ cZ h_this h_this_book h_this_now h_this_width h_this_wide h_this_delay g_this_key g_this_ahead g_this_after g_this_sight g_this_pad g_this_counts g_this_isOne g_this_ways g_this_image g_this_isKept c_rules c_sights c_signs c_reason c_acts c_meetings c_clashes c_first c_where c_door_34 c_wider_34 c_ordersFound c_firstOrder c_least c_leastOrder c_book c_now_92 c_width c_wide c_delay) H := hP
                have hD : va_D A (w_X11_year cI cJ cZ h_this h_this_book h_this_now h_this_width h_this_wide h_this_delay g_this_key g_this_ahead g_this_after g_this_sight g_this_pad g_this_counts g_this_isOne g_this_ways g_this_image g_this_isKept c_rules c_sights c_signs c_reason c_acts c_meetings c_clashes c_first c_where c_door_34 c_wider_34 c_ordersFound c_firstOrder c_least c_leastOrder c_book c_now_92 c_width c_wide c_delay) := hD
                refine lv_pop hx hb dX11_year_95 rfl ?_
                refine lv_goto (tgt := 146) hx hb dX11_year_96 (by decide) ?_
                refine lv_iinc (v := (l5_43 + 1)) (lv' := [(5, .int (l5_43 + 1)), (7, .int l7_77s), (6, .int (l4_60s - (l4_60s / 10) * 10)), (4, .int l4_60s), (0, .ref h_this), (2, .int l2), (3, .int l3)]) hx hb dX11_year_146 hl (k := 6) rfl rfl (by decide) rfl (fun ls hl => ?_)
                refine lv_goto (tgt := 43) hx hb dX11_year_149 (by decide) ?_
                exact ih_43 l4_60s (l5_43 + 1) c_now_92 H locs ls hP hD hS (lv_sub hl [4, 5, 6, 3, 0] rfl) (ho1_43 _ (Option.some.inj hf).symm)
        exact L_43 FU l1 0 c_now_34 H locs ls hP hD hS (lv_sub hl [2, 4, 5, 1, 0] rfl) hq_43
      · have hf := ite_t hf k_27
        refine lv_bipush (v := (-2)) hx hb dX11_year_30 (by decide) ?_
        have e_f := Option.some.inj hf
        cases e_f
        exact hret rfl hP hD hS dX11_year_32
abbrev w_X11_image (cI cJ cZ : ClassId) (h_this h_this_book h_this_width h_this_key h_this_wide h_this_delay h_this_ahead h_this_after h_this_sight h_this_image h_this_isKept g_this_now g_this_pad g_this_counts g_this_isOne g_this_ways : Nat) (c_rules : Int32) (c_sights : Int32) (c_signs : Int32) (c_reason : Int32) (c_acts : Int32) (c_meetings : Int32) (c_clashes : Int32) (c_first : Int32) (c_where : Int32) (c_door : Int32) (c_wider : Int32) (c_ordersFound : Int32) (c_firstOrder : Int32) (c_least : Int32) (c_leastOrder : Int32) (c_book : Nat → Int32) (c_width : Nat → Int32) (c_key : Nat → Int32) (c_wide : Nat → Int32) (c_delay : Nat → Int32) (c_ahead : Nat → Int32) (c_after : Nat → Int32) (c_sight : Nat → Int32) (c_image : Nat → Int32) (c_isKept : Nat → Int32) : va_W := [(h_this, .inr (11, [.ref h_this_book, .ref g_this_now, .ref h_this_width, .ref h_this_key, .ref h_this_wide, .ref h_this_delay, .int c_rules, .ref h_this_ahead, .ref h_this_after, .int c_sights, .ref h_this_sight, .int c_signs, .ref g_this_pad, .int c_reason, .int c_acts, .int c_meetings, .int c_clashes, .int c_first, .int c_where, .int c_door, .int c_wider, .int c_ordersFound, .int c_firstOrder, .int c_least, .int c_leastOrder, .ref g_this_counts, .ref g_this_isOne, .ref g_this_ways, .ref h_this_image, .ref h_this_isKept])), (h_this_book, .inl (cI, 15, .inl c_book)), (h_this_width, .inl (cI, 10, .inl c_width)), (h_this_key, .inl (cI, 10, .inl c_key)), (h_this_wide, .inl (cI, 17, .inl c_wide)), (h_this_delay, .inl (cI, 2, .inl c_delay)), (h_this_ahead, .inl (cI, 10, .inl c_ahead)), (h_this_after, .inl (cI, 10, .inl c_after)), (h_this_sight, .inl (cI, 16, .inl c_sight)), (h_this_image, .inl (cI, 200, .inl c_image)), (h_this_isKept, .inl (cZ, 2, .inl c_isKept))]
abbrev rm_X11_image : Room := { frames := 1, cells := 0, slots := 0, locals := 22 }
theorem m_X11_image_f51 : (.fieldLink RX11 51 "WovenRowsModel" "image" "[I" : Cond) ∈ wsX11_image := by decide +kernel
theorem in_X11_image_X11 : ∀ w ∈ u_ws RX11 TX11 30, w ∈ wsX11_image := by decide +kernel
theorem m_X11_image_f7 : (.fieldLink RX11 7 "WovenRowsModel" "book" "[I" : Cond) ∈ wsX11_image := by decide +kernel
theorem m_X11_image_f16 : (.fieldLink RX11 16 "WovenRowsModel" "width" "[I" : Cond) ∈ wsX11_image := by decide +kernel
theorem m_X11_image_f19 : (.fieldLink RX11 19 "WovenRowsModel" "key" "[I" : Cond) ∈ wsX11_image := by decide +kernel
theorem m_X11_image_f28 : (.fieldLink RX11 28 "WovenRowsModel" "ahead" "[I" : Cond) ∈ wsX11_image := by decide +kernel
theorem m_X11_image_f31 : (.fieldLink RX11 31 "WovenRowsModel" "after" "[I" : Cond) ∈ wsX11_image := by decide +kernel
theorem m_X11_image_f22 : (.fieldLink RX11 22 "WovenRowsModel" "wide" "[I" : Cond) ∈ wsX11_image := by decide +kernel
theorem m_X11_image_f34 : (.fieldLink RX11 34 "WovenRowsModel" "sight" "[I" : Cond) ∈ wsX11_image := by decide +kernel
theorem m_X11_image_f25 : (.fieldLink RX11 25 "WovenRowsModel" "delay" "[I" : Cond) ∈ wsX11_image := by decide +kernel
theorem m_X11_image_f145 : (.fieldLink RX11 145 "WovenRowsModel" "rules" "I" : Cond) ∈ wsX11_image := by decide +kernel
theorem m_X11_image_f177 : (.fieldLink RX11 177 "WovenRowsModel" "sights" "I" : Cond) ∈ wsX11_image := by decide +kernel
theorem m_X11_image_f54 : (.fieldLink RX11 54 "WovenRowsModel" "isKept" "[Z" : Cond) ∈ wsX11_image := by decide +kernel
set_option maxRecDepth 100000 in
set_option maxHeartbeats 4000000 in
theorem c_X11_image (l : Launch) (dC : Nat → ClassId) (dI : Nat → Nat → Nat) (cI cJ cZ : ClassId) (h_this h_this_book h_this_width h_this_key h_this_wide h_this_delay h_this_ahead h_this_after h_this_sight h_this_image h_this_isKept g_this_now g_this_pad g_this_counts g_this_isOne g_this_ways : Nat) (sz : Nat) (c_rules : Int32) (c_sights : Int32) (c_signs : Int32) (c_reason : Int32) (c_acts : Int32) (c_meetings : Int32) (c_clashes : Int32) (c_first : Int32) (c_where : Int32) (c_door : Int32) (c_wider : Int32) (c_ordersFound : Int32) (c_firstOrder : Int32) (c_least : Int32) (c_leastOrder : Int32) (c_book : Nat → Int32) (c_width : Nat → Int32) (c_key : Nat → Int32) (c_wide : Nat → Int32) (c_delay : Nat → Int32) (c_ahead : Nat → Int32) (c_after : Nat → Int32) (c_sight : Nat → Int32) (c_image : Nat → Int32) (c_isKept : Nat → Int32) (l1 : Int32) (r : Int32) (z_image : Nat → Int32) (z_isKept : Nat → Int32) (hf : f_X11_image c_rules c_sights c_book c_width c_key c_wide c_delay c_ahead c_after c_sight c_image c_isKept l1 = some (r, z_image, z_isKept)) : Met l yX11_image wsX11_image rm_X11_image (va_Pc [.ref h_this, .int l1] (PRE (dC, dI) (TY cI cJ cZ) sz (w_X11_image cI cJ cZ h_this h_this_book h_this_width h_this_key h_this_wide h_this_delay h_this_ahead h_this_after h_this_sight h_this_image h_this_isKept g_this_now g_this_pad g_this_counts g_this_isOne g_this_ways c_rules c_sights c_signs c_reason c_acts c_meetings c_clashes c_first c_where c_door c_wider c_ordersFound c_firstOrder c_least c_leastOrder c_book c_width c_key c_wide c_delay c_ahead c_after c_sight c_image c_isKept))) (va_Qi (fun r' (_ : Unit) => r' = r) (POW (dC, dI) (va_A (w_X11_image cI cJ cZ h_this h_this_book h_this_width h_this_key h_this_wide h_this_delay h_this_ahead h_this_after h_this_sight h_this_image h_this_isKept g_this_now g_this_pad g_this_counts g_this_isOne g_this_ways c_rules c_sights c_signs c_reason c_acts c_meetings c_clashes c_first c_where c_door c_wider c_ordersFound c_firstOrder c_least c_leastOrder c_book c_width c_key c_wide c_delay c_ahead c_after c_sight c_image c_isKept) sz) (w_X11_image cI cJ cZ h_this h_this_book h_this_width h_this_key h_this_wide h_this_delay h_this_ahead h_this_after h_this_sight h_this_image h_this_isKept g_this_now g_this_pad g_this_counts g_this_isOne g_this_ways c_rules c_sights c_signs c_reason c_acts c_meetings c_clashes c_first c_where c_door c_wider c_ordersFound c_firstOrder c_least c_leastOrder c_book c_width c_key c_wide c_delay c_ahead c_after c_sight z_image z_isKept)) (va_A (w_X11_image cI cJ cZ h_this h_this_book h_this_width h_this_key h_this_wide h_this_delay h_this_ahead h_this_after h_this_sight h_this_image h_this_isKept g_this_now g_this_pad g_this_counts g_this_isOne g_this_ways c_rules c_sights c_signs c_reason c_acts c_meetings c_clashes c_first c_where c_door c_wider c_ordersFound c_firstOrder c_least c_leastOrder c_book c_width c_key c_wide c_delay c_ahead c_after c_sight c_image c_isKept) sz)) 0 0 (va_A (w_X11_image cI cJ cZ h_this h_this_book h_this_width h_this_key h_this_wide h_this_delay h_this_ahead h_this_after h_this_sight h_this_image h_this_isKept g_this_now g_this_pad g_this_counts g_this_isOne g_this_ways c_rules c_sights c_signs c_reason c_acts c_meetings c_clashes c_first c_where c_door c_wider c_ordersFound c_firstOrder c_least c_leastOrder c_book c_width c_key c_wide c_delay c_ahead c_after c_sight c_image c_isKept) sz) := by
  refine ofWi (ty := .int) (by decide +kernel) rfl (Nat.le_of_ble_eq_true rfl) ?_
  intro p e s m args below meth c Z A ls S hP hD hK hN hA hl hret
  obtain ⟨hx, hb, hml, hown, hts⟩ := id S
  have hown : s.vm.findClass RX11 = some m.cls := hown
  have hS : va_S A s.heap s.heap [] := va_S.rf
  have hl : lv_has ls 4 [(0, .ref h_this), (1, .int l1)] := hl
  unfold f_X11_image at hf
  refine lv_iload_n hx hb dX11_image_0 rfl (lv_at hl 1 rfl) ?_
  refine lv_iconst (v := 0) hx hb dX11_image_1 (by decide) ?_
  refine lv_iconst (v := 1) hx hb dX11_image_2 (by decide) ?_
  obtain ⟨r_3, hv_3, hf⟩ := bd1_some hf
  refine kSi (rS [.int l1, .int 0, .int 1] [] S (c_X11_in l dC dI cI cJ cZ s.heap.size l1 0 1 r_3 hv_3) (va_cwS 3 hts gX11_image_X11_in rfl rfl rfl (by decide +kernel) ⟨Nat.le_of_ble_eq_true rfl, Nat.le_of_ble_eq_true rfl⟩) hP hD hK hN [] rfl (by decide +kernel) rfl hl.1 rfl (Nat.le_of_ble_eq_true rfl) dX11_image_3 ⟨Nat.le_of_ble_eq_true rfl, Nat.le_of_ble_eq_true rfl⟩) ?_
  refine lv_if_ne (tgt := 12) hx hb dX11_image_6 (by decide) (fun k_6 => ?_) (fun k_6 => ?_)
  · have hf := ite_f hf k_6
    refine lv_bipush (v := 100) hx hb dX11_image_12 (by decide) ?_
    refine lv_iload_n hx hb dX11_image_14 rfl (lv_at hl 1 rfl) ?_
    refine lv_imul hx hb dX11_image_15 ?_
    refine lv_istore_n (lv' := [(2, .int (100 * l1)), (0, .ref h_this), (1, .int l1)]) hx hb dX11_image_16 rfl hl (by decide) rfl (fun ls hl => ?_)
    refine lv_iconst (v := 0) hx hb dX11_image_17 (by decide) ?_
    refine lv_istore_n (lv' := [(3, .int 0), (2, .int (100 * l1)), (0, .ref h_this), (1, .int l1)]) hx hb dX11_image_18 rfl hl (by decide) rfl (fun ls hl => ?_)
    obtain ⟨l3_19x, c_image_19x, hq_19, hf⟩ := bd2_some hf
    have K_19 : ∀ (H : Heap) (locs : List Loc) (ls : Array Slot), va_P (dC, dI) vwCl (w_X11_image cI cJ cZ h_this h_this_book h_this_width h_this_key h_this_wide h_this_delay h_this_ahead h_this_after h_this_sight h_this_image h_this_isKept g_this_now g_this_pad g_this_counts g_this_isOne g_this_ways c_rules c_sights c_signs c_reason c_acts c_meetings c_clashes c_first c_where c_door c_wider c_ordersFound c_firstOrder c_least c_leastOrder c_book c_width c_key c_wide c_delay c_ahead c_after c_sight c_image_19x c_isKept) H → va_D A (w_X11_image cI cJ cZ h_this h_this_book h_this_width h_this_key h_this_wide h_this_delay h_this_ahead h_this_after h_this_sight h_this_image h_this_isKept g_this_now g_this_pad g_this_counts g_this_isOne g_this_ways c_rules c_sights c_signs c_reason c_acts c_meetings c_clashes c_first c_where c_door c_wider c_ordersFound c_firstOrder c_least c_leastOrder c_book c_width c_key c_wide c_delay c_ahead c_after c_sight c_image_19x c_isKept) → va_S A s.heap H locs → lv_has ls 4 [(0, .ref h_this), (1, .int l1), (2, .int (100 * l1))] → W p l e rm_X11_image s m args below meth c H locs 0 0 Z (F0 m 45 ls []) := by
      intro H locs ls hP hD hS hl
      refine lv_iconst (v := 0) hx hb dX11_image_45 (by decide) ?_
      refine lv_istore_n (lv' := [(3, .int 0), (0, .ref h_this), (1, .int l1), (2, .int (100 * l1))]) hx hb dX11_image_46 rfl hl (by decide) rfl (fun ls hl => ?_)
      obtain ⟨l3_47x, c_image_47x, hq_47, hf⟩ := bd2_some hf
      have K_47 : ∀ (H : Heap) (locs : List Loc) (ls : Array Slot), va_P (dC, dI) vwCl (w_X11_image cI cJ cZ h_this h_this_book h_this_width h_this_key h_this_wide h_this_delay h_this_ahead h_this_after h_this_sight h_this_image h_this_isKept g_this_now g_this_pad g_this_counts g_this_isOne g_this_ways c_rules c_sights c_signs c_reason c_acts c_meetings c_clashes c_first c_where c_door c_wider c_ordersFound c_firstOrder c_least c_leastOrder c_book c_width c_key c_wide c_delay c_ahead c_after c_sight c_image_47x c_isKept) H → va_D A (w_X11_image cI cJ cZ h_this h_this_book h_this_width h_this_key h_this_wide h_this_delay h_this_ahead h_this_after h_this_sight h_this_image h_this_isKept g_this_now g_this_pad g_this_counts g_this_isOne g_this_ways c_rules c_sights c_signs c_reason c_acts c_meetings c_clashes c_first c_where c_door c_wider c_ordersFound c_firstOrder c_least c_leastOrder c_book c_width c_key c_wide c_delay c_ahead c_after c_sight c_image_47x c_isKept) → va_S A s.heap H locs → lv_has ls 4 [(0, .ref h_this), (1, .int l1), (2, .int (100 * l1))] → W p l e rm_X11_image s m args below meth c H locs 0 0 Z (F0 m 127 ls []) := by
        intro H locs ls hP hD hS hl
        refine lv_iconst (v := 0) hx hb dX11_image_127 (by decide) ?_
        refine lv_istore_n (lv' := [(3, .int 0), (0, .ref h_this), (1, .int l1), (2, .int (100 * l1))]) hx hb dX11_image_128 rfl hl (by decide) rfl (fun ls hl => ?_)
        obtain ⟨l3_129x, c_image_129x, hq_129, hf⟩ := bd2_some hf
        have K_129 : ∀ (H : Heap) (locs : List Loc) (ls : Array Slot), va_P (dC, dI) vwCl (w_X11_image cI cJ cZ h_this h_this_book h_this_width h_this_key h_this_wide h_this_delay h_this_ahead h_this_after h_this_sight h_this_image h_this_isKept g_this_now g_this_pad g_this_counts g_this_isOne g_this_ways c_rules c_sights c_signs c_reason c_acts c_meetings c_clashes c_first c_where c_door c_wider c_ordersFound c_firstOrder c_least c_leastOrder c_book c_width c_key c_wide c_delay c_ahead c_after c_sight c_image_129x c_isKept) H → va_D A (w_X11_image cI cJ cZ h_this h_this_book h_this_width h_this_key h_this_wide h_this_delay h_this_ahead h_this_after h_this_sight h_this_image h_this_isKept g_this_now g_this_pad g_this_counts g_this_isOne g_this_ways c_rules c_sights c_signs c_reason c_acts c_meetings c_clashes c_first c_where c_door c_wider c_ordersFound c_firstOrder c_least c_leastOrder c_book c_width c_key c_wide c_delay c_ahead c_after c_sight c_image_129x c_isKept) → va_S A s.heap H locs → lv_has ls 4 [(0, .ref h_this), (1, .int l1), (2, .int (100 * l1))] → W p l e rm_X11_image s m args below meth c H locs 0 0 Z (F0 m 158 ls []) := by
          intro H locs ls hP hD hS hl
          refine lv_iconst (v := 0) hx hb dX11_image_158 (by decide) ?_
          refine lv_istore_n (lv' := [(3, .int 0), (0, .ref h_this), (1, .int l1), (2, .int (100 * l1))]) hx hb dX11_image_159 rfl hl (by decide) rfl (fun ls hl => ?_)
          obtain ⟨l3_160x, c_image_160x, hq_160, hf⟩ := bd2_some hf
          have K_160 : ∀ (H : Heap) (locs : List Loc) (ls : Array Slot), va_P (dC, dI) vwCl (w_X11_image cI cJ cZ h_this h_this_book h_this_width h_this_key h_this_wide h_this_delay h_this_ahead h_this_after h_this_sight h_this_image h_this_isKept g_this_now g_this_pad g_this_counts g_this_isOne g_this_ways c_rules c_sights c_signs c_reason c_acts c_meetings c_clashes c_first c_where c_door c_wider c_ordersFound c_firstOrder c_least c_leastOrder c_book c_width c_key c_wide c_delay c_ahead c_after c_sight c_image_160x c_isKept) H → va_D A (w_X11_image cI cJ cZ h_this h_this_book h_this_width h_this_key h_this_wide h_this_delay h_this_ahead h_this_after h_this_sight h_this_image h_this_isKept g_this_now g_this_pad g_this_counts g_this_isOne g_this_ways c_rules c_sights c_signs c_reason c_acts c_meetings c_clashes c_first c_where c_door c_wider c_ordersFound c_firstOrder c_least c_leastOrder c_book c_width c_key c_wide c_delay c_ahead c_after c_sight c_image_160x c_isKept) → va_S A s.heap H locs → lv_has ls 4 [(0, .ref h_this), (1, .int l1), (2, .int (100 * l1))] → W p l e rm_X11_image s m args below meth c H locs 0 0 Z (F0 m 189 ls []) := by
            intro H locs ls hP hD hS hl
            refine lv_aload_n hx hb dX11_image_189 rfl (lv_at hl 0 rfl) ?_
            refine va_get (D := (dC, dI)) (ci := 11) (v := .ref h_this_image) (C := RX11) (T := TX11) (N := 30) hx hb hts in_X11_image_X11 hown hK hP 0 rfl rfl 28 (by decide) (hts _ m_X11_image_f51) (fun _ h9 => h9) rfl dX11_image_190 ?_
            refine lv_iload_n hx hb dX11_image_193 rfl (lv_at hl 2 rfl) ?_
            refine lv_bipush (v := 90) hx hb dX11_image_194 (by decide) ?_
            refine lv_iadd hx hb dX11_image_196 ?_
            refine lv_aload_n hx hb dX11_image_197 rfl (lv_at hl 0 rfl) ?_
            refine va_get (D := (dC, dI)) (ci := 11) (v := .ref h_this_delay) (C := RX11) (T := TX11) (N := 30) hx hb hts in_X11_image_X11 hown hK hP 0 rfl rfl 5 (by decide) (hts _ m_X11_image_f25) (fun _ h9 => h9) rfl dX11_image_198 ?_
            refine lv_iconst (v := 0) hx hb dX11_image_201 (by decide) ?_
            obtain ⟨g_202, hf⟩ := gd_some hf
            refine va_iald hx hb hK hP 5 0 rfl rfl g_202 dX11_image_202 ?_
            obtain ⟨g_203, hf⟩ := gd_some hf
            refine va_iast hx hb hK hP hD hS 9 0 rfl rfl g_203 dX11_image_203 (fun H locs hP hD hS => ?_)
            have hP : va_P (dC, dI) vwCl (w_X11_image cI cJ cZ h_this h_this_book h_this_width h_this_key h_this_wide h_this_delay h_this_ahead h_this_after h_this_sight h_this_image h_this_isKept g_this_now g_this_pad g_this_counts g_this_isOne g_this_ways c_rules c_sights c_signs c_reason c_acts c_meetings c_clashes c_first c_where c_door c_wider c_ordersFound c_firstOrder c_least c_leastOrder c_book c_width c_key c_wide c_delay c_ahead c_after c_sight (upd c_image_160x (Int32.toNatClampNeg ((100 * l1) + 90)) (c_delay (Int32.toNatClampNeg 0))) c_isKept) H := hP
            have hD : va_D A (w_X11_image cI cJ cZ h_this h_this_book h_this_width h_this_key h_this_wide h_this_delay h_this_ahead h_this_after h_this_sight h_this_image h_this_isKept g_this_now g_this_pad g_this_counts g_this_isOne g_this_ways c_rules c_sights c_signs c_reason c_acts c_meetings c_clashes c_first c_where c_door c_wider c_ordersFound c_firstOrder c_least c_leastOrder c_book c_width c_key c_wide c_delay c_ahead c_after c_sight (upd c_image_160x (Int32.toNatClampNeg ((100 * l1) + 90)) (c_delay (Int32.toNatClampNeg 0))) c_isKept) := hD
            refine lv_aload_n hx hb dX11_image_204 rfl (lv_at hl 0 rfl) ?_
            refine va_get (D := (dC, dI)) (ci := 11) (v := .ref h_this_image) (C := RX11) (T := TX11) (N := 30) hx hb hts in_X11_image_X11 hown hK hP 0 rfl rfl 28 (by decide) (hts _ m_X11_image_f51) (fun _ h9 => h9) rfl dX11_image_205 ?_
            refine lv_iload_n hx hb dX11_image_208 rfl (lv_at hl 2 rfl) ?_
            refine lv_bipush (v := 91) hx hb dX11_image_209 (by decide) ?_
            refine lv_iadd hx hb dX11_image_211 ?_
            refine lv_aload_n hx hb dX11_image_212 rfl (lv_at hl 0 rfl) ?_
            refine va_get (D := (dC, dI)) (ci := 11) (v := .ref h_this_delay) (C := RX11) (T := TX11) (N := 30) hx hb hts in_X11_image_X11 hown hK hP 0 rfl rfl 5 (by decide) (hts _ m_X11_image_f25) (fun _ h9 => h9) rfl dX11_image_213 ?_
            refine lv_iconst (v := 1) hx hb dX11_image_216 (by decide) ?_
            obtain ⟨g_217, hf⟩ := gd_some hf
            refine va_iald hx hb hK hP 5 0 rfl rfl g_217 dX11_image_217 ?_
            obtain ⟨g_218, hf⟩ := gd_some hf
            refine va_iast hx hb hK hP hD hS 9 0 rfl rfl g_218 dX11_image_218 (fun H locs hP hD hS => ?_)
            have hP : va_P (dC, dI) vwCl (w_X11_image cI cJ cZ h_this h_this_book h_this_width h_this_key h_this_wide h_this_delay h_this_ahead h_this_after h_this_sight h_this_image h_this_isKept g_this_now g_this_pad g_this_counts g_this_isOne g_this_ways c_rules c_sights c_signs c_reason c_acts c_meetings c_clashes c_first c_where c_door c_wider c_ordersFound c_firstOrder c_least c_leastOrder c_book c_width c_key c_wide c_delay c_ahead c_after c_sight (upd (upd c_image_160x (Int32.toNatClampNeg ((100 * l1) + 90)) (c_delay (Int32.toNatClampNeg 0))) (Int32.toNatClampNeg ((100 * l1) + 91)) (c_delay (Int32.toNatClampNeg 1))) c_isKept) H := hP
            have hD : va_D A (w_X11_image cI cJ cZ h_this h_this_book h_this_width h_this_key h_this_wide h_this_delay h_this_ahead h_this_after h_this_sight h_this_image h_this_isKept g_this_now g_this_pad g_this_counts g_this_isOne g_this_ways c_rules c_sights c_signs c_reason c_acts c_meetings c_clashes c_first c_where c_door c_wider c_ordersFound c_firstOrder c_least c_leastOrder c_book c_width c_key c_wide c_delay c_ahead c_after c_sight (upd (upd c_image_160x (Int32.toNatClampNeg ((100 * l1) + 90)) (c_delay (Int32.toNatClampNeg 0))) (Int32.toNatClampNeg ((100 * l1) + 91)) (c_delay (Int32.toNatClampNeg 1))) c_isKept) := hD
            refine lv_aload_n hx hb dX11_image_219 rfl (lv_at hl 0 rfl) ?_
            refine va_get (D := (dC, dI)) (ci := 11) (v := .ref h_this_image) (C := RX11) (T := TX11) (N := 30) hx hb hts in_X11_image_X11 hown hK hP 0 rfl rfl 28 (by decide) (hts _ m_X11_image_f51) (fun _ h9 => h9) rfl dX11_image_220 ?_
            refine lv_iload_n hx hb dX11_image_223 rfl (lv_at hl 2 rfl) ?_
            refine lv_bipush (v := 92) hx hb dX11_image_224 (by decide) ?_
            refine lv_iadd hx hb dX11_image_226 ?_
            refine lv_aload_n hx hb dX11_image_227 rfl (lv_at hl 0 rfl) ?_
            refine va_get (D := (dC, dI)) (ci := 11) (v := .int c_rules) (C := RX11) (T := TX11) (N := 30) hx hb hts in_X11_image_X11 hown hK hP 0 rfl rfl 6 (by decide) (hts _ m_X11_image_f145) (fun _ h9 => h9) rfl dX11_image_228 ?_
            obtain ⟨g_231, hf⟩ := gd_some hf
            refine va_iast hx hb hK hP hD hS 9 0 rfl rfl g_231 dX11_image_231 (fun H locs hP hD hS => ?_)
            have hP : va_P (dC, dI) vwCl (w_X11_image cI cJ cZ h_this h_this_book h_this_width h_this_key h_this_wide h_this_delay h_this_ahead h_this_after h_this_sight h_this_image h_this_isKept g_this_now g_this_pad g_this_counts g_this_isOne g_this_ways c_rules c_sights c_signs c_reason c_acts c_meetings c_clashes c_first c_where c_door c_wider c_ordersFound c_firstOrder c_least c_leastOrder c_book c_width c_key c_wide c_delay c_ahead c_after c_sight (upd (upd (upd c_image_160x (Int32.toNatClampNeg ((100 * l1) + 90)) (c_delay (Int32.toNatClampNeg 0))) (Int32.toNatClampNeg ((100 * l1) + 91)) (c_delay (Int32.toNatClampNeg 1))) (Int32.toNatClampNeg ((100 * l1) + 92)) c_rules) c_isKept) H := hP
            have hD : va_D A (w_X11_image cI cJ cZ h_this h_this_book h_this_width h_this_key h_this_wide h_this_delay h_this_ahead h_this_after h_this_sight h_this_image h_this_isKept g_this_now g_this_pad g_this_counts g_this_isOne g_this_ways c_rules c_sights c_signs c_reason c_acts c_meetings c_clashes c_first c_where c_door c_wider c_ordersFound c_firstOrder c_least c_leastOrder c_book c_width c_key c_wide c_delay c_ahead c_after c_sight (upd (upd (upd c_image_160x (Int32.toNatClampNeg ((100 * l1) + 90)) (c_delay (Int32.toNatClampNeg 0))) (Int32.toNatClampNeg ((100 * l1) + 91)) (c_delay (Int32.toNatClampNeg 1))) (Int32.toNatClampNeg ((100 * l1) + 92)) c_rules) c_isKept) := hD
            refine lv_aload_n hx hb dX11_image_232 rfl (lv_at hl 0 rfl) ?_
            refine va_get (D := (dC, dI)) (ci := 11) (v := .ref h_this_image) (C := RX11) (T := TX11) (N := 30) hx hb hts in_X11_image_X11 hown hK hP 0 rfl rfl 28 (by decide) (hts _ m_X11_image_f51) (fun _ h9 => h9) rfl dX11_image_233 ?_
            refine lv_iload_n hx hb dX11_image_236 rfl (lv_at hl 2 rfl) ?_
            refine lv_bipush (v := 93) hx hb dX11_image_237 (by decide) ?_
            refine lv_iadd hx hb dX11_image_239 ?_
            refine lv_aload_n hx hb dX11_image_240 rfl (lv_at hl 0 rfl) ?_
            refine va_get (D := (dC, dI)) (ci := 11) (v := .int c_sights) (C := RX11) (T := TX11) (N := 30) hx hb hts in_X11_image_X11 hown hK hP 0 rfl rfl 9 (by decide) (hts _ m_X11_image_f177) (fun _ h9 => h9) rfl dX11_image_241 ?_
            obtain ⟨g_244, hf⟩ := gd_some hf
            refine va_iast hx hb hK hP hD hS 9 0 rfl rfl g_244 dX11_image_244 (fun H locs hP hD hS => ?_)
            have hP : va_P (dC, dI) vwCl (w_X11_image cI cJ cZ h_this h_this_book h_this_width h_this_key h_this_wide h_this_delay h_this_ahead h_this_after h_this_sight h_this_image h_this_isKept g_this_now g_this_pad g_this_counts g_this_isOne g_this_ways c_rules c_sights c_signs c_reason c_acts c_meetings c_clashes c_first c_where c_door c_wider c_ordersFound c_firstOrder c_least c_leastOrder c_book c_width c_key c_wide c_delay c_ahead c_after c_sight (upd (upd (upd (upd c_image_160x (Int32.toNatClampNeg ((100 * l1) + 90)) (c_delay (Int32.toNatClampNeg 0))) (Int32.toNatClampNeg ((100 * l1) + 91)) (c_delay (Int32.toNatClampNeg 1))) (Int32.toNatClampNeg ((100 * l1) + 92)) c_rules) (Int32.toNatClampNeg ((100 * l1) + 93)) c_sights) c_isKept) H := hP
            have hD : va_D A (w_X11_image cI cJ cZ h_this h_this_book h_this_width h_this_key h_this_wide h_this_delay h_this_ahead h_this_after h_this_sight h_this_image h_this_isKept g_this_now g_this_pad g_this_counts g_this_isOne g_this_ways c_rules c_sights c_signs c_reason c_acts c_meetings c_clashes c_first c_where c_door c_wider c_ordersFound c_firstOrder c_least c_leastOrder c_book c_width c_key c_wide c_delay c_ahead c_after c_sight (upd (upd (upd (upd c_image_160x (Int32.toNatClampNeg ((100 * l1) + 90)) (c_delay (Int32.toNatClampNeg 0))) (Int32.toNatClampNeg ((100 * l1) + 91)) (c_delay (Int32.toNatClampNeg 1))) (Int32.toNatClampNeg ((100 * l1) + 92)) c_rules) (Int32.toNatClampNeg ((100 * l1) + 93)) c_sights) c_isKept) := hD
            refine lv_aload_n hx hb dX11_image_245 rfl (lv_at hl 0 rfl) ?_
            refine va_get (D := (dC, dI)) (ci := 11) (v := .ref h_this_isKept) (C := RX11) (T := TX11) (N := 30) hx hb hts in_X11_image_X11 hown hK hP 0 rfl rfl 29 (by decide) (hts _ m_X11_image_f54) (fun _ h9 => h9) rfl dX11_image_246 ?_
            refine lv_iload_n hx hb dX11_image_249 rfl (lv_at hl 1 rfl) ?_
            refine lv_iconst (v := 1) hx hb dX11_image_250 (by decide) ?_
            obtain ⟨g_251, hf⟩ := gd_some hf
            refine va_zast hx hb hK hP hD hS 10 2 rfl rfl g_251 dX11_image_251 (fun H locs hP hD hS => ?_)
            have hP : va_P (dC, dI) vwCl (w_X11_image cI cJ cZ h_this h_this_book h_this_width h_this_key h_this_wide h_this_delay h_this_ahead h_this_after h_this_sight h_this_image h_this_isKept g_this_now g_this_pad g_this_counts g_this_isOne g_this_ways c_rules c_sights c_signs c_reason c_acts c_meetings c_clashes c_first c_where c_door c_wider c_ordersFound c_firstOrder c_least c_leastOrder c_book c_width c_key c_wide c_delay c_ahead c_after c_sight (upd (upd (upd (upd c_image_160x (Int32.toNatClampNeg ((100 * l1) + 90)) (c_delay (Int32.toNatClampNeg 0))) (Int32.toNatClampNeg ((100 * l1) + 91)) (c_delay (Int32.toNatClampNeg 1))) (Int32.toNatClampNeg ((100 * l1) + 92)) c_rules) (Int32.toNatClampNeg ((100 * l1) + 93)) c_sights) (upd c_isKept (Int32.toNatClampNeg l1) (vp_nar .boolean 1))) H := hP
            have hD : va_D A (w_X11_image cI cJ cZ h_this h_this_book h_this_width h_this_key h_this_wide h_this_delay h_this_ahead h_this_after h_this_sight h_this_image h_this_isKept g_this_now g_this_pad g_this_counts g_this_isOne g_this_ways c_rules c_sights c_signs c_reason c_acts c_meetings c_clashes c_first c_where c_door c_wider c_ordersFound c_firstOrder c_least c_leastOrder c_book c_width c_key c_wide c_delay c_ahead c_after c_sight (upd (upd (upd (upd c_image_160x (Int32.toNatClampNeg ((100 * l1) + 90)) (c_delay (Int32.toNatClampNeg 0))) (Int32.toNatClampNeg ((100 * l1) + 91)) (c_delay (Int32.toNatClampNeg 1))) (Int32.toNatClampNeg ((100 * l1) + 92)) c_rules) (Int32.toNatClampNeg ((100 * l1) + 93)) c_sights) (upd c_isKept (Int32.toNatClampNeg l1) (vp_nar .boolean 1))) := hD
            refine lv_iconst (v := 1) hx hb dX11_image_252 (by decide) ?_
            have e_f := Option.some.inj hf
            cases e_f
            exact hret rfl hP hD hS dX11_image_253
          have L_160 : ∀ (n : Nat) (l3_160 : Int32) (c_image_160 : Nat → Int32) (H : Heap) (locs : List Loc) (ls : Array Slot), va_P (dC, dI) vwCl (w_X11_image cI cJ cZ h_this h_this_book h_this_width h_this_key h_this_wide h_this_delay h_this_ahead h_this_after h_this_sight h_this_image h_this_isKept g_this_now g_this_pad g_this_counts g_this_isOne g_this_ways c_rules c_sights c_signs c_reason c_acts c_meetings c_clashes c_first c_where c_door c_wider c_ordersFound c_firstOrder c_least c_leastOrder c_book c_width c_key c_wide c_delay c_ahead c_after c_sight c_image_160 c_isKept) H → va_D A (w_X11_image cI cJ cZ h_this h_this_book h_this_width h_this_key h_this_wide h_this_delay h_this_ahead h_this_after h_this_sight h_this_image h_this_isKept g_this_now g_this_pad g_this_counts g_this_isOne g_this_ways c_rules c_sights c_signs c_reason c_acts c_meetings c_clashes c_first c_where c_door c_wider c_ordersFound c_firstOrder c_least c_leastOrder c_book c_width c_key c_wide c_delay c_ahead c_after c_sight c_image_160 c_isKept) → va_S A s.heap H locs → lv_has ls 4 [(0, .ref h_this), (1, .int l1), (2, .int (100 * l1)), (3, .int l3_160)] → loopN (fun (q : Int32 × (Nat → Int32)) => f_X11_image_b160 c_sight q.1 q.2 (100 * l1)) n (l3_160, c_image_160) = some (l3_160x, c_image_160x) → W p l e rm_X11_image s m args below meth c H locs 0 0 Z (F0 m 160 ls []) := by
            intro n
            induction n with
            | zero => intro l3_160 c_image_160 H locs ls hP hD hS hl hq; exact (loopN_zero hq).elim
            | succ n ih_160 =>
              intro l3_160 c_image_160 H locs ls hP hD hS hl hq
              obtain ⟨o_160, hf, ho1_160, ho2_160⟩ := loopN_step hq
              have hf : f_X11_image_b160 c_sight l3_160 c_image_160 (100 * l1) = some o_160 := hf
              unfold f_X11_image_b160 at hf
              refine lv_iload_n hx hb dX11_image_160 rfl (lv_at hl 3 rfl) ?_
              refine lv_bipush (v := 16) hx hb dX11_image_161 (by decide) ?_
              refine lv_icmp_ge (tgt := 189) hx hb dX11_image_163 (by decide) (fun k_163 => ?_) (fun k_163 => ?_)
              · have hf := ite_t hf k_163
                have e_160 := ho2_160 _ (Option.some.inj hf).symm
                cases e_160
                exact K_160 H locs ls hP hD hS (lv_sub hl [0, 1, 2] rfl)
              · have hf := ite_f hf k_163
                refine lv_aload_n hx hb dX11_image_166 rfl (lv_at hl 0 rfl) ?_
                refine va_get (D := (dC, dI)) (ci := 11) (v := .ref h_this_image) (C := RX11) (T := TX11) (N := 30) hx hb hts in_X11_image_X11 hown hK hP 0 rfl rfl 28 (by decide) (hts _ m_X11_image_f51) (fun _ h9 => h9) rfl dX11_image_167 ?_
                refine lv_iload_n hx hb dX11_image_170 rfl (lv_at hl 2 rfl) ?_
                refine lv_bipush (v := 72) hx hb dX11_image_171 (by decide) ?_
                refine lv_iadd hx hb dX11_image_173 ?_
                refine lv_iload_n hx hb dX11_image_174 rfl (lv_at hl 3 rfl) ?_
                refine lv_iadd hx hb dX11_image_175 ?_
                refine lv_aload_n hx hb dX11_image_176 rfl (lv_at hl 0 rfl) ?_
                refine va_get (D := (dC, dI)) (ci := 11) (v := .ref h_this_sight) (C := RX11) (T := TX11) (N := 30) hx hb hts in_X11_image_X11 hown hK hP 0 rfl rfl 10 (by decide) (hts _ m_X11_image_f34) (fun _ h9 => h9) rfl dX11_image_177 ?_
                refine lv_iload_n hx hb dX11_image_180 rfl (lv_at hl 3 rfl) ?_
                obtain ⟨g_181, hf⟩ := gd_some hf
                refine va_iald hx hb hK hP 8 0 rfl rfl g_181 dX11_image_181 ?_
                obtain ⟨g_182, hf⟩ := gd_some hf
                refine va_iast hx hb hK hP hD hS 9 0 rfl rfl g_182 dX11_image_182 (fun H locs hP hD hS => ?_)
                have hP : va_P (dC, dI) vwCl (w_X11_image cI cJ cZ h_this h_this_book h_this_width h_this_key h_this_wide h_this_delay h_this_ahead h_this_after h_this_sight h_this_image h_this_isKept g_this_now g_this_pad g_this_counts g_this_isOne g_this_ways c_rules c_sights c_signs c_reason c_acts c_meetings c_clashes c_first c_where c_door c_wider c_ordersFound c_firstOrder c_least c_leastOrder c_book c_width c_key c_wide c_delay c_ahead c_after c_sight (upd c_image_160 (Int32.toNatClampNeg (((100 * l1) + 72) + l3_160)) (c_sight (Int32.toNatClampNeg l3_160))) c_isKept) H := hP
                have hD : va_D A (w_X11_image cI cJ cZ h_this h_this_book h_this_width h_this_key h_this_wide h_this_delay h_this_ahead h_this_after h_this_sight h_this_image h_this_isKept g_this_now g_this_pad g_this_counts g_this_isOne g_this_ways c_rules c_sights c_signs c_reason c_acts c_meetings c_clashes c_first c_where c_door c_wider c_ordersFound c_firstOrder c_least c_leastOrder c_book c_width c_key c_wide c_delay c_ahead c_after c_sight (upd c_image_160 (Int32.toNatClampNeg (((100 * l1) + 72) + l3_160)) (c_sight (Int32.toNatClampNeg l3_160))) c_isKept) := hD
                refine lv_iinc (v := (l3_160 + 1)) (lv' := [(3, .int (l3_160 + 1)), (0, .ref h_this), (1, .int l1), (2, .int (100 * l1))]) hx hb dX11_image_183 hl (k := 3) rfl rfl (by decide) rfl (fun ls hl => ?_)
                refine lv_goto (tgt := 160) hx hb dX11_image_186 (by decide) ?_
                exact ih_160 (l3_160 + 1) (upd c_image_160 (Int32.toNatClampNeg (((100 * l1) + 72) + l3_160)) (c_sight (Int32.toNatClampNeg l3_160))) H locs ls hP hD hS (lv_sub hl [1, 2, 3, 0] rfl) (ho1_160 _ (Option.some.inj hf).symm)
          exact L_160 FU 0 c_image_129x H locs ls hP hD hS (lv_sub hl [1, 2, 3, 0] rfl) hq_160
        have L_129 : ∀ (n : Nat) (l3_129 : Int32) (c_image_129 : Nat → Int32) (H : Heap) (locs : List Loc) (ls : Array Slot), va_P (dC, dI) vwCl (w_X11_image cI cJ cZ h_this h_this_book h_this_width h_this_key h_this_wide h_this_delay h_this_ahead h_this_after h_this_sight h_this_image h_this_isKept g_this_now g_this_pad g_this_counts g_this_isOne g_this_ways c_rules c_sights c_signs c_reason c_acts c_meetings c_clashes c_first c_where c_door c_wider c_ordersFound c_firstOrder c_least c_leastOrder c_book c_width c_key c_wide c_delay c_ahead c_after c_sight c_image_129 c_isKept) H → va_D A (w_X11_image cI cJ cZ h_this h_this_book h_this_width h_this_key h_this_wide h_this_delay h_this_ahead h_this_after h_this_sight h_this_image h_this_isKept g_this_now g_this_pad g_this_counts g_this_isOne g_this_ways c_rules c_sights c_signs c_reason c_acts c_meetings c_clashes c_first c_where c_door c_wider c_ordersFound c_firstOrder c_least c_leastOrder c_book c_width c_key c_wide c_delay c_ahead c_after c_sight c_image_129 c_isKept) → va_S A s.heap H locs → lv_has ls 4 [(0, .ref h_this), (1, .int l1), (2, .int (100 * l1)), (3, .int l3_129)] → loopN (fun (q : Int32 × (Nat → Int32)) => f_X11_image_b129 c_wide q.1 q.2 (100 * l1)) n (l3_129, c_image_129) = some (l3_129x, c_image_129x) → W p l e rm_X11_image s m args below meth c H locs 0 0 Z (F0 m 129 ls []) := by
          intro n
          induction n with
          | zero => intro l3_129 c_image_129 H locs ls hP hD hS hl hq; exact (loopN_zero hq).elim
          | succ n ih_129 =>
            intro l3_129 c_image_129 H locs ls hP hD hS hl hq
            obtain ⟨o_129, hf, ho1_129, ho2_129⟩ := loopN_step hq
            have hf : f_X11_image_b129 c_wide l3_129 c_image_129 (100 * l1) = some o_129 := hf
            unfold f_X11_image_b129 at hf
            refine lv_iload_n hx hb dX11_image_129 rfl (lv_at hl 3 rfl) ?_
            refine lv_bipush (v := 17) hx hb dX11_image_130 (by decide) ?_
            refine lv_icmp_ge (tgt := 158) hx hb dX11_image_132 (by decide) (fun k_132 => ?_) (fun k_132 => ?_)
            · have hf := ite_t hf k_132
              have e_129 := ho2_129 _ (Option.some.inj hf).symm
              cases e_129
              exact K_129 H locs ls hP hD hS (lv_sub hl [0, 1, 2] rfl)
            · have hf := ite_f hf k_132
              refine lv_aload_n hx hb dX11_image_135 rfl (lv_at hl 0 rfl) ?_
              refine va_get (D := (dC, dI)) (ci := 11) (v := .ref h_this_image) (C := RX11) (T := TX11) (N := 30) hx hb hts in_X11_image_X11 hown hK hP 0 rfl rfl 28 (by decide) (hts _ m_X11_image_f51) (fun _ h9 => h9) rfl dX11_image_136 ?_
              refine lv_iload_n hx hb dX11_image_139 rfl (lv_at hl 2 rfl) ?_
              refine lv_bipush (v := 55) hx hb dX11_image_140 (by decide) ?_
              refine lv_iadd hx hb dX11_image_142 ?_
              refine lv_iload_n hx hb dX11_image_143 rfl (lv_at hl 3 rfl) ?_
              refine lv_iadd hx hb dX11_image_144 ?_
              refine lv_aload_n hx hb dX11_image_145 rfl (lv_at hl 0 rfl) ?_
              refine va_get (D := (dC, dI)) (ci := 11) (v := .ref h_this_wide) (C := RX11) (T := TX11) (N := 30) hx hb hts in_X11_image_X11 hown hK hP 0 rfl rfl 4 (by decide) (hts _ m_X11_image_f22) (fun _ h9 => h9) rfl dX11_image_146 ?_
              refine lv_iload_n hx hb dX11_image_149 rfl (lv_at hl 3 rfl) ?_
              obtain ⟨g_150, hf⟩ := gd_some hf
              refine va_iald hx hb hK hP 4 0 rfl rfl g_150 dX11_image_150 ?_
              obtain ⟨g_151, hf⟩ := gd_some hf
              refine va_iast hx hb hK hP hD hS 9 0 rfl rfl g_151 dX11_image_151 (fun H locs hP hD hS => ?_)
              have hP : va_P (dC, dI) vwCl (w_X11_image cI cJ cZ h_this h_this_book h_this_width h_this_key h_this_wide h_this_delay h_this_ahead h_this_after h_this_sight h_this_image h_this_isKept g_this_now g_this_pad g_this_counts g_this_isOne g_this_ways c_rules c_sights c_signs c_reason c_acts c_meetings c_clashes c_first c_where c_door c_wider c_ordersFound c_firstOrder c_least c_leastOrder c_book c_width c_key c_wide c_delay c_ahead c_after c_sight (upd c_image_129 (Int32.toNatClampNeg (((100 * l1) + 55) + l3_129)) (c_wide (Int32.toNatClampNeg l3_129))) c_isKept) H := hP
              have hD : va_D A (w_X11_image cI cJ cZ h_this h_this_book h_this_width h_this_key h_this_wide h_this_delay h_this_ahead h_this_after h_this_sight h_this_image h_this_isKept g_this_now g_this_pad g_this_counts g_this_isOne g_this_ways c_rules c_sights c_signs c_reason c_acts c_meetings c_clashes c_first c_where c_door c_wider c_ordersFound c_firstOrder c_least c_leastOrder c_book c_width c_key c_wide c_delay c_ahead c_after c_sight (upd c_image_129 (Int32.toNatClampNeg (((100 * l1) + 55) + l3_129)) (c_wide (Int32.toNatClampNeg l3_129))) c_isKept) := hD
              refine lv_iinc (v := (l3_129 + 1)) (lv' := [(3, .int (l3_129 + 1)), (0, .ref h_this), (1, .int l1), (2, .int (100 * l1))]) hx hb dX11_image_152 hl (k := 3) rfl rfl (by decide) rfl (fun ls hl => ?_)
              refine lv_goto (tgt := 129) hx hb dX11_image_155 (by decide) ?_
              exact ih_129 (l3_129 + 1) (upd c_image_129 (Int32.toNatClampNeg (((100 * l1) + 55) + l3_129)) (c_wide (Int32.toNatClampNeg l3_129))) H locs ls hP hD hS (lv_sub hl [1, 2, 3, 0] rfl) (ho1_129 _ (Option.some.inj hf).symm)
        exact L_129 FU 0 c_image_47x H locs ls hP hD hS (lv_sub hl [1, 2, 3, 0] rfl) hq_129
      have L_47 : ∀ (n : Nat) (l3_47 : Int32) (c_image_47 : Nat → Int32) (H : Heap) (locs : List Loc) (ls : Array Slot), va_P (dC, dI) vwCl (w_X11_image cI cJ cZ h_this h_this_book h_this_width h_this_key h_this_wide h_this_delay h_this_ahead h_this_after h_this_sight h_this_image h_this_isKept g_this_now g_this_pad g_this_counts g_this_isOne g_this_ways c_rules c_sights c_signs c_reason c_acts c_meetings c_clashes c_first c_where c_door c_wider c_ordersFound c_firstOrder c_least c_leastOrder c_book c_width c_key c_wide c_delay c_ahead c_after c_sight c_image_47 c_isKept) H → va_D A (w_X11_image cI cJ cZ h_this h_this_book h_this_width h_this_key h_this_wide h_this_delay h_this_ahead h_this_after h_this_sight h_this_image h_this_isKept g_this_now g_this_pad g_this_counts g_this_isOne g_this_ways c_rules c_sights c_signs c_reason c_acts c_meetings c_clashes c_first c_where c_door c_wider c_ordersFound c_firstOrder c_least c_leastOrder c_book c_width c_key c_wide c_delay c_ahead c_after c_sight c_image_47 c_isKept) → va_S A s.heap H locs → lv_has ls 4 [(0, .ref h_this), (1, .int l1), (2, .int (100 * l1)), (3, .int l3_47)] → loopN (fun (q : Int32 × (Nat → Int32)) => f_X11_image_b47 c_width c_key c_ahead c_after q.1 q.2 (100 * l1)) n (l3_47, c_image_47) = some (l3_47x, c_image_47x) → W p l e rm_X11_image s m args below meth c H locs 0 0 Z (F0 m 47 ls []) := by
        intro n
        induction n with
        | zero => intro l3_47 c_image_47 H locs ls hP hD hS hl hq; exact (loopN_zero hq).elim
        | succ n ih_47 =>
          intro l3_47 c_image_47 H locs ls hP hD hS hl hq
          obtain ⟨o_47, hf, ho1_47, ho2_47⟩ := loopN_step hq
          have hf : f_X11_image_b47 c_width c_key c_ahead c_after l3_47 c_image_47 (100 * l1) = some o_47 := hf
          unfold f_X11_image_b47 at hf
          refine lv_iload_n hx hb dX11_image_47 rfl (lv_at hl 3 rfl) ?_
          refine lv_bipush (v := 10) hx hb dX11_image_48 (by decide) ?_
          refine lv_icmp_ge (tgt := 127) hx hb dX11_image_50 (by decide) (fun k_50 => ?_) (fun k_50 => ?_)
          · have hf := ite_t hf k_50
            have e_47 := ho2_47 _ (Option.some.inj hf).symm
            cases e_47
            exact K_47 H locs ls hP hD hS (lv_sub hl [0, 1, 2] rfl)
          · have hf := ite_f hf k_50
            refine lv_aload_n hx hb dX11_image_53 rfl (lv_at hl 0 rfl) ?_
            refine va_get (D := (dC, dI)) (ci := 11) (v := .ref h_this_image) (C := RX11) (T := TX11) (N := 30) hx hb hts in_X11_image_X11 hown hK hP 0 rfl rfl 28 (by decide) (hts _ m_X11_image_f51) (fun _ h9 => h9) rfl dX11_image_54 ?_
            refine lv_iload_n hx hb dX11_image_57 rfl (lv_at hl 2 rfl) ?_
            refine lv_bipush (v := 15) hx hb dX11_image_58 (by decide) ?_
            refine lv_iadd hx hb dX11_image_60 ?_
            refine lv_iload_n hx hb dX11_image_61 rfl (lv_at hl 3 rfl) ?_
            refine lv_iadd hx hb dX11_image_62 ?_
            refine lv_aload_n hx hb dX11_image_63 rfl (lv_at hl 0 rfl) ?_
            refine va_get (D := (dC, dI)) (ci := 11) (v := .ref h_this_width) (C := RX11) (T := TX11) (N := 30) hx hb hts in_X11_image_X11 hown hK hP 0 rfl rfl 2 (by decide) (hts _ m_X11_image_f16) (fun _ h9 => h9) rfl dX11_image_64 ?_
            refine lv_iload_n hx hb dX11_image_67 rfl (lv_at hl 3 rfl) ?_
            obtain ⟨g_68, hf⟩ := gd_some hf
            refine va_iald hx hb hK hP 2 0 rfl rfl g_68 dX11_image_68 ?_
            obtain ⟨g_69, hf⟩ := gd_some hf
            refine va_iast hx hb hK hP hD hS 9 0 rfl rfl g_69 dX11_image_69 (fun H locs hP hD hS => ?_)
            have hP : va_P (dC, dI) vwCl (w_X11_image cI cJ cZ h_this h_this_book h_this_width h_this_key h_this_wide h_this_delay h_this_ahead h_this_after h_this_sight h_this_image h_this_isKept g_this_now g_this_pad g_this_counts g_this_isOne g_this_ways c_rules c_sights c_signs c_reason c_acts c_meetings c_clashes c_first c_where c_door c_wider c_ordersFound c_firstOrder c_least c_leastOrder c_book c_width c_key c_wide c_delay c_ahead c_after c_sight (upd c_image_47 (Int32.toNatClampNeg (((100 * l1) + 15) + l3_47)) (c_width (Int32.toNatClampNeg l3_47))) c_isKept) H := hP
            have hD : va_D A (w_X11_image cI cJ cZ h_this h_this_book h_this_width h_this_key h_this_wide h_this_delay h_this_ahead h_this_after h_this_sight h_this_image h_this_isKept g_this_now g_this_pad g_this_counts g_this_isOne g_this_ways c_rules c_sights c_signs c_reason c_acts c_meetings c_clashes c_first c_where c_door c_wider c_ordersFound c_firstOrder c_least c_leastOrder c_book c_width c_key c_wide c_delay c_ahead c_after c_sight (upd c_image_47 (Int32.toNatClampNeg (((100 * l1) + 15) + l3_47)) (c_width (Int32.toNatClampNeg l3_47))) c_isKept) := hD
            refine lv_aload_n hx hb dX11_image_70 rfl (lv_at hl 0 rfl) ?_
            refine va_get (D := (dC, dI)) (ci := 11) (v := .ref h_this_image) (C := RX11) (T := TX11) (N := 30) hx hb hts in_X11_image_X11 hown hK hP 0 rfl rfl 28 (by decide) (hts _ m_X11_image_f51) (fun _ h9 => h9) rfl dX11_image_71 ?_
            refine lv_iload_n hx hb dX11_image_74 rfl (lv_at hl 2 rfl) ?_
            refine lv_bipush (v := 25) hx hb dX11_image_75 (by decide) ?_
            refine lv_iadd hx hb dX11_image_77 ?_
            refine lv_iload_n hx hb dX11_image_78 rfl (lv_at hl 3 rfl) ?_
            refine lv_iadd hx hb dX11_image_79 ?_
            refine lv_aload_n hx hb dX11_image_80 rfl (lv_at hl 0 rfl) ?_
            refine va_get (D := (dC, dI)) (ci := 11) (v := .ref h_this_key) (C := RX11) (T := TX11) (N := 30) hx hb hts in_X11_image_X11 hown hK hP 0 rfl rfl 3 (by decide) (hts _ m_X11_image_f19) (fun _ h9 => h9) rfl dX11_image_81 ?_
            refine lv_iload_n hx hb dX11_image_84 rfl (lv_at hl 3 rfl) ?_
            obtain ⟨g_85, hf⟩ := gd_some hf
            refine va_iald hx hb hK hP 3 0 rfl rfl g_85 dX11_image_85 ?_
            obtain ⟨g_86, hf⟩ := gd_some hf
            refine va_iast hx hb hK hP hD hS 9 0 rfl rfl g_86 dX11_image_86 (fun H locs hP hD hS => ?_)
            have hP : va_P (dC, dI) vwCl (w_X11_image cI cJ cZ h_this h_this_book h_this_width h_this_key h_this_wide h_this_delay h_this_ahead h_this_after h_this_sight h_this_image h_this_isKept g_this_now g_this_pad g_this_counts g_this_isOne g_this_ways c_rules c_sights c_signs c_reason c_acts c_meetings c_clashes c_first c_where c_door c_wider c_ordersFound c_firstOrder c_least c_leastOrder c_book c_width c_key c_wide c_delay c_ahead c_after c_sight (upd (upd c_image_47 (Int32.toNatClampNeg (((100 * l1) + 15) + l3_47)) (c_width (Int32.toNatClampNeg l3_47))) (Int32.toNatClampNeg (((100 * l1) + 25) + l3_47)) (c_key (Int32.toNatClampNeg l3_47))) c_isKept) H := hP
            have hD : va_D A (w_X11_image cI cJ cZ h_this h_this_book h_this_width h_this_key h_this_wide h_this_delay h_this_ahead h_this_after h_this_sight h_this_image h_this_isKept g_this_now g_this_pad g_this_counts g_this_isOne g_this_ways c_rules c_sights c_signs c_reason c_acts c_meetings c_clashes c_first c_where c_door c_wider c_ordersFound c_firstOrder c_least c_leastOrder c_book c_width c_key c_wide c_delay c_ahead c_after c_sight (upd (upd c_image_47 (Int32.toNatClampNeg (((100 * l1) + 15) + l3_47)) (c_width (Int32.toNatClampNeg l3_47))) (Int32.toNatClampNeg (((100 * l1) + 25) + l3_47)) (c_key (Int32.toNatClampNeg l3_47))) c_isKept) := hD
            refine lv_aload_n hx hb dX11_image_87 rfl (lv_at hl 0 rfl) ?_
            refine va_get (D := (dC, dI)) (ci := 11) (v := .ref h_this_image) (C := RX11) (T := TX11) (N := 30) hx hb hts in_X11_image_X11 hown hK hP 0 rfl rfl 28 (by decide) (hts _ m_X11_image_f51) (fun _ h9 => h9) rfl dX11_image_88 ?_
            refine lv_iload_n hx hb dX11_image_91 rfl (lv_at hl 2 rfl) ?_
            refine lv_bipush (v := 35) hx hb dX11_image_92 (by decide) ?_
            refine lv_iadd hx hb dX11_image_94 ?_
            refine lv_iload_n hx hb dX11_image_95 rfl (lv_at hl 3 rfl) ?_
            refine lv_iadd hx hb dX11_image_96 ?_
            refine lv_aload_n hx hb dX11_image_97 rfl (lv_at hl 0 rfl) ?_
            refine va_get (D := (dC, dI)) (ci := 11) (v := .ref h_this_ahead) (C := RX11) (T := TX11) (N := 30) hx hb hts in_X11_image_X11 hown hK hP 0 rfl rfl 7 (by decide) (hts _ m_X11_image_f28) (fun _ h9 => h9) rfl dX11_image_98 ?_
            refine lv_iload_n hx hb dX11_image_101 rfl (lv_at hl 3 rfl) ?_
            obtain ⟨g_102, hf⟩ := gd_some hf
            refine va_iald hx hb hK hP 6 0 rfl rfl g_102 dX11_image_102 ?_
            obtain ⟨g_103, hf⟩ := gd_some hf
            refine va_iast hx hb hK hP hD hS 9 0 rfl rfl g_103 dX11_image_103 (fun H locs hP hD hS => ?_)
            have hP : va_P (dC, dI) vwCl (w_X11_image cI cJ cZ h_this h_this_book h_this_width h_this_key h_this_wide h_this_delay h_this_ahead h_this_after h_this_sight h_this_image h_this_isKept g_this_now g_this_pad g_this_counts g_this_isOne g_this_ways c_rules c_sights c_signs c_reason c_acts c_meetings c_clashes c_first c_where c_door c_wider c_ordersFound c_firstOrder c_least c_leastOrder c_book c_width c_key c_wide c_delay c_ahead c_after c_sight (upd (upd (upd c_image_47 (Int32.toNatClampNeg (((100 * l1) + 15) + l3_47)) (c_width (Int32.toNatClampNeg l3_47))) (Int32.toNatClampNeg (((100 * l1) + 25) + l3_47)) (c_key (Int32.toNatClampNeg l3_47))) (Int32.toNatClampNeg (((100 * l1) + 35) + l3_47)) (c_ahead (Int32.toNatClampNeg l3_47))) c_isKept) H := hP
            have hD : va_D A (w_X11_image cI cJ cZ h_this h_this_book h_this_width h_this_key h_this_wide h_this_delay h_this_ahead h_this_after h_this_sight h_this_image h_this_isKept g_this_now g_this_pad g_this_counts g_this_isOne g_this_ways c_rules c_sights c_signs c_reason c_acts c_meetings c_clashes c_first c_where c_door c_wider c_ordersFound c_firstOrder c_least c_leastOrder c_book c_width c_key c_wide c_delay c_ahead c_after c_sight (upd (upd (upd c_image_47 (Int32.toNatClampNeg (((100 * l1) + 15) + l3_47)) (c_width (Int32.toNatClampNeg l3_47))) (Int32.toNatClampNeg (((100 * l1) + 25) + l3_47)) (c_key (Int32.toNatClampNeg l3_47))) (Int32.toNatClampNeg (((100 * l1) + 35) + l3_47)) (c_ahead (Int32.toNatClampNeg l3_47))) c_isKept) := hD
            refine lv_aload_n hx hb dX11_image_104 rfl (lv_at hl 0 rfl) ?_
            refine va_get (D := (dC, dI)) (ci := 11) (v := .ref h_this_image) (C := RX11) (T := TX11) (N := 30) hx hb hts in_X11_image_X11 hown hK hP 0 rfl rfl 28 (by decide) (hts _ m_X11_image_f51) (fun _ h9 => h9) rfl dX11_image_105 ?_
            refine lv_iload_n hx hb dX11_image_108 rfl (lv_at hl 2 rfl) ?_
            refine lv_bipush (v := 45) hx hb dX11_image_109 (by decide) ?_
            refine lv_iadd hx hb dX11_image_111 ?_
            refine lv_iload_n hx hb dX11_image_112 rfl (lv_at hl 3 rfl) ?_
            refine lv_iadd hx hb dX11_image_113 ?_
            refine lv_aload_n hx hb dX11_image_114 rfl (lv_at hl 0 rfl) ?_
            refine va_get (D := (dC, dI)) (ci := 11) (v := .ref h_this_after) (C := RX11) (T := TX11) (N := 30) hx hb hts in_X11_image_X11 hown hK hP 0 rfl rfl 8 (by decide) (hts _ m_X11_image_f31) (fun _ h9 => h9) rfl dX11_image_115 ?_
            refine lv_iload_n hx hb dX11_image_118 rfl (lv_at hl 3 rfl) ?_
            obtain ⟨g_119, hf⟩ := gd_some hf
            refine va_iald hx hb hK hP 7 0 rfl rfl g_119 dX11_image_119 ?_
            obtain ⟨g_120, hf⟩ := gd_some hf
            refine va_iast hx hb hK hP hD hS 9 0 rfl rfl g_120 dX11_image_120 (fun H locs hP hD hS => ?_)
            have hP : va_P (dC, dI) vwCl (w_X11_image cI cJ cZ h_this h_this_book h_this_width h_this_key h_this_wide h_this_delay h_this_ahead h_this_after h_this_sight h_this_image h_this_isKept g_this_now g_this_pad g_this_counts g_this_isOne g_this_ways c_rules c_sights c_signs c_reason c_acts c_meetings c_clashes c_first c_where c_door c_wider c_ordersFound c_firstOrder c_least c_leastOrder c_book c_width c_key c_wide c_delay c_ahead c_after c_sight (upd (upd (upd (upd c_image_47 (Int32.toNatClampNeg (((100 * l1) + 15) + l3_47)) (c_width (Int32.toNatClampNeg l3_47))) (Int32.toNatClampNeg (((100 * l1) + 25) + l3_47)) (c_key (Int32.toNatClampNeg l3_47))) (Int32.toNatClampNeg (((100 * l1) + 35) + l3_47)) (c_ahead (Int32.toNatClampNeg l3_47))) (Int32.toNatClampNeg (((100 * l1) + 45) + l3_47)) (c_after (Int32.toNatClampNeg l3_47))) c_isKept) H := hP
            have hD : va_D A (w_X11_image cI cJ cZ h_this h_this_book h_this_width h_this_key h_this_wide h_this_delay h_this_ahead h_this_after h_this_sight h_this_image h_this_isKept g_this_now g_this_pad g_this_counts g_this_isOne g_this_ways c_rules c_sights c_signs c_reason c_acts c_meetings c_clashes c_first c_where c_door c_wider c_ordersFound c_firstOrder c_least c_leastOrder c_book c_width c_key c_wide c_delay c_ahead c_after c_sight (upd (upd (upd (upd c_image_47 (Int32.toNatClampNeg (((100 * l1) + 15) + l3_47)) (c_width (Int32.toNatClampNeg l3_47))) (Int32.toNatClampNeg (((100 * l1) + 25) + l3_47)) (c_key (Int32.toNatClampNeg l3_47))) (Int32.toNatClampNeg (((100 * l1) + 35) + l3_47)) (c_ahead (Int32.toNatClampNeg l3_47))) (Int32.toNatClampNeg (((100 * l1) + 45) + l3_47)) (c_after (Int32.toNatClampNeg l3_47))) c_isKept) := hD
            refine lv_iinc (v := (l3_47 + 1)) (lv' := [(3, .int (l3_47 + 1)), (0, .ref h_this), (1, .int l1), (2, .int (100 * l1))]) hx hb dX11_image_121 hl (k := 3) rfl rfl (by decide) rfl (fun ls hl => ?_)
            refine lv_goto (tgt := 47) hx hb dX11_image_124 (by decide) ?_
            exact ih_47 (l3_47 + 1) (upd (upd (upd (upd c_image_47 (Int32.toNatClampNeg (((100 * l1) + 15) + l3_47)) (c_width (Int32.toNatClampNeg l3_47))) (Int32.toNatClampNeg (((100 * l1) + 25) + l3_47)) (c_key (Int32.toNatClampNeg l3_47))) (Int32.toNatClampNeg (((100 * l1) + 35) + l3_47)) (c_ahead (Int32.toNatClampNeg l3_47))) (Int32.toNatClampNeg (((100 * l1) + 45) + l3_47)) (c_after (Int32.toNatClampNeg l3_47))) H locs ls hP hD hS (lv_sub hl [1, 2, 3, 0] rfl) (ho1_47 _ (Option.some.inj hf).symm)
      exact L_47 FU 0 c_image_19x H locs ls hP hD hS (lv_sub hl [1, 2, 3, 0] rfl) hq_47
    have L_19 : ∀ (n : Nat) (l3_19 : Int32) (c_image_19 : Nat → Int32) (H : Heap) (locs : List Loc) (ls : Array Slot), va_P (dC, dI) vwCl (w_X11_image cI cJ cZ h_this h_this_book h_this_width h_this_key h_this_wide h_this_delay h_this_ahead h_this_after h_this_sight h_this_image h_this_isKept g_this_now g_this_pad g_this_counts g_this_isOne g_this_ways c_rules c_sights c_signs c_reason c_acts c_meetings c_clashes c_first c_where c_door c_wider c_ordersFound c_firstOrder c_least c_leastOrder c_book c_width c_key c_wide c_delay c_ahead c_after c_sight c_image_19 c_isKept) H → va_D A (w_X11_image cI cJ cZ h_this h_this_book h_this_width h_this_key h_this_wide h_this_delay h_this_ahead h_this_after h_this_sight h_this_image h_this_isKept g_this_now g_this_pad g_this_counts g_this_isOne g_this_ways c_rules c_sights c_signs c_reason c_acts c_meetings c_clashes c_first c_where c_door c_wider c_ordersFound c_firstOrder c_least c_leastOrder c_book c_width c_key c_wide c_delay c_ahead c_after c_sight c_image_19 c_isKept) → va_S A s.heap H locs → lv_has ls 4 [(0, .ref h_this), (1, .int l1), (2, .int (100 * l1)), (3, .int l3_19)] → loopN (fun (q : Int32 × (Nat → Int32)) => f_X11_image_b19 c_book q.1 q.2 (100 * l1)) n (l3_19, c_image_19) = some (l3_19x, c_image_19x) → W p l e rm_X11_image s m args below meth c H locs 0 0 Z (F0 m 19 ls []) := by
      intro n
      induction n with
      | zero => intro l3_19 c_image_19 H locs ls hP hD hS hl hq; exact (loopN_zero hq).elim
      | succ n ih_19 =>
        intro l3_19 c_image_19 H locs ls hP hD hS hl hq
        obtain ⟨o_19, hf, ho1_19, ho2_19⟩ := loopN_step hq
        have hf : f_X11_image_b19 c_book l3_19 c_image_19 (100 * l1) = some o_19 := hf
        unfold f_X11_image_b19 at hf
        refine lv_iload_n hx hb dX11_image_19 rfl (lv_at hl 3 rfl) ?_
        refine lv_bipush (v := 15) hx hb dX11_image_20 (by decide) ?_
        refine lv_icmp_ge (tgt := 45) hx hb dX11_image_22 (by decide) (fun k_22 => ?_) (fun k_22 => ?_)
        · have hf := ite_t hf k_22
          have e_19 := ho2_19 _ (Option.some.inj hf).symm
          cases e_19
          exact K_19 H locs ls hP hD hS (lv_sub hl [0, 1, 2] rfl)
        · have hf := ite_f hf k_22
          refine lv_aload_n hx hb dX11_image_25 rfl (lv_at hl 0 rfl) ?_
          refine va_get (D := (dC, dI)) (ci := 11) (v := .ref h_this_image) (C := RX11) (T := TX11) (N := 30) hx hb hts in_X11_image_X11 hown hK hP 0 rfl rfl 28 (by decide) (hts _ m_X11_image_f51) (fun _ h9 => h9) rfl dX11_image_26 ?_
          refine lv_iload_n hx hb dX11_image_29 rfl (lv_at hl 2 rfl) ?_
          refine lv_iload_n hx hb dX11_image_30 rfl (lv_at hl 3 rfl) ?_
          refine lv_iadd hx hb dX11_image_31 ?_
          refine lv_aload_n hx hb dX11_image_32 rfl (lv_at hl 0 rfl) ?_
          refine va_get (D := (dC, dI)) (ci := 11) (v := .ref h_this_book) (C := RX11) (T := TX11) (N := 30) hx hb hts in_X11_image_X11 hown hK hP 0 rfl rfl 0 (by decide) (hts _ m_X11_image_f7) (fun _ h9 => h9) rfl dX11_image_33 ?_
          refine lv_iload_n hx hb dX11_image_36 rfl (lv_at hl 3 rfl) ?_
          obtain ⟨g_37, hf⟩ := gd_some hf
          refine va_iald hx hb hK hP 1 0 rfl rfl g_37 dX11_image_37 ?_
          obtain ⟨g_38, hf⟩ := gd_some hf
          refine va_iast hx hb hK hP hD hS 9 0 rfl rfl g_38 dX11_image_38 (fun H locs hP hD hS => ?_)
          have hP : va_P (dC, dI) vwCl (w_X11_image cI cJ cZ h_this h_this_book h_this_width h_this_key h_this_wide h_this_delay h_this_ahead h_this_after h_this_sight h_this_image h_this_isKept g_this_now g_this_pad g_this_counts g_this_isOne g_this_ways c_rules c_sights c_signs c_reason c_acts c_meetings c_clashes c_first c_where c_door c_wider c_ordersFound c_firstOrder c_least c_leastOrder c_book c_width c_key c_wide c_delay c_ahead c_after c_sight (upd c_image_19 (Int32.toNatClampNeg ((100 * l1) + l3_19)) (c_book (Int32.toNatClampNeg l3_19))) c_isKept) H := hP
          have hD : va_D A (w_X11_image cI cJ cZ h_this h_this_book h_this_width h_this_key h_this_wide h_this_delay h_this_ahead h_this_after h_this_sight h_this_image h_this_isKept g_this_now g_this_pad g_this_counts g_this_isOne g_this_ways c_rules c_sights c_signs c_reason c_acts c_meetings c_clashes c_first c_where c_door c_wider c_ordersFound c_firstOrder c_least c_leastOrder c_book c_width c_key c_wide c_delay c_ahead c_after c_sight (upd c_image_19 (Int32.toNatClampNeg ((100 * l1) + l3_19)) (c_book (Int32.toNatClampNeg l3_19))) c_isKept) := hD
          refine lv_iinc (v := (l3_19 + 1)) (lv' := [(3, .int (l3_19 + 1)), (0, .ref h_this), (1, .int l1), (2, .int (100 * l1))]) hx hb dX11_image_39 hl (k := 3) rfl rfl (by decide) rfl (fun ls hl => ?_)
          refine lv_goto (tgt := 19) hx hb dX11_image_42 (by decide) ?_
          exact ih_19 (l3_19 + 1) (upd c_image_19 (Int32.toNatClampNeg ((100 * l1) + l3_19)) (c_book (Int32.toNatClampNeg l3_19))) H locs ls hP hD hS (lv_sub hl [1, 2, 3, 0] rfl) (ho1_19 _ (Option.some.inj hf).symm)
    exact L_19 FU 0 c_image s.heap [] ls hP hD hS (lv_sub hl [2, 3, 1, 0] rfl) hq_19
  · have hf := ite_t hf k_6
    refine lv_bipush (v := (-2)) hx hb dX11_image_9 (by decide) ?_
    have e_f := Option.some.inj hf
    cases e_f
    exact hret rfl hP hD hS dX11_image_11
abbrev w_X11_restore (cI cJ cZ : ClassId) (h_this h_this_book h_this_width h_this_key h_this_wide h_this_delay h_this_ahead h_this_after h_this_sight h_this_image h_this_isKept g_this_now g_this_pad g_this_counts g_this_isOne g_this_ways : Nat) (c_rules : Int32) (c_sights : Int32) (c_signs : Int32) (c_reason : Int32) (c_acts : Int32) (c_meetings : Int32) (c_clashes : Int32) (c_first : Int32) (c_where : Int32) (c_door : Int32) (c_wider : Int32) (c_ordersFound : Int32) (c_firstOrder : Int32) (c_least : Int32) (c_leastOrder : Int32) (c_book : Nat → Int32) (c_width : Nat → Int32) (c_key : Nat → Int32) (c_wide : Nat → Int32) (c_delay : Nat → Int32) (c_ahead : Nat → Int32) (c_after : Nat → Int32) (c_sight : Nat → Int32) (c_image : Nat → Int32) (c_isKept : Nat → Int32) : va_W := [(h_this, .inr (11, [.ref h_this_book, .ref g_this_now, .ref h_this_width, .ref h_this_key, .ref h_this_wide, .ref h_this_delay, .int c_rules, .ref h_this_ahead, .ref h_this_after, .int c_sights, .ref h_this_sight, .int c_signs, .ref g_this_pad, .int c_reason, .int c_acts, .int c_meetings, .int c_clashes, .int c_first, .int c_where, .int c_door, .int c_wider, .int c_ordersFound, .int c_firstOrder, .int c_least, .int c_leastOrder, .ref g_this_counts, .ref g_this_isOne, .ref g_this_ways, .ref h_this_image, .ref h_this_isKept])), (h_this_book, .inl (cI, 15, .inl c_book)), (h_this_width, .inl (cI, 10, .inl c_width)), (h_this_key, .inl (cI, 10, .inl c_key)), (h_this_wide, .inl (cI, 17, .inl c_wide)), (h_this_delay, .inl (cI, 2, .inl c_delay)), (h_this_ahead, .inl (cI, 10, .inl c_ahead)), (h_this_after, .inl (cI, 10, .inl c_after)), (h_this_sight, .inl (cI, 16, .inl c_sight)), (h_this_image, .inl (cI, 200, .inl c_image)), (h_this_isKept, .inl (cZ, 2, .inl c_isKept))]
abbrev rm_X11_restore : Room := { frames := 1, cells := 0, slots := 0, locals := 22 }
theorem m_X11_restore_f54 : (.fieldLink RX11 54 "WovenRowsModel" "isKept" "[Z" : Cond) ∈ wsX11_restore := by decide +kernel
theorem in_X11_restore_X11 : ∀ w ∈ u_ws RX11 TX11 30, w ∈ wsX11_restore := by decide +kernel
theorem m_X11_restore_f7 : (.fieldLink RX11 7 "WovenRowsModel" "book" "[I" : Cond) ∈ wsX11_restore := by decide +kernel
theorem m_X11_restore_f51 : (.fieldLink RX11 51 "WovenRowsModel" "image" "[I" : Cond) ∈ wsX11_restore := by decide +kernel
theorem m_X11_restore_f16 : (.fieldLink RX11 16 "WovenRowsModel" "width" "[I" : Cond) ∈ wsX11_restore := by decide +kernel
theorem m_X11_restore_f19 : (.fieldLink RX11 19 "WovenRowsModel" "key" "[I" : Cond) ∈ wsX11_restore := by decide +kernel
theorem m_X11_restore_f28 : (.fieldLink RX11 28 "WovenRowsModel" "ahead" "[I" : Cond) ∈ wsX11_restore := by decide +kernel
theorem m_X11_restore_f31 : (.fieldLink RX11 31 "WovenRowsModel" "after" "[I" : Cond) ∈ wsX11_restore := by decide +kernel
theorem m_X11_restore_f22 : (.fieldLink RX11 22 "WovenRowsModel" "wide" "[I" : Cond) ∈ wsX11_restore := by decide +kernel
theorem m_X11_restore_f34 : (.fieldLink RX11 34 "WovenRowsModel" "sight" "[I" : Cond) ∈ wsX11_restore := by decide +kernel
theorem m_X11_restore_f25 : (.fieldLink RX11 25 "WovenRowsModel" "delay" "[I" : Cond) ∈ wsX11_restore := by decide +kernel
theorem m_X11_restore_f145 : (.fieldLink RX11 145 "WovenRowsModel" "rules" "I" : Cond) ∈ wsX11_restore := by decide +kernel
theorem m_X11_restore_f177 : (.fieldLink RX11 177 "WovenRowsModel" "sights" "I" : Cond) ∈ wsX11_restore := by decide +kernel
set_option maxRecDepth 100000 in
set_option maxHeartbeats 4000000 in
theorem c_X11_restore (l : Launch) (dC : Nat → ClassId) (dI : Nat → Nat → Nat) (cI cJ cZ : ClassId) (h_this h_this_book h_this_width h_this_key h_this_wide h_this_delay h_this_ahead h_this_after h_this_sight h_this_image h_this_isKept g_this_now g_this_pad g_this_counts g_this_isOne g_this_ways : Nat) (sz : Nat) (c_rules : Int32) (c_sights : Int32) (c_signs : Int32) (c_reason : Int32) (c_acts : Int32) (c_meetings : Int32) (c_clashes : Int32) (c_first : Int32) (c_where : Int32) (c_door : Int32) (c_wider : Int32) (c_ordersFound : Int32) (c_firstOrder : Int32) (c_least : Int32) (c_leastOrder : Int32) (c_book : Nat → Int32) (c_width : Nat → Int32) (c_key : Nat → Int32) (c_wide : Nat → Int32) (c_delay : Nat → Int32) (c_ahead : Nat → Int32) (c_after : Nat → Int32) (c_sight : Nat → Int32) (c_image : Nat → Int32) (c_isKept : Nat → Int32) (l1 : Int32) (r : Int32) (z_rules : Int32) (z_sights : Int32) (z_book : Nat → Int32) (z_width : Nat → Int32) (z_key : Nat → Int32) (z_wide : Nat → Int32) (z_delay : Nat → Int32) (z_ahead : Nat → Int32) (z_after : Nat → Int32) (z_sight : Nat → Int32) (hf : f_X11_restore c_rules c_sights c_book c_width c_key c_wide c_delay c_ahead c_after c_sight c_image c_isKept l1 = some (r, z_rules, z_sights, z_book, z_width, z_key, z_wide, z_delay, z_ahead, z_after, z_sight)) : Met l yX11_restore wsX11_restore rm_X11_restore (va_Pc [.ref h_this, .int l1] (PRE (dC, dI) (TY cI cJ cZ) sz (w_X11_restore cI cJ cZ h_this h_this_book h_this_width h_this_key h_this_wide h_this_delay h_this_ahead h_this_after h_this_sight h_this_image h_this_isKept g_this_now g_this_pad g_this_counts g_this_isOne g_this_ways c_rules c_sights c_signs c_reason c_acts c_meetings c_clashes c_first c_where c_door c_wider c_ordersFound c_firstOrder c_least c_leastOrder c_book c_width c_key c_wide c_delay c_ahead c_after c_sight c_image c_isKept))) (va_Qi (fun r' (_ : Unit) => r' = r) (POW (dC, dI) (va_A (w_X11_restore cI cJ cZ h_this h_this_book h_this_width h_this_key h_this_wide h_this_delay h_this_ahead h_this_after h_this_sight h_this_image h_this_isKept g_this_now g_this_pad g_this_counts g_this_isOne g_this_ways c_rules c_sights c_signs c_reason c_acts c_meetings c_clashes c_first c_where c_door c_wider c_ordersFound c_firstOrder c_least c_leastOrder c_book c_width c_key c_wide c_delay c_ahead c_after c_sight c_image c_isKept) sz) (w_X11_restore cI cJ cZ h_this h_this_book h_this_width h_this_key h_this_wide h_this_delay h_this_ahead h_this_after h_this_sight h_this_image h_this_isKept g_this_now g_this_pad g_this_counts g_this_isOne g_this_ways z_rules z_sights c_signs c_reason c_acts c_meetings c_clashes c_first c_where c_door c_wider c_ordersFound c_firstOrder c_least c_leastOrder z_book z_width z_key z_wide z_delay z_ahead z_after z_sight c_image c_isKept)) (va_A (w_X11_restore cI cJ cZ h_this h_this_book h_this_width h_this_key h_this_wide h_this_delay h_this_ahead h_this_after h_this_sight h_this_image h_this_isKept g_this_now g_this_pad g_this_counts g_this_isOne g_this_ways c_rules c_sights c_signs c_reason c_acts c_meetings c_clashes c_first c_where c_door c_wider c_ordersFound c_firstOrder c_least c_leastOrder c_book c_width c_key c_wide c_delay c_ahead c_after c_sight c_image c_isKept) sz)) 0 0 (va_A (w_X11_restore cI cJ cZ h_this h_this_book h_this_width h_this_key h_this_wide h_this_delay h_this_ahead h_this_after h_this_sight h_this_image h_this_isKept g_this_now g_this_pad g_this_counts g_this_isOne g_this_ways c_rules c_sights c_signs c_reason c_acts c_meetings c_clashes c_first c_where c_door c_wider c_ordersFound c_firstOrder c_least c_leastOrder c_book c_width c_key c_wide c_delay c_ahead c_after c_sight c_image c_isKept) sz) := by
  refine ofWi (ty := .int) (by decide +kernel) rfl (Nat.le_of_ble_eq_true rfl) ?_
  intro p e s m args below meth c Z A ls S hP hD hK hN hA hl hret
  obtain ⟨hx, hb, hml, hown, hts⟩ := id S
  have hown : s.vm.findClass RX11 = some m.cls := hown
  have hS : va_S A s.heap s.heap [] := va_S.rf
  have hl : lv_has ls 4 [(0, .ref h_this), (1, .int l1)] := hl
  unfold f_X11_restore at hf
  refine lv_iload_n hx hb dX11_restore_0 rfl (lv_at hl 1 rfl) ?_
  refine lv_iconst (v := 0) hx hb dX11_restore_1 (by decide) ?_
  refine lv_iconst (v := 1) hx hb dX11_restore_2 (by decide) ?_
  obtain ⟨r_3, hv_3, hf⟩ := bd1_some hf
  refine kSi (rS [.int l1, .int 0, .int 1] [] S (c_X11_in l dC dI cI cJ cZ s.heap.size l1 0 1 r_3 hv_3) (va_cwS 3 hts gX11_restore_X11_in rfl rfl rfl (by decide +kernel) ⟨Nat.le_of_ble_eq_true rfl, Nat.le_of_ble_eq_true rfl⟩) hP hD hK hN [] rfl (by decide +kernel) rfl hl.1 rfl (Nat.le_of_ble_eq_true rfl) dX11_restore_3 ⟨Nat.le_of_ble_eq_true rfl, Nat.le_of_ble_eq_true rfl⟩) ?_
  refine lv_if_ne (tgt := 12) hx hb dX11_restore_6 (by decide) (fun k_6 => ?_) (fun k_6 => ?_)
  · have hf := ite_f hf k_6
    refine lv_aload_n hx hb dX11_restore_12 rfl (lv_at hl 0 rfl) ?_
    refine va_get (D := (dC, dI)) (ci := 11) (v := .ref h_this_isKept) (C := RX11) (T := TX11) (N := 30) hx hb hts in_X11_restore_X11 hown hK hP 0 rfl rfl 29 (by decide) (hts _ m_X11_restore_f54) (fun _ h9 => h9) rfl dX11_restore_13 ?_
    refine lv_iload_n hx hb dX11_restore_16 rfl (lv_at hl 1 rfl) ?_
    obtain ⟨g_17, hf⟩ := gd_some hf
    refine va_zald hx hb hK hP 10 2 rfl rfl g_17 dX11_restore_17 ?_
    refine lv_if_ne (tgt := 24) hx hb dX11_restore_18 (by decide) (fun k_18 => ?_) (fun k_18 => ?_)
    · have hf := ite_f hf k_18
      refine lv_bipush (v := 100) hx hb dX11_restore_24 (by decide) ?_
      refine lv_iload_n hx hb dX11_restore_26 rfl (lv_at hl 1 rfl) ?_
      refine lv_imul hx hb dX11_restore_27 ?_
      refine lv_istore_n (lv' := [(2, .int (100 * l1)), (0, .ref h_this), (1, .int l1)]) hx hb dX11_restore_28 rfl hl (by decide) rfl (fun ls hl => ?_)
      refine lv_iconst (v := 0) hx hb dX11_restore_29 (by decide) ?_
      refine lv_istore_n (lv' := [(3, .int 0), (2, .int (100 * l1)), (0, .ref h_this), (1, .int l1)]) hx hb dX11_restore_30 rfl hl (by decide) rfl (fun ls hl => ?_)
      obtain ⟨l3_31x, c_book_31x, hq_31, hf⟩ := bd2_some hf
      have K_31 : ∀ (H : Heap) (locs : List Loc) (ls : Array Slot), va_P (dC, dI) vwCl (w_X11_restore cI cJ cZ h_this h_this_book h_this_width h_this_key h_this_wide h_this_delay h_this_ahead h_this_after h_this_sight h_this_image h_this_isKept g_this_now g_this_pad g_this_counts g_this_isOne g_this_ways c_rules c_sights c_signs c_reason c_acts c_meetings c_clashes c_first c_where c_door c_wider c_ordersFound c_firstOrder c_least c_leastOrder c_book_31x c_width c_key c_wide c_delay c_ahead c_after c_sight c_image c_isKept) H → va_D A (w_X11_restore cI cJ cZ h_this h_this_book h_this_width h_this_key h_this_wide h_this_delay h_this_ahead h_this_after h_this_sight h_this_image h_this_isKept g_this_now g_this_pad g_this_counts g_this_isOne g_this_ways c_rules c_sights c_signs c_reason c_acts c_meetings c_clashes c_first c_where c_door c_wider c_ordersFound c_firstOrder c_least c_leastOrder c_book_31x c_width c_key c_wide c_delay c_ahead c_after c_sight c_image c_isKept) → va_S A s.heap H locs → lv_has ls 4 [(0, .ref h_this), (2, .int (100 * l1))] → W p l e rm_X11_restore s m args below meth c H locs 0 0 Z (F0 m 57 ls []) := by
        intro H locs ls hP hD hS hl
        refine lv_iconst (v := 0) hx hb dX11_restore_57 (by decide) ?_
        refine lv_istore_n (lv' := [(3, .int 0), (0, .ref h_this), (2, .int (100 * l1))]) hx hb dX11_restore_58 rfl hl (by decide) rfl (fun ls hl => ?_)
        obtain ⟨l3_59x, c_width_59x, c_key_59x, c_ahead_59x, c_after_59x, hq_59, hf⟩ := bd5_some hf
        have K_59 : ∀ (H : Heap) (locs : List Loc) (ls : Array Slot), va_P (dC, dI) vwCl (w_X11_restore cI cJ cZ h_this h_this_book h_this_width h_this_key h_this_wide h_this_delay h_this_ahead h_this_after h_this_sight h_this_image h_this_isKept g_this_now g_this_pad g_this_counts g_this_isOne g_this_ways c_rules c_sights c_signs c_reason c_acts c_meetings c_clashes c_first c_where c_door c_wider c_ordersFound c_firstOrder c_least c_leastOrder c_book_31x c_width_59x c_key_59x c_wide c_delay c_ahead_59x c_after_59x c_sight c_image c_isKept) H → va_D A (w_X11_restore cI cJ cZ h_this h_this_book h_this_width h_this_key h_this_wide h_this_delay h_this_ahead h_this_after h_this_sight h_this_image h_this_isKept g_this_now g_this_pad g_this_counts g_this_isOne g_this_ways c_rules c_sights c_signs c_reason c_acts c_meetings c_clashes c_first c_where c_door c_wider c_ordersFound c_firstOrder c_least c_leastOrder c_book_31x c_width_59x c_key_59x c_wide c_delay c_ahead_59x c_after_59x c_sight c_image c_isKept) → va_S A s.heap H locs → lv_has ls 4 [(0, .ref h_this), (2, .int (100 * l1))] → W p l e rm_X11_restore s m args below meth c H locs 0 0 Z (F0 m 139 ls []) := by
          intro H locs ls hP hD hS hl
          refine lv_iconst (v := 0) hx hb dX11_restore_139 (by decide) ?_
          refine lv_istore_n (lv' := [(3, .int 0), (0, .ref h_this), (2, .int (100 * l1))]) hx hb dX11_restore_140 rfl hl (by decide) rfl (fun ls hl => ?_)
          obtain ⟨l3_141x, c_wide_141x, hq_141, hf⟩ := bd2_some hf
          have K_141 : ∀ (H : Heap) (locs : List Loc) (ls : Array Slot), va_P (dC, dI) vwCl (w_X11_restore cI cJ cZ h_this h_this_book h_this_width h_this_key h_this_wide h_this_delay h_this_ahead h_this_after h_this_sight h_this_image h_this_isKept g_this_now g_this_pad g_this_counts g_this_isOne g_this_ways c_rules c_sights c_signs c_reason c_acts c_meetings c_clashes c_first c_where c_door c_wider c_ordersFound c_firstOrder c_least c_leastOrder c_book_31x c_width_59x c_key_59x c_wide_141x c_delay c_ahead_59x c_after_59x c_sight c_image c_isKept) H → va_D A (w_X11_restore cI cJ cZ h_this h_this_book h_this_width h_this_key h_this_wide h_this_delay h_this_ahead h_this_after h_this_sight h_this_image h_this_isKept g_this_now g_this_pad g_this_counts g_this_isOne g_this_ways c_rules c_sights c_signs c_reason c_acts c_meetings c_clashes c_first c_where c_door c_wider c_ordersFound c_firstOrder c_least c_leastOrder c_book_31x c_width_59x c_key_59x c_wide_141x c_delay c_ahead_59x c_after_59x c_sight c_image c_isKept) → va_S A s.heap H locs → lv_has ls 4 [(0, .ref h_this), (2, .int (100 * l1))] → W p l e rm_X11_restore s m args below meth c H locs 0 0 Z (F0 m 170 ls []) := by
            intro H locs ls hP hD hS hl
            refine lv_iconst (v := 0) hx hb dX11_restore_170 (by decide) ?_
            refine lv_istore_n (lv' := [(3, .int 0), (0, .ref h_this), (2, .int (100 * l1))]) hx hb dX11_restore_171 rfl hl (by decide) rfl (fun ls hl => ?_)
            obtain ⟨l3_172x, c_sight_172x, hq_172, hf⟩ := bd2_some hf
            have K_172 : ∀ (H : Heap) (locs : List Loc) (ls : Array Slot), va_P (dC, dI) vwCl (w_X11_restore cI cJ cZ h_this h_this_book h_this_width h_this_key h_this_wide h_this_delay h_this_ahead h_this_after h_this_sight h_this_image h_this_isKept g_this_now g_this_pad g_this_counts g_this_isOne g_this_ways c_rules c_sights c_signs c_reason c_acts c_meetings c_clashes c_first c_where c_door c_wider c_ordersFound c_firstOrder c_least c_leastOrder c_book_31x c_width_59x c_key_59x c_wide_141x c_delay c_ahead_59x c_after_59x c_sight_172x c_image c_isKept) H → va_D A (w_X11_restore cI cJ cZ h_this h_this_book h_this_width h_this_key h_this_wide h_this_delay h_this_ahead h_this_after h_this_sight h_this_image h_this_isKept g_this_now g_this_pad g_this_counts g_this_isOne g_this_ways c_rules c_sights c_signs c_reason c_acts c_meetings c_clashes c_first c_where c_door c_wider c_ordersFound c_firstOrder c_least c_leastOrder c_book_31x c_width_59x c_key_59x c_wide_141x c_delay c_ahead_59x c_after_59x c_sight_172x c_image c_isKept) → va_S A s.heap H locs → lv_has ls 4 [(0, .ref h_this), (2, .int (100 * l1))] → W p l e rm_X11_restore s m args below meth c H locs 0 0 Z (F0 m 201 ls []) := by
              intro H locs ls hP hD hS hl
              refine lv_aload_n hx hb dX11_restore_201 rfl (lv_at hl 0 rfl) ?_
              refine va_get (D := (dC, dI)) (ci := 11) (v := .ref h_this_delay) (C := RX11) (T := TX11) (N := 30) hx hb hts in_X11_restore_X11 hown hK hP 0 rfl rfl 5 (by decide) (hts _ m_X11_restore_f25) (fun _ h9 => h9) rfl dX11_restore_202 ?_
              refine lv_iconst (v := 0) hx hb dX11_restore_205 (by decide) ?_
              refine lv_aload_n hx hb dX11_restore_206 rfl (lv_at hl 0 rfl) ?_
              refine va_get (D := (dC, dI)) (ci := 11) (v := .ref h_this_image) (C := RX11) (T := TX11) (N := 30) hx hb hts in_X11_restore_X11 hown hK hP 0 rfl rfl 28 (by decide) (hts _ m_X11_restore_f51) (fun _ h9 => h9) rfl dX11_restore_207 ?_
              refine lv_iload_n hx hb dX11_restore_210 rfl (lv_at hl 1 rfl) ?_
              refine lv_bipush (v := 90) hx hb dX11_restore_211 (by decide) ?_
              refine lv_iadd hx hb dX11_restore_213 ?_
              obtain ⟨g_214, hf⟩ := gd_some hf
              refine va_iald hx hb hK hP 9 0 rfl rfl g_214 dX11_restore_214 ?_
              obtain ⟨g_215, hf⟩ := gd_some hf
              refine va_iast hx hb hK hP hD hS 5 0 rfl rfl g_215 dX11_restore_215 (fun H locs hP hD hS => ?_)
              have hP : va_P (dC, dI) vwCl (w_X11_restore cI cJ cZ h_this h_this_book h_this_width h_this_key h_this_wide h_this_delay h_this_ahead h_this_after h_this_sight h_this_image h_this_isKept g_this_now g_this_pad g_this_counts g_this_isOne g_this_ways c_rules c_sights c_signs c_reason c_acts c_meetings c_clashes c_first c_where c_door c_wider c_ordersFound c_firstOrder c_least c_leastOrder c_book_31x c_width_59x c_key_59x c_wide_141x (upd c_delay (Int32.toNatClampNeg 0) (c_image (Int32.toNatClampNeg ((100 * l1) + 90)))) c_ahead_59x c_after_59x c_sight_172x c_image c_isKept) H := hP
              have hD : va_D A (w_X11_restore cI cJ cZ h_this h_this_book h_this_width h_this_key h_this_wide h_this_delay h_this_ahead h_this_after h_this_sight h_this_image h_this_isKept g_this_now g_this_pad g_this_counts g_this_isOne g_this_ways c_rules c_sights c_signs c_reason c_acts c_meetings c_clashes c_first c_where c_door c_wider c_ordersFound c_firstOrder c_least c_leastOrder c_book_31x c_width_59x c_key_59x c_wide_141x (upd c_delay (Int32.toNatClampNeg 0) (c_image (Int32.toNatClampNeg ((100 * l1) + 90)))) c_ahead_59x c_after_59x c_sight_172x c_image c_isKept) := hD
              refine lv_aload_n hx hb dX11_restore_216 rfl (lv_at hl 0 rfl) ?_
              refine va_get (D := (dC, dI)) (ci := 11) (v := .ref h_this_delay) (C := RX11) (T := TX11) (N := 30) hx hb hts in_X11_restore_X11 hown hK hP 0 rfl rfl 5 (by decide) (hts _ m_X11_restore_f25) (fun _ h9 => h9) rfl dX11_restore_217 ?_
              refine lv_iconst (v := 1) hx hb dX11_restore_220 (by decide) ?_
              refine lv_aload_n hx hb dX11_restore_221 rfl (lv_at hl 0 rfl) ?_
              refine va_get (D := (dC, dI)) (ci := 11) (v := .ref h_this_image) (C := RX11) (T := TX11) (N := 30) hx hb hts in_X11_restore_X11 hown hK hP 0 rfl rfl 28 (by decide) (hts _ m_X11_restore_f51) (fun _ h9 => h9) rfl dX11_restore_222 ?_
              refine lv_iload_n hx hb dX11_restore_225 rfl (lv_at hl 1 rfl) ?_
              refine lv_bipush (v := 91) hx hb dX11_restore_226 (by decide) ?_
              refine lv_iadd hx hb dX11_restore_228 ?_
              obtain ⟨g_229, hf⟩ := gd_some hf
              refine va_iald hx hb hK hP 9 0 rfl rfl g_229 dX11_restore_229 ?_
              obtain ⟨g_230, hf⟩ := gd_some hf
              refine va_iast hx hb hK hP hD hS 5 0 rfl rfl g_230 dX11_restore_230 (fun H locs hP hD hS => ?_)
              have hP : va_P (dC, dI) vwCl (w_X11_restore cI cJ cZ h_this h_this_book h_this_width h_this_key h_this_wide h_this_delay h_this_ahead h_this_after h_this_sight h_this_image h_this_isKept g_this_now g_this_pad g_this_counts g_this_isOne g_this_ways c_rules c_sights c_signs c_reason c_acts c_meetings c_clashes c_first c_where c_door c_wider c_ordersFound c_firstOrder c_least c_leastOrder c_book_31x c_width_59x c_key_59x c_wide_141x (upd (upd c_delay (Int32.toNatClampNeg 0) (c_image (Int32.toNatClampNeg ((100 * l1) + 90)))) (Int32.toNatClampNeg 1) (c_image (Int32.toNatClampNeg ((100 * l1) + 91)))) c_ahead_59x c_after_59x c_sight_172x c_image c_isKept) H := hP
              have hD : va_D A (w_X11_restore cI cJ cZ h_this h_this_book h_this_width h_this_key h_this_wide h_this_delay h_this_ahead h_this_after h_this_sight h_this_image h_this_isKept g_this_now g_this_pad g_this_counts g_this_isOne g_this_ways c_rules c_sights c_signs c_reason c_acts c_meetings c_clashes c_first c_where c_door c_wider c_ordersFound c_firstOrder c_least c_leastOrder c_book_31x c_width_59x c_key_59x c_wide_141x (upd (upd c_delay (Int32.toNatClampNeg 0) (c_image (Int32.toNatClampNeg ((100 * l1) + 90)))) (Int32.toNatClampNeg 1) (c_image (Int32.toNatClampNeg ((100 * l1) + 91)))) c_ahead_59x c_after_59x c_sight_172x c_image c_isKept) := hD
              refine lv_aload_n hx hb dX11_restore_231 rfl (lv_at hl 0 rfl) ?_
              refine lv_aload_n hx hb dX11_restore_232 rfl (lv_at hl 0 rfl) ?_
              refine va_get (D := (dC, dI)) (ci := 11) (v := .ref h_this_image) (C := RX11) (T := TX11) (N := 30) hx hb hts in_X11_restore_X11 hown hK hP 0 rfl rfl 28 (by decide) (hts _ m_X11_restore_f51) (fun _ h9 => h9) rfl dX11_restore_233 ?_
              refine lv_iload_n hx hb dX11_restore_236 rfl (lv_at hl 1 rfl) ?_
              refine lv_bipush (v := 92) hx hb dX11_restore_237 (by decide) ?_
              refine lv_iadd hx hb dX11_restore_239 ?_
              obtain ⟨g_240, hf⟩ := gd_some hf
              refine va_iald hx hb hK hP 9 0 rfl rfl g_240 dX11_restore_240 ?_
              refine va_put (D := (dC, dI)) (ci := 11) (v := .int (c_image (Int32.toNatClampNeg ((100 * l1) + 92)))) (ty := .int) (C := RX11) (T := TX11) (N := 30) hx hb hts in_X11_restore_X11 tyX11 tyX11_ok nmX11 hown hK hP hD hS 0 rfl rfl 6 (by decide) (hts _ m_X11_restore_f145) (fun _ h9 => h9) rfl (by decide +kernel) rfl rfl (Nat.le_of_ble_eq_true rfl) dX11_restore_241 (fun H locs hP hD hS => ?_)
              have hP : va_P (dC, dI) vwCl (w_X11_restore cI cJ cZ h_this h_this_book h_this_width h_this_key h_this_wide h_this_delay h_this_ahead h_this_after h_this_sight h_this_image h_this_isKept g_this_now g_this_pad g_this_counts g_this_isOne g_this_ways (c_image (Int32.toNatClampNeg ((100 * l1) + 92))) c_sights c_signs c_reason c_acts c_meetings c_clashes c_first c_where c_door c_wider c_ordersFound c_firstOrder c_least c_leastOrder c_book_31x c_width_59x c_key_59x c_wide_141x (upd (upd c_delay (Int32.toNatClampNeg 0) (c_image (Int32.toNatClampNeg ((100 * l1) + 90)))) (Int32.toNatClampNeg 1) (c_image (Int32.toNatClampNeg ((100 * l1) + 91)))) c_ahead_59x c_after_59x c_sight_172x c_image c_isKept) H := hP
              have hD : va_D A (w_X11_restore cI cJ cZ h_this h_this_book h_this_width h_this_key h_this_wide h_this_delay h_this_ahead h_this_after h_this_sight h_this_image h_this_isKept g_this_now g_this_pad g_this_counts g_this_isOne g_this_ways (c_image (Int32.toNatClampNeg ((100 * l1) + 92))) c_sights c_signs c_reason c_acts c_meetings c_clashes c_first c_where c_door c_wider c_ordersFound c_firstOrder c_least c_leastOrder c_book_31x c_width_59x c_key_59x c_wide_141x (upd (upd c_delay (Int32.toNatClampNeg 0) (c_image (Int32.toNatClampNeg ((100 * l1) + 90)))) (Int32.toNatClampNeg 1) (c_image (Int32.toNatClampNeg ((100 * l1) + 91)))) c_ahead_59x c_after_59x c_sight_172x c_image c_isKept) := hD
              refine lv_aload_n hx hb dX11_restore_244 rfl (lv_at hl 0 rfl) ?_
              refine lv_aload_n hx hb dX11_restore_245 rfl (lv_at hl 0 rfl) ?_
              refine va_get (D := (dC, dI)) (ci := 11) (v := .ref h_this_image) (C := RX11) (T := TX11) (N := 30) hx hb hts in_X11_restore_X11 hown hK hP 0 rfl rfl 28 (by decide) (hts _ m_X11_restore_f51) (fun _ h9 => h9) rfl dX11_restore_246 ?_
              refine lv_iload_n hx hb dX11_restore_249 rfl (lv_at hl 1 rfl) ?_
              refine lv_bipush (v := 93) hx hb dX11_restore_250 (by decide) ?_
              refine lv_iadd hx hb dX11_restore_252 ?_
              obtain ⟨g_253, hf⟩ := gd_some hf
              refine va_iald hx hb hK hP 9 0 rfl rfl g_253 dX11_restore_253 ?_
              refine va_put (D := (dC, dI)) (ci := 11) (v := .int (c_image (Int32.toNatClampNeg ((100 * l1) + 93)))) (ty := .int) (C := RX11) (T := TX11) (N := 30) hx hb hts in_X11_restore_X11 tyX11 tyX11_ok nmX11 hown hK hP hD hS 0 rfl rfl 9 (by decide) (hts _ m_X11_restore_f177) (fun _ h9 => h9) rfl (by decide +kernel) rfl rfl (Nat.le_of_ble_eq_true rfl) dX11_restore_254 (fun H locs hP hD hS => ?_)
              have hP : va_P (dC, dI) vwCl (w_X11_restore cI cJ cZ h_this h_this_book h_this_width h_this_key h_this_wide h_this_delay h_this_ahead h_this_after h_this_sight h_this_image h_this_isKept g_this_now g_this_pad g_this_counts g_this_isOne g_this_ways (c_image (Int32.toNatClampNeg ((100 * l1) + 92))) (c_image (Int32.toNatClampNeg ((100 * l1) + 93))) c_signs c_reason c_acts c_meetings c_clashes c_first c_where c_door c_wider c_ordersFound c_firstOrder c_least c_leastOrder c_book_31x c_width_59x c_key_59x c_wide_141x (upd (upd c_delay (Int32.toNatClampNeg 0) (c_image (Int32.toNatClampNeg ((100 * l1) + 90)))) (Int32.toNatClampNeg 1) (c_image (Int32.toNatClampNeg ((100 * l1) + 91)))) c_ahead_59x c_after_59x c_sight_172x c_image c_isKept) H := hP
              have hD : va_D A (w_X11_restore cI cJ cZ h_this h_this_book h_this_width h_this_key h_this_wide h_this_delay h_this_ahead h_this_after h_this_sight h_this_image h_this_isKept g_this_now g_this_pad g_this_counts g_this_isOne g_this_ways (c_image (Int32.toNatClampNeg ((100 * l1) + 92))) (c_image (Int32.toNatClampNeg ((100 * l1) + 93))) c_signs c_reason c_acts c_meetings c_clashes c_first c_where c_door c_wider c_ordersFound c_firstOrder c_least c_leastOrder c_book_31x c_width_59x c_key_59x c_wide_141x (upd (upd c_delay (Int32.toNatClampNeg 0) (c_image (Int32.toNatClampNeg ((100 * l1) + 90)))) (Int32.toNatClampNeg 1) (c_image (Int32.toNatClampNeg ((100 * l1) + 91)))) c_ahead_59x c_after_59x c_sight_172x c_image c_isKept) := hD
              refine lv_iconst (v := 1) hx hb dX11_restore_257 (by decide) ?_
              have e_f := Option.some.inj hf
              cases e_f
              exact hret rfl hP hD hS dX11_restore_258
            have L_172 : ∀ (n : Nat) (l3_172 : Int32) (c_sight_172 : Nat → Int32) (H : Heap) (locs : List Loc) (ls : Array Slot), va_P (dC, dI) vwCl (w_X11_restore cI cJ cZ h_this h_this_book h_this_width h_this_key h_this_wide h_this_delay h_this_ahead h_this_after h_this_sight h_this_image h_this_isKept g_this_now g_this_pad g_this_counts g_this_isOne g_this_ways c_rules c_sights c_signs c_reason c_acts c_meetings c_clashes c_first c_where c_door c_wider c_ordersFound c_firstOrder c_least c_leastOrder c_book_31x c_width_59x c_key_59x c_wide_141x c_delay c_ahead_59x c_after_59x c_sight_172 c_image c_isKept) H → va_D A (w_X11_restore cI cJ cZ h_this h_this_book h_this_width h_this_key h_this_wide h_this_delay h_this_ahead h_this_after h_this_sight h_this_image h_this_isKept g_this_now g_this_pad g_this_counts g_this_isOne g_this_ways c_rules c_sights c_signs c_reason c_acts c_meetings c_clashes c_first c_where c_door c_wider c_ordersFound c_firstOrder c_least c_leastOrder c_book_31x c_width_59x c_key_59x c_wide_141x c_delay c_ahead_59x c_after_59x c_sight_172 c_image c_isKept) → va_S A s.heap H locs → lv_has ls 4 [(0, .ref h_this), (2, .int (100 * l1)), (3, .int l3_172)] → loopN (fun (q : Int32 × (Nat → Int32)) => f_X11_restore_b172 c_image q.1 q.2 (100 * l1)) n (l3_172, c_sight_172) = some (l3_172x, c_sight_172x) → W p l e rm_X11_restore s m args below meth c H locs 0 0 Z (F0 m 172 ls []) := by
              intro n
              induction n with
              | zero => intro l3_172 c_sight_172 H locs ls hP hD hS hl hq; exact (loopN_zero hq).elim
              | succ n ih_172 =>
                intro l3_172 c_sight_172 H locs ls hP hD hS hl hq
                obtain ⟨o_172, hf, ho1_172, ho2_172⟩ := loopN_step hq
                have hf : f_X11_restore_b172 c_image l3_172 c_sight_172 (100 * l1) = some o_172 := hf
                unfold f_X11_restore_b172 at hf
                refine lv_iload_n hx hb dX11_restore_172 rfl (lv_at hl 2 rfl) ?_
                refine lv_bipush (v := 16) hx hb dX11_restore_173 (by decide) ?_
                refine lv_icmp_ge (tgt := 201) hx hb dX11_restore_175 (by decide) (fun k_175 => ?_) (fun k_175 => ?_)
                · have hf := ite_t hf k_175
                  have e_172 := ho2_172 _ (Option.some.inj hf).symm
                  cases e_172
                  exact K_172 H locs ls hP hD hS (lv_sub hl [0, 1] rfl)
                · have hf := ite_f hf k_175
                  refine lv_aload_n hx hb dX11_restore_178 rfl (lv_at hl 0 rfl) ?_
                  refine va_get (D := (dC, dI)) (ci := 11) (v := .ref h_this_sight) (C := RX11) (T := TX11) (N := 30) hx hb hts in_X11_restore_X11 hown hK hP 0 rfl rfl 10 (by decide) (hts _ m_X11_restore_f34) (fun _ h9 => h9) rfl dX11_restore_179 ?_
                  refine lv_iload_n hx hb dX11_restore_182 rfl (lv_at hl 2 rfl) ?_
                  refine lv_aload_n hx hb dX11_restore_183 rfl (lv_at hl 0 rfl) ?_
                  refine va_get (D := (dC, dI)) (ci := 11) (v := .ref h_this_image) (C := RX11) (T := TX11) (N := 30) hx hb hts in_X11_restore_X11 hown hK hP 0 rfl rfl 28 (by decide) (hts _ m_X11_restore_f51) (fun _ h9 => h9) rfl dX11_restore_184 ?_
                  refine lv_iload_n hx hb dX11_restore_187 rfl (lv_at hl 1 rfl) ?_
                  refine lv_bipush (v := 72) hx hb dX11_restore_188 (by decide) ?_
                  refine lv_iadd hx hb dX11_restore_190 ?_
                  refine lv_iload_n hx hb dX11_restore_191 rfl (lv_at hl 2 rfl) ?_
                  refine lv_iadd hx hb dX11_restore_192 ?_
                  obtain ⟨g_193, hf⟩ := gd_some hf
                  refine va_iald hx hb hK hP 9 0 rfl rfl g_193 dX11_restore_193 ?_
                  obtain ⟨g_194, hf⟩ := gd_some hf
                  refine va_iast hx hb hK hP hD hS 8 0 rfl rfl g_194 dX11_restore_194 (fun H locs hP hD hS => ?_)
                  have hP : va_P (dC, dI) vwCl (w_X11_restore cI cJ cZ h_this h_this_book h_this_width h_this_key h_this_wide h_this_delay h_this_ahead h_this_after h_this_sight h_this_image h_this_isKept g_this_now g_this_pad g_this_counts g_this_isOne g_this_ways c_rules c_sights c_signs c_reason c_acts c_meetings c_clashes c_first c_where c_door c_wider c_ordersFound c_firstOrder c_least c_leastOrder c_book_31x c_width_59x c_key_59x c_wide_141x c_delay c_ahead_59x c_after_59x (upd c_sight_172 (Int32.toNatClampNeg l3_172) (c_image (Int32.toNatClampNeg (((100 * l1) + 72) + l3_172)))) c_image c_isKept) H := hP
                  have hD : va_D A (w_X11_restore cI cJ cZ h_this h_this_book h_this_width h_this_key h_this_wide h_this_delay h_this_ahead h_this_after h_this_sight h_this_image h_this_isKept g_this_now g_this_pad g_this_counts g_this_isOne g_this_ways c_rules c_sights c_signs c_reason c_acts c_meetings c_clashes c_first c_where c_door c_wider c_ordersFound c_firstOrder c_least c_leastOrder c_book_31x c_width_59x c_key_59x c_wide_141x c_delay c_ahead_59x c_after_59x (upd c_sight_172 (Int32.toNatClampNeg l3_172) (c_image (Int32.toNatClampNeg (((100 * l1) + 72) + l3_172)))) c_image c_isKept) := hD
                  refine lv_iinc (v := (l3_172 + 1)) (lv' := [(3, .int (l3_172 + 1)), (0, .ref h_this), (2, .int (100 * l1))]) hx hb dX11_restore_195 hl (k := 2) rfl rfl (by decide) rfl (fun ls hl => ?_)
                  refine lv_goto (tgt := 172) hx hb dX11_restore_198 (by decide) ?_
                  exact ih_172 (l3_172 + 1) (upd c_sight_172 (Int32.toNatClampNeg l3_172) (c_image (Int32.toNatClampNeg (((100 * l1) + 72) + l3_172)))) H locs ls hP hD hS (lv_sub hl [1, 2, 0] rfl) (ho1_172 _ (Option.some.inj hf).symm)
            exact L_172 FU 0 c_sight H locs ls hP hD hS (lv_sub hl [1, 2, 0] rfl) hq_172
          have L_141 : ∀ (n : Nat) (l3_141 : Int32) (c_wide_141 : Nat → Int32) (H : Heap) (locs : List Loc) (ls : Array Slot), va_P (dC, dI) vwCl (w_X11_restore cI cJ cZ h_this h_this_book h_this_width h_this_key h_this_wide h_this_delay h_this_ahead h_this_after h_this_sight h_this_image h_this_isKept g_this_now g_this_pad g_this_counts g_this_isOne g_this_ways c_rules c_sights c_signs c_reason c_acts c_meetings c_clashes c_first c_where c_door c_wider c_ordersFound c_firstOrder c_least c_leastOrder c_book_31x c_width_59x c_key_59x c_wide_141 c_delay c_ahead_59x c_after_59x c_sight c_image c_isKept) H → va_D A (w_X11_restore cI cJ cZ h_this h_this_book h_this_width h_this_key h_this_wide h_this_delay h_this_ahead h_this_after h_this_sight h_this_image h_this_isKept g_this_now g_this_pad g_this_counts g_this_isOne g_this_ways c_rules c_sights c_signs c_reason c_acts c_meetings c_clashes c_first c_where c_door c_wider c_ordersFound c_firstOrder c_least c_leastOrder c_book_31x c_width_59x c_key_59x c_wide_141 c_delay c_ahead_59x c_after_59x c_sight c_image c_isKept) → va_S A s.heap H locs → lv_has ls 4 [(0, .ref h_this), (2, .int (100 * l1)), (3, .int l3_141)] → loopN (fun (q : Int32 × (Nat → Int32)) => f_X11_restore_b141 c_image q.1 q.2 (100 * l1)) n (l3_141, c_wide_141) = some (l3_141x, c_wide_141x) → W p l e rm_X11_restore s m args below meth c H locs 0 0 Z (F0 m 141 ls []) := by
            intro n
            induction n with
            | zero => intro l3_141 c_wide_141 H locs ls hP hD hS hl hq; exact (loopN_zero hq).elim
            | succ n ih_141 =>
              intro l3_141 c_wide_141 H locs ls hP hD hS hl hq
              obtain ⟨o_141, hf, ho1_141, ho2_141⟩ := loopN_step hq
              have hf : f_X11_restore_b141 c_image l3_141 c_wide_141 (100 * l1) = some o_141 := hf
              unfold f_X11_restore_b141 at hf
              refine lv_iload_n hx hb dX11_restore_141 rfl (lv_at hl 2 rfl) ?_
              refine lv_bipush (v := 17) hx hb dX11_restore_142 (by decide) ?_
              refine lv_icmp_ge (tgt := 170) hx hb dX11_restore_144 (by decide) (fun k_144 => ?_) (fun k_144 => ?_)
              · have hf := ite_t hf k_144
                have e_141 := ho2_141 _ (Option.some.inj hf).symm
                cases e_141
                exact K_141 H locs ls hP hD hS (lv_sub hl [0, 1] rfl)
              · have hf := ite_f hf k_144
                refine lv_aload_n hx hb dX11_restore_147 rfl (lv_at hl 0 rfl) ?_
                refine va_get (D := (dC, dI)) (ci := 11) (v := .ref h_this_wide) (C := RX11) (T := TX11) (N := 30) hx hb hts in_X11_restore_X11 hown hK hP 0 rfl rfl 4 (by decide) (hts _ m_X11_restore_f22) (fun _ h9 => h9) rfl dX11_restore_148 ?_
                refine lv_iload_n hx hb dX11_restore_151 rfl (lv_at hl 2 rfl) ?_
                refine lv_aload_n hx hb dX11_restore_152 rfl (lv_at hl 0 rfl) ?_
                refine va_get (D := (dC, dI)) (ci := 11) (v := .ref h_this_image) (C := RX11) (T := TX11) (N := 30) hx hb hts in_X11_restore_X11 hown hK hP 0 rfl rfl 28 (by decide) (hts _ m_X11_restore_f51) (fun _ h9 => h9) rfl dX11_restore_153 ?_
                refine lv_iload_n hx hb dX11_restore_156 rfl (lv_at hl 1 rfl) ?_
                refine lv_bipush (v := 55) hx hb dX11_restore_157 (by decide) ?_
                refine lv_iadd hx hb dX11_restore_159 ?_
                refine lv_iload_n hx hb dX11_restore_160 rfl (lv_at hl 2 rfl) ?_
                refine lv_iadd hx hb dX11_restore_161 ?_
                obtain ⟨g_162, hf⟩ := gd_some hf
                refine va_iald hx hb hK hP 9 0 rfl rfl g_162 dX11_restore_162 ?_
                obtain ⟨g_163, hf⟩ := gd_some hf
                refine va_iast hx hb hK hP hD hS 4 0 rfl rfl g_163 dX11_restore_163 (fun H locs hP hD hS => ?_)
                have hP : va_P (dC, dI) vwCl (w_X11_restore cI cJ cZ h_this h_this_book h_this_width h_this_key h_this_wide h_this_delay h_this_ahead h_this_after h_this_sight h_this_image h_this_isKept g_this_now g_this_pad g_this_counts g_this_isOne g_this_ways c_rules c_sights c_signs c_reason c_acts c_meetings c_clashes c_first c_where c_door c_wider c_ordersFound c_firstOrder c_least c_leastOrder c_book_31x c_width_59x c_key_59x (upd c_wide_141 (Int32.toNatClampNeg l3_141) (c_image (Int32.toNatClampNeg (((100 * l1) + 55) + l3_141)))) c_delay c_ahead_59x c_after_59x c_sight c_image c_isKept) H := hP
                have hD : va_D A (w_X11_restore cI cJ cZ h_this h_this_book h_this_width h_this_key h_this_wide h_this_delay h_this_ahead h_this_after h_this_sight h_this_image h_this_isKept g_this_now g_this_pad g_this_counts g_this_isOne g_this_ways c_rules c_sights c_signs c_reason c_acts c_meetings c_clashes c_first c_where c_door c_wider c_ordersFound c_firstOrder c_least c_leastOrder c_book_31x c_width_59x c_key_59x (upd c_wide_141 (Int32.toNatClampNeg l3_141) (c_image (Int32.toNatClampNeg (((100 * l1) + 55) + l3_141)))) c_delay c_ahead_59x c_after_59x c_sight c_image c_isKept) := hD
                refine lv_iinc (v := (l3_141 + 1)) (lv' := [(3, .int (l3_141 + 1)), (0, .ref h_this), (2, .int (100 * l1))]) hx hb dX11_restore_164 hl (k := 2) rfl rfl (by decide) rfl (fun ls hl => ?_)
                refine lv_goto (tgt := 141) hx hb dX11_restore_167 (by decide) ?_
                exact ih_141 (l3_141 + 1) (upd c_wide_141 (Int32.toNatClampNeg l3_141) (c_image (Int32.toNatClampNeg (((100 * l1) + 55) + l3_141)))) H locs ls hP hD hS (lv_sub hl [1, 2, 0] rfl) (ho1_141 _ (Option.some.inj hf).symm)
          exact L_141 FU 0 c_wide H locs ls hP hD hS (lv_sub hl [1, 2, 0] rfl) hq_141
        have L_59 : ∀ (n : Nat) (l3_59 : Int32) (c_width_59 : Nat → Int32) (c_key_59 : Nat → Int32) (c_ahead_59 : Nat → Int32) (c_after_59 : Nat → Int32) (H : Heap) (locs : List Loc) (ls : Array Slot), va_P (dC, dI) vwCl (w_X11_restore cI cJ cZ h_this h_this_book h_this_width h_this_key h_this_wide h_this_delay h_this_ahead h_this_after h_this_sight h_this_image h_this_isKept g_this_now g_this_pad g_this_counts g_this_isOne g_this_ways c_rules c_sights c_signs c_reason c_acts c_meetings c_clashes c_first c_where c_door c_wider c_ordersFound c_firstOrder c_least c_leastOrder c_book_31x c_width_59 c_key_59 c_wide c_delay c_ahead_59 c_after_59 c_sight c_image c_isKept) H → va_D A (w_X11_restore cI cJ cZ h_this h_this_book h_this_width h_this_key h_this_wide h_this_delay h_this_ahead h_this_after h_this_sight h_this_image h_this_isKept g_this_now g_this_pad g_this_counts g_this_isOne g_this_ways c_rules c_sights c_signs c_reason c_acts c_meetings c_clashes c_first c_where c_door c_wider c_ordersFound c_firstOrder c_least c_leastOrder c_book_31x c_width_59 c_key_59 c_wide c_delay c_ahead_59 c_after_59 c_sight c_image c_isKept) → va_S A s.heap H locs → lv_has ls 4 [(0, .ref h_this), (2, .int (100 * l1)), (3, .int l3_59)] → loopN (fun (q : Int32 × (Nat → Int32) × (Nat → Int32) × (Nat → Int32) × (Nat → Int32)) => f_X11_restore_b59 c_image q.1 q.2.1 q.2.2.1 q.2.2.2.1 q.2.2.2.2 (100 * l1)) n (l3_59, c_width_59, c_key_59, c_ahead_59, c_after_59) = some (l3_59x, c_width_59x, c_key_59x, c_ahead_59x, c_after_59x) → W p l e rm_X11_restore s m args below meth c H locs 0 0 Z (F0 m 59 ls []) := by
          intro n
          induction n with
          | zero => intro l3_59 c_width_59 c_key_59 c_ahead_59 c_after_59 H locs ls hP hD hS hl hq; exact (loopN_zero hq).elim
          | succ n ih_59 =>
            intro l3_59 c_width_59 c_key_59 c_ahead_59 c_after_59 H locs ls hP hD hS hl hq
            obtain ⟨o_59, hf, ho1_59, ho2_59⟩ := loopN_step hq
            have hf : f_X11_restore_b59 c_image l3_59 c_width_59 c_key_59 c_ahead_59 c_after_59 (100 * l1) = some o_59 := hf
            unfold f_X11_restore_b59 at hf
            refine lv_iload_n hx hb dX11_restore_59 rfl (lv_at hl 2 rfl) ?_
            refine lv_bipush (v := 10) hx hb dX11_restore_60 (by decide) ?_
            refine lv_icmp_ge (tgt := 139) hx hb dX11_restore_62 (by decide) (fun k_62 => ?_) (fun k_62 => ?_)
            · have hf := ite_t hf k_62
              have e_59 := ho2_59 _ (Option.some.inj hf).symm
              cases e_59
              exact K_59 H locs ls hP hD hS (lv_sub hl [0, 1] rfl)
            · have hf := ite_f hf k_62
              refine lv_aload_n hx hb dX11_restore_65 rfl (lv_at hl 0 rfl) ?_
              refine va_get (D := (dC, dI)) (ci := 11) (v := .ref h_this_width) (C := RX11) (T := TX11) (N := 30) hx hb hts in_X11_restore_X11 hown hK hP 0 rfl rfl 2 (by decide) (hts _ m_X11_restore_f16) (fun _ h9 => h9) rfl dX11_restore_66 ?_
              refine lv_iload_n hx hb dX11_restore_69 rfl (lv_at hl 2 rfl) ?_
              refine lv_aload_n hx hb dX11_restore_70 rfl (lv_at hl 0 rfl) ?_
              refine va_get (D := (dC, dI)) (ci := 11) (v := .ref h_this_image) (C := RX11) (T := TX11) (N := 30) hx hb hts in_X11_restore_X11 hown hK hP 0 rfl rfl 28 (by decide) (hts _ m_X11_restore_f51) (fun _ h9 => h9) rfl dX11_restore_71 ?_
              refine lv_iload_n hx hb dX11_restore_74 rfl (lv_at hl 1 rfl) ?_
              refine lv_bipush (v := 15) hx hb dX11_restore_75 (by decide) ?_
              refine lv_iadd hx hb dX11_restore_77 ?_
              refine lv_iload_n hx hb dX11_restore_78 rfl (lv_at hl 2 rfl) ?_
              refine lv_iadd hx hb dX11_restore_79 ?_
              obtain ⟨g_80, hf⟩ := gd_some hf
              refine va_iald hx hb hK hP 9 0 rfl rfl g_80 dX11_restore_80 ?_
              obtain ⟨g_81, hf⟩ := gd_some hf
              refine va_iast hx hb hK hP hD hS 2 0 rfl rfl g_81 dX11_restore_81 (fun H locs hP hD hS => ?_)
              have hP : va_P (dC, dI) vwCl (w_X11_restore cI cJ cZ h_this h_this_book h_this_width h_this_key h_this_wide h_this_delay h_this_ahead h_this_after h_this_sight h_this_image h_this_isKept g_this_now g_this_pad g_this_counts g_this_isOne g_this_ways c_rules c_sights c_signs c_reason c_acts c_meetings c_clashes c_first c_where c_door c_wider c_ordersFound c_firstOrder c_least c_leastOrder c_book_31x (upd c_width_59 (Int32.toNatClampNeg l3_59) (c_image (Int32.toNatClampNeg (((100 * l1) + 15) + l3_59)))) c_key_59 c_wide c_delay c_ahead_59 c_after_59 c_sight c_image c_isKept) H := hP
              have hD : va_D A (w_X11_restore cI cJ cZ h_this h_this_book h_this_width h_this_key h_this_wide h_this_delay h_this_ahead h_this_after h_this_sight h_this_image h_this_isKept g_this_now g_this_pad g_this_counts g_this_isOne g_this_ways c_rules c_sights c_signs c_reason c_acts c_meetings c_clashes c_first c_where c_door c_wider c_ordersFound c_firstOrder c_least c_leastOrder c_book_31x (upd c_width_59 (Int32.toNatClampNeg l3_59) (c_image (Int32.toNatClampNeg (((100 * l1) + 15) + l3_59)))) c_key_59 c_wide c_delay c_ahead_59 c_after_59 c_sight c_image c_isKept) := hD
              refine lv_aload_n hx hb dX11_restore_82 rfl (lv_at hl 0 rfl) ?_
              refine va_get (D := (dC, dI)) (ci := 11) (v := .ref h_this_key) (C := RX11) (T := TX11) (N := 30) hx hb hts in_X11_restore_X11 hown hK hP 0 rfl rfl 3 (by decide) (hts _ m_X11_restore_f19) (fun _ h9 => h9) rfl dX11_restore_83 ?_
              refine lv_iload_n hx hb dX11_restore_86 rfl (lv_at hl 2 rfl) ?_
              refine lv_aload_n hx hb dX11_restore_87 rfl (lv_at hl 0 rfl) ?_
              refine va_get (D := (dC, dI)) (ci := 11) (v := .ref h_this_image) (C := RX11) (T := TX11) (N := 30) hx hb hts in_X11_restore_X11 hown hK hP 0 rfl rfl 28 (by decide) (hts _ m_X11_restore_f51) (fun _ h9 => h9) rfl dX11_restore_88 ?_
              refine lv_iload_n hx hb dX11_restore_91 rfl (lv_at hl 1 rfl) ?_
              refine lv_bipush (v := 25) hx hb dX11_restore_92 (by decide) ?_
              refine lv_iadd hx hb dX11_restore_94 ?_
              refine lv_iload_n hx hb dX11_restore_95 rfl (lv_at hl 2 rfl) ?_
              refine lv_iadd hx hb dX11_restore_96 ?_
              obtain ⟨g_97, hf⟩ := gd_some hf
              refine va_iald hx hb hK hP 9 0 rfl rfl g_97 dX11_restore_97 ?_
              obtain ⟨g_98, hf⟩ := gd_some hf
              refine va_iast hx hb hK hP hD hS 3 0 rfl rfl g_98 dX11_restore_98 (fun H locs hP hD hS => ?_)
              have hP : va_P (dC, dI) vwCl (w_X11_restore cI cJ cZ h_this h_this_book h_this_width h_this_key h_this_wide h_this_delay h_this_ahead h_this_after h_this_sight h_this_image h_this_isKept g_this_now g_this_pad g_this_counts g_this_isOne g_this_ways c_rules c_sights c_signs c_reason c_acts c_meetings c_clashes c_first c_where c_door c_wider c_ordersFound c_firstOrder c_least c_leastOrder c_book_31x (upd c_width_59 (Int32.toNatClampNeg l3_59) (c_image (Int32.toNatClampNeg (((100 * l1) + 15) + l3_59)))) (upd c_key_59 (Int32.toNatClampNeg l3_59) (c_image (Int32.toNatClampNeg (((100 * l1) + 25) + l3_59)))) c_wide c_delay c_ahead_59 c_after_59 c_sight c_image c_isKept) H := hP
              have hD : va_D A (w_X11_restore cI cJ cZ h_this h_this_book h_this_width h_this_key h_this_wide h_this_delay h_this_ahead h_this_after h_this_sight h_this_image h_this_isKept g_this_now g_this_pad g_this_counts g_this_isOne g_this_ways c_rules c_sights c_signs c_reason c_acts c_meetings c_clashes c_first c_where c_door c_wider c_ordersFound c_firstOrder c_least c_leastOrder c_book_31x (upd c_width_59 (Int32.toNatClampNeg l3_59) (c_image (Int32.toNatClampNeg (((100 * l1) + 15) + l3_59)))) (upd c_key_59 (Int32.toNatClampNeg l3_59) (c_image (Int32.toNatClampNeg (((100 * l1) + 25) + l3_59)))) c_wide c_delay c_ahead_59 c_after_59 c_sight c_image c_isKept) := hD
              refine lv_aload_n hx hb dX11_restore_99 rfl (lv_at hl 0 rfl) ?_
              refine va_get (D := (dC, dI)) (ci := 11) (v := .ref h_this_ahead) (C := RX11) (T := TX11) (N := 30) hx hb hts in_X11_restore_X11 hown hK hP 0 rfl rfl 7 (by decide) (hts _ m_X11_restore_f28) (fun _ h9 => h9) rfl dX11_restore_100 ?_
              refine lv_iload_n hx hb dX11_restore_103 rfl (lv_at hl 2 rfl) ?_
              refine lv_aload_n hx hb dX11_restore_104 rfl (lv_at hl 0 rfl) ?_
              refine va_get (D := (dC, dI)) (ci := 11) (v := .ref h_this_image) (C := RX11) (T := TX11) (N := 30) hx hb hts in_X11_restore_X11 hown hK hP 0 rfl rfl 28 (by decide) (hts _ m_X11_restore_f51) (fun _ h9 => h9) rfl dX11_restore_105 ?_
              refine lv_iload_n hx hb dX11_restore_108 rfl (lv_at hl 1 rfl) ?_
              refine lv_bipush (v := 35) hx hb dX11_restore_109 (by decide) ?_
              refine lv_iadd hx hb dX11_restore_111 ?_
              refine lv_iload_n hx hb dX11_restore_112 rfl (lv_at hl 2 rfl) ?_
              refine lv_iadd hx hb dX11_restore_113 ?_
              obtain ⟨g_114, hf⟩ := gd_some hf
              refine va_iald hx hb hK hP 9 0 rfl rfl g_114 dX11_restore_114 ?_
              obtain ⟨g_115, hf⟩ := gd_some hf
              refine va_iast hx hb hK hP hD hS 6 0 rfl rfl g_115 dX11_restore_115 (fun H locs hP hD hS => ?_)
              have hP : va_P (dC, dI) vwCl (w_X11_restore cI cJ cZ h_this h_this_book h_this_width h_this_key h_this_wide h_this_delay h_this_ahead h_this_after h_this_sight h_this_image h_this_isKept g_this_now g_this_pad g_this_counts g_this_isOne g_this_ways c_rules c_sights c_signs c_reason c_acts c_meetings c_clashes c_first c_where c_door c_wider c_ordersFound c_firstOrder c_least c_leastOrder c_book_31x (upd c_width_59 (Int32.toNatClampNeg l3_59) (c_image (Int32.toNatClampNeg (((100 * l1) + 15) + l3_59)))) (upd c_key_59 (Int32.toNatClampNeg l3_59) (c_image (Int32.toNatClampNeg (((100 * l1) + 25) + l3_59)))) c_wide c_delay (upd c_ahead_59 (Int32.toNatClampNeg l3_59) (c_image (Int32.toNatClampNeg (((100 * l1) + 35) + l3_59)))) c_after_59 c_sight c_image c_isKept) H := hP
              have hD : va_D A (w_X11_restore cI cJ cZ h_this h_this_book h_this_width h_this_key h_this_wide h_this_delay h_this_ahead h_this_after h_this_sight h_this_image h_this_isKept g_this_now g_this_pad g_this_counts g_this_isOne g_this_ways c_rules c_sights c_signs c_reason c_acts c_meetings c_clashes c_first c_where c_door c_wider c_ordersFound c_firstOrder c_least c_leastOrder c_book_31x (upd c_width_59 (Int32.toNatClampNeg l3_59) (c_image (Int32.toNatClampNeg (((100 * l1) + 15) + l3_59)))) (upd c_key_59 (Int32.toNatClampNeg l3_59) (c_image (Int32.toNatClampNeg (((100 * l1) + 25) + l3_59)))) c_wide c_delay (upd c_ahead_59 (Int32.toNatClampNeg l3_59) (c_image (Int32.toNatClampNeg (((100 * l1) + 35) + l3_59)))) c_after_59 c_sight c_image c_isKept) := hD
              refine lv_aload_n hx hb dX11_restore_116 rfl (lv_at hl 0 rfl) ?_
              refine va_get (D := (dC, dI)) (ci := 11) (v := .ref h_this_after) (C := RX11) (T := TX11) (N := 30) hx hb hts in_X11_restore_X11 hown hK hP 0 rfl rfl 8 (by decide) (hts _ m_X11_restore_f31) (fun _ h9 => h9) rfl dX11_restore_117 ?_
              refine lv_iload_n hx hb dX11_restore_120 rfl (lv_at hl 2 rfl) ?_
              refine lv_aload_n hx hb dX11_restore_121 rfl (lv_at hl 0 rfl) ?_
              refine va_get (D := (dC, dI)) (ci := 11) (v := .ref h_this_image) (C := RX11) (T := TX11) (N := 30) hx hb hts in_X11_restore_X11 hown hK hP 0 rfl rfl 28 (by decide) (hts _ m_X11_restore_f51) (fun _ h9 => h9) rfl dX11_restore_122 ?_
              refine lv_iload_n hx hb dX11_restore_125 rfl (lv_at hl 1 rfl) ?_
              refine lv_bipush (v := 45) hx hb dX11_restore_126 (by decide) ?_
              refine lv_iadd hx hb dX11_restore_128 ?_
              refine lv_iload_n hx hb dX11_restore_129 rfl (lv_at hl 2 rfl) ?_
              refine lv_iadd hx hb dX11_restore_130 ?_
              obtain ⟨g_131, hf⟩ := gd_some hf
              refine va_iald hx hb hK hP 9 0 rfl rfl g_131 dX11_restore_131 ?_
              obtain ⟨g_132, hf⟩ := gd_some hf
              refine va_iast hx hb hK hP hD hS 7 0 rfl rfl g_132 dX11_restore_132 (fun H locs hP hD hS => ?_)
              have hP : va_P (dC, dI) vwCl (w_X11_restore cI cJ cZ h_this h_this_book h_this_width h_this_key h_this_wide h_this_delay h_this_ahead h_this_after h_this_sight h_this_image h_this_isKept g_this_now g_this_pad g_this_counts g_this_isOne g_this_ways c_rules c_sights c_signs c_reason c_acts c_meetings c_clashes c_first c_where c_door c_wider c_ordersFound c_firstOrder c_least c_leastOrder c_book_31x (upd c_width_59 (Int32.toNatClampNeg l3_59) (c_image (Int32.toNatClampNeg (((100 * l1) + 15) + l3_59)))) (upd c_key_59 (Int32.toNatClampNeg l3_59) (c_image (Int32.toNatClampNeg (((100 * l1) + 25) + l3_59)))) c_wide c_delay (upd c_ahead_59 (Int32.toNatClampNeg l3_59) (c_image (Int32.toNatClampNeg (((100 * l1) + 35) + l3_59)))) (upd c_after_59 (Int32.toNatClampNeg l3_59) (c_image (Int32.toNatClampNeg (((100 * l1) + 45) + l3_59)))) c_sight c_image c_isKept) H := hP
              have hD : va_D A (w_X11_restore cI cJ cZ h_this h_this_book h_this_width h_this_key h_this_wide h_this_delay h_this_ahead h_this_after h_this_sight h_this_image h_this_isKept g_this_now g_this_pad g_this_counts g_this_isOne g_this_ways c_rules c_sights c_signs c_reason c_acts c_meetings c_clashes c_first c_where c_door c_wider c_ordersFound c_firstOrder c_least c_leastOrder c_book_31x (upd c_width_59 (Int32.toNatClampNeg l3_59) (c_image (Int32.toNatClampNeg (((100 * l1) + 15) + l3_59)))) (upd c_key_59 (Int32.toNatClampNeg l3_59) (c_image (Int32.toNatClampNeg (((100 * l1) + 25) + l3_59)))) c_wide c_delay (upd c_ahead_59 (Int32.toNatClampNeg l3_59) (c_image (Int32.toNatClampNeg (((100 * l1) + 35) + l3_59)))) (upd c_after_59 (Int32.toNatClampNeg l3_59) (c_image (Int32.toNatClampNeg (((100 * l1) + 45) + l3_59)))) c_sight c_image c_isKept) := hD
              refine lv_iinc (v := (l3_59 + 1)) (lv' := [(3, .int (l3_59 + 1)), (0, .ref h_this), (2, .int (100 * l1))]) hx hb dX11_restore_133 hl (k := 2) rfl rfl (by decide) rfl (fun ls hl => ?_)
              refine lv_goto (tgt := 59) hx hb dX11_restore_136 (by decide) ?_
              exact ih_59 (l3_59 + 1) (upd c_width_59 (Int32.toNatClampNeg l3_59) (c_image (Int32.toNatClampNeg (((100 * l1) + 15) + l3_59)))) (upd c_key_59 (Int32.toNatClampNeg l3_59) (c_image (Int32.toNatClampNeg (((100 * l1) + 25) + l3_59)))) (upd c_ahead_59 (Int32.toNatClampNeg l3_59) (c_image (Int32.toNatClampNeg (((100 * l1) + 35) + l3_59)))) (upd c_after_59 (Int32.toNatClampNeg l3_59) (c_image (Int32.toNatClampNeg (((100 * l1) + 45) + l3_59)))) H locs ls hP hD hS (lv_sub hl [1, 2, 0] rfl) (ho1_59 _ (Option.some.inj hf).symm)
        exact L_59 FU 0 c_width c_key c_ahead c_after H locs ls hP hD hS (lv_sub hl [1, 2, 0] rfl) hq_59
      have L_31 : ∀ (n : Nat) (l3_31 : Int32) (c_book_31 : Nat → Int32) (H : Heap) (locs : List Loc) (ls : Array Slot), va_P (dC, dI) vwCl (w_X11_restore cI cJ cZ h_this h_this_book h_this_width h_this_key h_this_wide h_this_delay h_this_ahead h_this_after h_this_sight h_this_image h_this_isKept g_this_now g_this_pad g_this_counts g_this_isOne g_this_ways c_rules c_sights c_signs c_reason c_acts c_meetings c_clashes c_first c_where c_door c_wider c_ordersFound c_firstOrder c_least c_leastOrder c_book_31 c_width c_key c_wide c_delay c_ahead c_after c_sight c_image c_isKept) H → va_D A (w_X11_restore cI cJ cZ h_this h_this_book h_this_width h_this_key h_this_wide h_this_delay h_this_ahead h_this_after h_this_sight h_this_image h_this_isKept g_this_now g_this_pad g_this_counts g_this_isOne g_this_ways c_rules c_sights c_signs c_reason c_acts c_meetings c_clashes c_first c_where c_door c_wider c_ordersFound c_firstOrder c_least c_leastOrder c_book_31 c_width c_key c_wide c_delay c_ahead c_after c_sight c_image c_isKept) → va_S A s.heap H locs → lv_has ls 4 [(0, .ref h_this), (2, .int (100 * l1)), (3, .int l3_31)] → loopN (fun (q : Int32 × (Nat → Int32)) => f_X11_restore_b31 c_image q.1 q.2 (100 * l1)) n (l3_31, c_book_31) = some (l3_31x, c_book_31x) → W p l e rm_X11_restore s m args below meth c H locs 0 0 Z (F0 m 31 ls []) := by
        intro n
        induction n with
        | zero => intro l3_31 c_book_31 H locs ls hP hD hS hl hq; exact (loopN_zero hq).elim
        | succ n ih_31 =>
          intro l3_31 c_book_31 H locs ls hP hD hS hl hq
          obtain ⟨o_31, hf, ho1_31, ho2_31⟩ := loopN_step hq
          have hf : f_X11_restore_b31 c_image l3_31 c_book_31 (100 * l1) = some o_31 := hf
          unfold f_X11_restore_b31 at hf
          refine lv_iload_n hx hb dX11_restore_31 rfl (lv_at hl 2 rfl) ?_
          refine lv_bipush (v := 15) hx hb dX11_restore_32 (by decide) ?_
          refine lv_icmp_ge (tgt := 57) hx hb dX11_restore_34 (by decide) (fun k_34 => ?_) (fun k_34 => ?_)
          · have hf := ite_t hf k_34
            have e_31 := ho2_31 _ (Option.some.inj hf).symm
            cases e_31
            exact K_31 H locs ls hP hD hS (lv_sub hl [0, 1] rfl)
          · have hf := ite_f hf k_34
            refine lv_aload_n hx hb dX11_restore_37 rfl (lv_at hl 0 rfl) ?_
            refine va_get (D := (dC, dI)) (ci := 11) (v := .ref h_this_book) (C := RX11) (T := TX11) (N := 30) hx hb hts in_X11_restore_X11 hown hK hP 0 rfl rfl 0 (by decide) (hts _ m_X11_restore_f7) (fun _ h9 => h9) rfl dX11_restore_38 ?_
            refine lv_iload_n hx hb dX11_restore_41 rfl (lv_at hl 2 rfl) ?_
            refine lv_aload_n hx hb dX11_restore_42 rfl (lv_at hl 0 rfl) ?_
            refine va_get (D := (dC, dI)) (ci := 11) (v := .ref h_this_image) (C := RX11) (T := TX11) (N := 30) hx hb hts in_X11_restore_X11 hown hK hP 0 rfl rfl 28 (by decide) (hts _ m_X11_restore_f51) (fun _ h9 => h9) rfl dX11_restore_43 ?_
            refine lv_iload_n hx hb dX11_restore_46 rfl (lv_at hl 1 rfl) ?_
            refine lv_iload_n hx hb dX11_restore_47 rfl (lv_at hl 2 rfl) ?_
            refine lv_iadd hx hb dX11_restore_48 ?_
            obtain ⟨g_49, hf⟩ := gd_some hf
            refine va_iald hx hb hK hP 9 0 rfl rfl g_49 dX11_restore_49 ?_
            obtain ⟨g_50, hf⟩ := gd_some hf
            refine va_iast hx hb hK hP hD hS 1 0 rfl rfl g_50 dX11_restore_50 (fun H locs hP hD hS => ?_)
            have hP : va_P (dC, dI) vwCl (w_X11_restore cI cJ cZ h_this h_this_book h_this_width h_this_key h_this_wide h_this_delay h_this_ahead h_this_after h_this_sight h_this_image h_this_isKept g_this_now g_this_pad g_this_counts g_this_isOne g_this_ways c_rules c_sights c_signs c_reason c_acts c_meetings c_clashes c_first c_where c_door c_wider c_ordersFound c_firstOrder c_least c_leastOrder (upd c_book_31 (Int32.toNatClampNeg l3_31) (c_image (Int32.toNatClampNeg ((100 * l1) + l3_31)))) c_width c_key c_wide c_delay c_ahead c_after c_sight c_image c_isKept) H := hP
            have hD : va_D A (w_X11_restore cI cJ cZ h_this h_this_book h_this_width h_this_key h_this_wide h_this_delay h_this_ahead h_this_after h_this_sight h_this_image h_this_isKept g_this_now g_this_pad g_this_counts g_this_isOne g_this_ways c_rules c_sights c_signs c_reason c_acts c_meetings c_clashes c_first c_where c_door c_wider c_ordersFound c_firstOrder c_least c_leastOrder (upd c_book_31 (Int32.toNatClampNeg l3_31) (c_image (Int32.toNatClampNeg ((100 * l1) + l3_31)))) c_width c_key c_wide c_delay c_ahead c_after c_sight c_image c_isKept) := hD
            refine lv_iinc (v := (l3_31 + 1)) (lv' := [(3, .int (l3_31 + 1)), (0, .ref h_this), (2, .int (100 * l1))]) hx hb dX11_restore_51 hl (k := 2) rfl rfl (by decide) rfl (fun ls hl => ?_)
            refine lv_goto (tgt := 31) hx hb dX11_restore_54 (by decide) ?_
            exact ih_31 (l3_31 + 1) (upd c_book_31 (Int32.toNatClampNeg l3_31) (c_image (Int32.toNatClampNeg ((100 * l1) + l3_31)))) H locs ls hP hD hS (lv_sub hl [1, 2, 0] rfl) (ho1_31 _ (Option.some.inj hf).symm)
      exact L_31 FU 0 c_book s.heap [] ls hP hD hS (lv_sub hl [2, 1, 0] rfl) hq_31
    · have hf := ite_t hf k_18
      refine lv_bipush (v := (-3)) hx hb dX11_restore_21 (by decide) ?_
      have e_f := Option.some.inj hf
      cases e_f
      exact hret rfl hP hD hS dX11_restore_23
  · have hf := ite_t hf k_6
    refine lv_bipush (v := (-2)) hx hb dX11_restore_9 (by decide) ?_
    have e_f := Option.some.inj hf
    cases e_f
    exact hret rfl hP hD hS dX11_restore_11
abbrev w_X11_told (cI cJ cZ : ClassId) (h_this h_this_book h_this_width h_this_key h_this_wide h_this_delay g_this_now g_this_ahead g_this_after g_this_sight g_this_pad g_this_counts g_this_isOne g_this_ways g_this_image g_this_isKept : Nat) (c_rules : Int32) (c_sights : Int32) (c_signs : Int32) (c_reason : Int32) (c_acts : Int32) (c_meetings : Int32) (c_clashes : Int32) (c_first : Int32) (c_where : Int32) (c_door : Int32) (c_wider : Int32) (c_ordersFound : Int32) (c_firstOrder : Int32) (c_least : Int32) (c_leastOrder : Int32) (c_book : Nat → Int32) (c_width : Nat → Int32) (c_key : Nat → Int32) (c_wide : Nat → Int32) (c_delay : Nat → Int32) : va_W := [(h_this, .inr (11, [.ref h_this_book, .ref g_this_now, .ref h_this_width, .ref h_this_key, .ref h_this_wide, .ref h_this_delay, .int c_rules, .ref g_this_ahead, .ref g_this_after, .int c_sights, .ref g_this_sight, .int c_signs, .ref g_this_pad, .int c_reason, .int c_acts, .int c_meetings, .int c_clashes, .int c_first, .int c_where, .int c_door, .int c_wider, .int c_ordersFound, .int c_firstOrder, .int c_least, .int c_leastOrder, .ref g_this_counts, .ref g_this_isOne, .ref g_this_ways, .ref g_this_image, .ref g_this_isKept])), (h_this_book, .inl (cI, 15, .inl c_book)), (h_this_width, .inl (cI, 10, .inl c_width)), (h_this_key, .inl (cI, 10, .inl c_key)), (h_this_wide, .inl (cI, 17, .inl c_wide)), (h_this_delay, .inl (cI, 2, .inl c_delay))]
abbrev rm_X11_told : Room := { frames := 2, cells := 0, slots := 0, locals := 42 }
theorem m_X11_told_f25 : (.fieldLink RX11 25 "WovenRowsModel" "delay" "[I" : Cond) ∈ wsX11_told := by decide +kernel
theorem in_X11_told_X11 : ∀ w ∈ u_ws RX11 TX11 30, w ∈ wsX11_told := by decide +kernel
theorem m_X11_told_f177 : (.fieldLink RX11 177 "WovenRowsModel" "sights" "I" : Cond) ∈ wsX11_told := by decide +kernel
theorem m_X11_told_f145 : (.fieldLink RX11 145 "WovenRowsModel" "rules" "I" : Cond) ∈ wsX11_told := by decide +kernel
theorem m_X11_told_f7 : (.fieldLink RX11 7 "WovenRowsModel" "book" "[I" : Cond) ∈ wsX11_told := by decide +kernel
theorem m_X11_told_f68 : (.fieldLink RX11 68 "WovenRowsModel" "signs" "I" : Cond) ∈ wsX11_told := by decide +kernel
theorem m_X11_told_f22 : (.fieldLink RX11 22 "WovenRowsModel" "wide" "[I" : Cond) ∈ wsX11_told := by decide +kernel
theorem m_X11_told_f16 : (.fieldLink RX11 16 "WovenRowsModel" "width" "[I" : Cond) ∈ wsX11_told := by decide +kernel
theorem m_X11_told_f19 : (.fieldLink RX11 19 "WovenRowsModel" "key" "[I" : Cond) ∈ wsX11_told := by decide +kernel
set_option maxRecDepth 100000 in
set_option maxHeartbeats 4000000 in
theorem c_X11_told (l : Launch) (dC : Nat → ClassId) (dI : Nat → Nat → Nat) (cI cJ cZ : ClassId) (h_this h_this_book h_this_width h_this_key h_this_wide h_this_delay g_this_now g_this_ahead g_this_after g_this_sight g_this_pad g_this_counts g_this_isOne g_this_ways g_this_image g_this_isKept : Nat) (sz : Nat) (c_rules : Int32) (c_sights : Int32) (c_signs : Int32) (c_reason : Int32) (c_acts : Int32) (c_meetings : Int32) (c_clashes : Int32) (c_first : Int32) (c_where : Int32) (c_door : Int32) (c_wider : Int32) (c_ordersFound : Int32) (c_firstOrder : Int32) (c_least : Int32) (c_leastOrder : Int32) (c_book : Nat → Int32) (c_width : Nat → Int32) (c_key : Nat → Int32) (c_wide : Nat → Int32) (c_delay : Nat → Int32) (l1 : Int32) (r : Int32) (hf : f_X11_told c_rules c_sights c_signs c_book c_width c_key c_wide c_delay l1 = some r) : Met l yX11_told wsX11_told rm_X11_told (va_Pc [.ref h_this, .int l1] (PRE (dC, dI) (TY cI cJ cZ) sz (w_X11_told cI cJ cZ h_this h_this_book h_this_width h_this_key h_this_wide h_this_delay g_this_now g_this_ahead g_this_after g_this_sight g_this_pad g_this_counts g_this_isOne g_this_ways g_this_image g_this_isKept c_rules c_sights c_signs c_reason c_acts c_meetings c_clashes c_first c_where c_door c_wider c_ordersFound c_firstOrder c_least c_leastOrder c_book c_width c_key c_wide c_delay))) (vp_Si (fun r' => r' = r)) 0 0 (fun _ => False) := by
  refine ofSi (ty := .int) (by decide +kernel) rfl (Nat.le_of_ble_eq_true rfl) ?_
  intro p e s m args below meth c Z ls S hP hD hK hN hl hret
  obtain ⟨hx, hb, hml, hown, hts⟩ := id S
  have hown : s.vm.findClass RX11 = some m.cls := hown
  have hl : lv_has ls 4 [(0, .ref h_this), (1, .int l1)] := hl
  unfold f_X11_told at hf
  have J_31 : ∀ (ls : Array Slot), lv_has ls 4 [] → f_X11_told_j31 = some r → W p l e rm_X11_told s m args below meth c s.heap [] 0 0 Z (F0 m 31 ls []) := by
    intro ls hl hf
    unfold f_X11_told_j31 at hf
    refine lv_bipush (v := (-2)) hx hb dX11_told_31 (by decide) ?_
    refine lv_goto (tgt := 65) hx hb dX11_told_33 (by decide) ?_
    have e_f := Option.some.inj hf
    cases e_f
    exact hret rfl dX11_told_65
  refine lv_iload_n hx hb dX11_told_0 rfl (lv_at hl 1 rfl) ?_
  refine lv_bipush (v := 80) hx hb dX11_told_1 (by decide) ?_
  refine lv_icmp_lt (tgt := 66) hx hb dX11_told_3 (by decide) (fun k_3 => ?_) (fun k_3 => ?_)
  · have hf := ite_t hf k_3
    refine lv_iload_n hx hb dX11_told_66 rfl (lv_at hl 1 rfl) ?_
    refine lv_bipush (v := 60) hx hb dX11_told_67 (by decide) ?_
    refine lv_icmp_lt (tgt := 97) hx hb dX11_told_69 (by decide) (fun k_69 => ?_) (fun k_69 => ?_)
    · have hf := ite_t hf k_69
      refine lv_iload_n hx hb dX11_told_97 rfl (lv_at hl 1 rfl) ?_
      refine lv_bipush (v := 40) hx hb dX11_told_98 (by decide) ?_
      refine lv_icmp_lt (tgt := 128) hx hb dX11_told_100 (by decide) (fun k_100 => ?_) (fun k_100 => ?_)
      · have hf := ite_t hf k_100
        refine lv_iload_n hx hb dX11_told_128 rfl (lv_at hl 1 rfl) ?_
        refine lv_bipush (v := 20) hx hb dX11_told_129 (by decide) ?_
        refine lv_icmp_lt (tgt := 160) hx hb dX11_told_131 (by decide) (fun k_131 => ?_) (fun k_131 => ?_)
        · have hf := ite_t hf k_131
          refine lv_iload_n hx hb dX11_told_160 rfl (lv_at hl 1 rfl) ?_
          by_cases k_161_0 : l1 = 0
          · have hf := ite_t hf k_161_0
            refine lv_tableIn (off := 39) (tgt := 200) hx hb dX11_told_161 (by rw [k_161_0]; decide) (by rw [k_161_0]; decide) (by rw [k_161_0]; decide) (by decide) ?_
            refine lv_aload_n hx hb dX11_told_200 rfl (lv_at hl 0 rfl) ?_
            refine va_get (D := (dC, dI)) (ci := 11) (v := .int c_signs) (C := RX11) (T := TX11) (N := 30) hx hb hts in_X11_told_X11 hown hK hP 0 rfl rfl 11 (by decide) (hts _ m_X11_told_f68) (fun _ h9 => h9) rfl dX11_told_201 ?_
            have e_f := Option.some.inj hf
            cases e_f
            exact hret rfl dX11_told_204
          have hf := ite_f hf k_161_0
          have k_161_0 := sw_ne (z := 0) (by decide) k_161_0
          by_cases k_161_1 : l1 = 1
          · have hf := ite_t hf k_161_1
            refine lv_tableIn (off := 44) (tgt := 205) hx hb dX11_told_161 (by rw [k_161_1]; decide) (by rw [k_161_1]; decide) (by rw [k_161_1]; decide) (by decide) ?_
            refine lv_aload_n hx hb dX11_told_205 rfl (lv_at hl 0 rfl) ?_
            refine va_get (D := (dC, dI)) (ci := 11) (v := .ref h_this_book) (C := RX11) (T := TX11) (N := 30) hx hb hts in_X11_told_X11 hown hK hP 0 rfl rfl 0 (by decide) (hts _ m_X11_told_f7) (fun _ h9 => h9) rfl dX11_told_206 ?_
            refine lv_bipush (v := 12) hx hb dX11_told_209 (by decide) ?_
            obtain ⟨g_211, hf⟩ := gd_some hf
            refine va_iald hx hb hK hP 1 0 rfl rfl g_211 dX11_told_211 ?_
            have e_f := Option.some.inj hf
            cases e_f
            exact hret rfl dX11_told_212
          have hf := ite_f hf k_161_1
          have k_161_1 := sw_ne (z := 1) (by decide) k_161_1
          by_cases k_161_2 : l1 = 2
          · have hf := ite_t hf k_161_2
            refine lv_tableIn (off := 52) (tgt := 213) hx hb dX11_told_161 (by rw [k_161_2]; decide) (by rw [k_161_2]; decide) (by rw [k_161_2]; decide) (by decide) ?_
            refine lv_aload_n hx hb dX11_told_213 rfl (lv_at hl 0 rfl) ?_
            refine va_get (D := (dC, dI)) (ci := 11) (v := .ref h_this_book) (C := RX11) (T := TX11) (N := 30) hx hb hts in_X11_told_X11 hown hK hP 0 rfl rfl 0 (by decide) (hts _ m_X11_told_f7) (fun _ h9 => h9) rfl dX11_told_214 ?_
            refine lv_bipush (v := 13) hx hb dX11_told_217 (by decide) ?_
            obtain ⟨g_219, hf⟩ := gd_some hf
            refine va_iald hx hb hK hP 1 0 rfl rfl g_219 dX11_told_219 ?_
            have e_f := Option.some.inj hf
            cases e_f
            exact hret rfl dX11_told_220
          have hf := ite_f hf k_161_2
          have k_161_2 := sw_ne (z := 2) (by decide) k_161_2
          by_cases k_161_3 : l1 = 3
          · have hf := ite_t hf k_161_3
            refine lv_tableIn (off := 60) (tgt := 221) hx hb dX11_told_161 (by rw [k_161_3]; decide) (by rw [k_161_3]; decide) (by rw [k_161_3]; decide) (by decide) ?_
            refine lv_aload_n hx hb dX11_told_221 rfl (lv_at hl 0 rfl) ?_
            refine va_get (D := (dC, dI)) (ci := 11) (v := .ref h_this_book) (C := RX11) (T := TX11) (N := 30) hx hb hts in_X11_told_X11 hown hK hP 0 rfl rfl 0 (by decide) (hts _ m_X11_told_f7) (fun _ h9 => h9) rfl dX11_told_222 ?_
            refine lv_bipush (v := 14) hx hb dX11_told_225 (by decide) ?_
            obtain ⟨g_227, hf⟩ := gd_some hf
            refine va_iald hx hb hK hP 1 0 rfl rfl g_227 dX11_told_227 ?_
            have e_f := Option.some.inj hf
            cases e_f
            exact hret rfl dX11_told_228
          have hf := ite_f hf k_161_3
          have k_161_3 := sw_ne (z := 3) (by decide) k_161_3
          by_cases k_161_4 : l1 = 4
          · have hf := ite_t hf k_161_4
            refine lv_tableIn (off := 68) (tgt := 229) hx hb dX11_told_161 (by rw [k_161_4]; decide) (by rw [k_161_4]; decide) (by rw [k_161_4]; decide) (by decide) ?_
            refine lv_aload_n hx hb dX11_told_229 rfl (lv_at hl 0 rfl) ?_
            refine va_get (D := (dC, dI)) (ci := 11) (v := .int c_rules) (C := RX11) (T := TX11) (N := 30) hx hb hts in_X11_told_X11 hown hK hP 0 rfl rfl 6 (by decide) (hts _ m_X11_told_f145) (fun _ h9 => h9) rfl dX11_told_230 ?_
            have e_f := Option.some.inj hf
            cases e_f
            exact hret rfl dX11_told_233
          have hf := ite_f hf k_161_4
          have k_161_4 := sw_ne (z := 4) (by decide) k_161_4
          by_cases k_161_5 : l1 = 5
          · have hf := ite_t hf k_161_5
            refine lv_tableIn (off := 73) (tgt := 234) hx hb dX11_told_161 (by rw [k_161_5]; decide) (by rw [k_161_5]; decide) (by rw [k_161_5]; decide) (by decide) ?_
            refine lv_aload_n hx hb dX11_told_234 rfl (lv_at hl 0 rfl) ?_
            refine va_get (D := (dC, dI)) (ci := 11) (v := .int c_sights) (C := RX11) (T := TX11) (N := 30) hx hb hts in_X11_told_X11 hown hK hP 0 rfl rfl 9 (by decide) (hts _ m_X11_told_f177) (fun _ h9 => h9) rfl dX11_told_235 ?_
            have e_f := Option.some.inj hf
            cases e_f
            exact hret rfl dX11_told_238
          have hf := ite_f hf k_161_5
          have k_161_5 := sw_ne (z := 5) (by decide) k_161_5
          refine lv_tableOut (tgt := 239) hx hb dX11_told_161 (by omega) (by decide) ?_
          refine lv_iload_n hx hb dX11_told_239 rfl (lv_at hl 1 rfl) ?_
          refine lv_bipush (v := 6) hx hb dX11_told_240 (by decide) ?_
          refine lv_bipush (v := 7) hx hb dX11_told_242 (by decide) ?_
          obtain ⟨r_244, hv_244, hf⟩ := bd1_some hf
          refine kSi (rS [.int l1, .int 6, .int 7] [] S (c_X11_in l dC dI cI cJ cZ s.heap.size l1 6 7 r_244 hv_244) (va_cwS 3 hts gX11_told_X11_in rfl rfl rfl (by decide +kernel) ⟨Nat.le_of_ble_eq_true rfl, Nat.le_of_ble_eq_true rfl⟩) hP hD hK hN [] rfl (by decide +kernel) rfl hl.1 rfl (Nat.le_of_ble_eq_true rfl) dX11_told_244 ⟨Nat.le_of_ble_eq_true rfl, Nat.le_of_ble_eq_true rfl⟩) ?_
          refine lv_if_eq (tgt := 262) hx hb dX11_told_247 (by decide) (fun k_247 => ?_) (fun k_247 => ?_)
          · have hf := ite_t hf k_247
            refine lv_bipush (v := (-2)) hx hb dX11_told_262 (by decide) ?_
            have e_f := Option.some.inj hf
            cases e_f
            exact hret rfl dX11_told_264
          · have hf := ite_f hf k_247
            refine lv_aload_n hx hb dX11_told_250 rfl (lv_at hl 0 rfl) ?_
            refine va_get (D := (dC, dI)) (ci := 11) (v := .ref h_this_delay) (C := RX11) (T := TX11) (N := 30) hx hb hts in_X11_told_X11 hown hK hP 0 rfl rfl 5 (by decide) (hts _ m_X11_told_f25) (fun _ h9 => h9) rfl dX11_told_251 ?_
            refine lv_iload_n hx hb dX11_told_254 rfl (lv_at hl 1 rfl) ?_
            refine lv_bipush (v := 6) hx hb dX11_told_255 (by decide) ?_
            refine lv_isub hx hb dX11_told_257 ?_
            obtain ⟨g_258, hf⟩ := gd_some hf
            refine va_iald hx hb hK hP 5 0 rfl rfl g_258 dX11_told_258 ?_
            refine lv_goto (tgt := 264) hx hb dX11_told_259 (by decide) ?_
            have e_f := Option.some.inj hf
            cases e_f
            exact hret rfl dX11_told_264
        · have hf := ite_f hf k_131
          refine lv_iload_n hx hb dX11_told_134 rfl (lv_at hl 1 rfl) ?_
          refine lv_bipush (v := 20) hx hb dX11_told_135 (by decide) ?_
          refine lv_bipush (v := 36) hx hb dX11_told_137 (by decide) ?_
          obtain ⟨r_139, hv_139, hf⟩ := bd1_some hf
          refine kSi (rS [.int l1, .int 20, .int 36] [] S (c_X11_in l dC dI cI cJ cZ s.heap.size l1 20 36 r_139 hv_139) (va_cwS 3 hts gX11_told_X11_in rfl rfl rfl (by decide +kernel) ⟨Nat.le_of_ble_eq_true rfl, Nat.le_of_ble_eq_true rfl⟩) hP hD hK hN [] rfl (by decide +kernel) rfl hl.1 rfl (Nat.le_of_ble_eq_true rfl) dX11_told_139 ⟨Nat.le_of_ble_eq_true rfl, Nat.le_of_ble_eq_true rfl⟩) ?_
          refine lv_if_eq (tgt := 157) hx hb dX11_told_142 (by decide) (fun k_142 => ?_) (fun k_142 => ?_)
          · have hf := ite_t hf k_142
            refine lv_bipush (v := (-2)) hx hb dX11_told_157 (by decide) ?_
            have e_f := Option.some.inj hf
            cases e_f
            exact hret rfl dX11_told_159
          · have hf := ite_f hf k_142
            refine lv_aload_n hx hb dX11_told_145 rfl (lv_at hl 0 rfl) ?_
            refine va_get (D := (dC, dI)) (ci := 11) (v := .ref h_this_wide) (C := RX11) (T := TX11) (N := 30) hx hb hts in_X11_told_X11 hown hK hP 0 rfl rfl 4 (by decide) (hts _ m_X11_told_f22) (fun _ h9 => h9) rfl dX11_told_146 ?_
            refine lv_iload_n hx hb dX11_told_149 rfl (lv_at hl 1 rfl) ?_
            refine lv_bipush (v := 20) hx hb dX11_told_150 (by decide) ?_
            refine lv_isub hx hb dX11_told_152 ?_
            obtain ⟨g_153, hf⟩ := gd_some hf
            refine va_iald hx hb hK hP 4 0 rfl rfl g_153 dX11_told_153 ?_
            refine lv_goto (tgt := 159) hx hb dX11_told_154 (by decide) ?_
            have e_f := Option.some.inj hf
            cases e_f
            exact hret rfl dX11_told_159
      · have hf := ite_f hf k_100
        refine lv_iload_n hx hb dX11_told_103 rfl (lv_at hl 1 rfl) ?_
        refine lv_bipush (v := 40) hx hb dX11_told_104 (by decide) ?_
        refine lv_isub hx hb dX11_told_106 ?_
        obtain ⟨r_107, hv_107, hf⟩ := bd1_some hf
        refine kSi (rS [.int (l1 - 40)] [] S (c_X11_isMember l dC dI cI cJ cZ s.heap.size (l1 - 40) r_107 hv_107) (va_cwS 1 hts gX11_told_X11_isMember rfl rfl rfl (by decide +kernel) ⟨Nat.le_of_ble_eq_true rfl, Nat.le_of_ble_eq_true rfl⟩) hP hD hK hN [] rfl (by decide +kernel) rfl hl.1 rfl (Nat.le_of_ble_eq_true rfl) dX11_told_107 ⟨Nat.le_of_ble_eq_true rfl, Nat.le_of_ble_eq_true rfl⟩) ?_
        refine lv_if_eq (tgt := 125) hx hb dX11_told_110 (by decide) (fun k_110 => ?_) (fun k_110 => ?_)
        · have hf := ite_t hf k_110
          refine lv_bipush (v := (-2)) hx hb dX11_told_125 (by decide) ?_
          have e_f := Option.some.inj hf
          cases e_f
          exact hret rfl dX11_told_127
        · have hf := ite_f hf k_110
          refine lv_aload_n hx hb dX11_told_113 rfl (lv_at hl 0 rfl) ?_
          refine va_get (D := (dC, dI)) (ci := 11) (v := .ref h_this_width) (C := RX11) (T := TX11) (N := 30) hx hb hts in_X11_told_X11 hown hK hP 0 rfl rfl 2 (by decide) (hts _ m_X11_told_f16) (fun _ h9 => h9) rfl dX11_told_114 ?_
          refine lv_iload_n hx hb dX11_told_117 rfl (lv_at hl 1 rfl) ?_
          refine lv_bipush (v := 40) hx hb dX11_told_118 (by decide) ?_
          refine lv_isub hx hb dX11_told_120 ?_
          obtain ⟨g_121, hf⟩ := gd_some hf
          refine va_iald hx hb hK hP 2 0 rfl rfl g_121 dX11_told_121 ?_
          refine lv_goto (tgt := 127) hx hb dX11_told_122 (by decide) ?_
          have e_f := Option.some.inj hf
          cases e_f
          exact hret rfl dX11_told_127
    · have hf := ite_f hf k_69
      refine lv_iload_n hx hb dX11_told_72 rfl (lv_at hl 1 rfl) ?_
      refine lv_bipush (v := 60) hx hb dX11_told_73 (by decide) ?_
      refine lv_isub hx hb dX11_told_75 ?_
      obtain ⟨r_76, hv_76, hf⟩ := bd1_some hf
      refine kSi (rS [.int (l1 - 60)] [] S (c_X11_isMember l dC dI cI cJ cZ s.heap.size (l1 - 60) r_76 hv_76) (va_cwS 1 hts gX11_told_X11_isMember rfl rfl rfl (by decide +kernel) ⟨Nat.le_of_ble_eq_true rfl, Nat.le_of_ble_eq_true rfl⟩) hP hD hK hN [] rfl (by decide +kernel) rfl hl.1 rfl (Nat.le_of_ble_eq_true rfl) dX11_told_76 ⟨Nat.le_of_ble_eq_true rfl, Nat.le_of_ble_eq_true rfl⟩) ?_
      refine lv_if_eq (tgt := 94) hx hb dX11_told_79 (by decide) (fun k_79 => ?_) (fun k_79 => ?_)
      · have hf := ite_t hf k_79
        refine lv_bipush (v := (-2)) hx hb dX11_told_94 (by decide) ?_
        have e_f := Option.some.inj hf
        cases e_f
        exact hret rfl dX11_told_96
      · have hf := ite_f hf k_79
        refine lv_aload_n hx hb dX11_told_82 rfl (lv_at hl 0 rfl) ?_
        refine va_get (D := (dC, dI)) (ci := 11) (v := .ref h_this_key) (C := RX11) (T := TX11) (N := 30) hx hb hts in_X11_told_X11 hown hK hP 0 rfl rfl 3 (by decide) (hts _ m_X11_told_f19) (fun _ h9 => h9) rfl dX11_told_83 ?_
        refine lv_iload_n hx hb dX11_told_86 rfl (lv_at hl 1 rfl) ?_
        refine lv_bipush (v := 60) hx hb dX11_told_87 (by decide) ?_
        refine lv_isub hx hb dX11_told_89 ?_
        obtain ⟨g_90, hf⟩ := gd_some hf
        refine va_iald hx hb hK hP 3 0 rfl rfl g_90 dX11_told_90 ?_
        refine lv_goto (tgt := 96) hx hb dX11_told_91 (by decide) ?_
        have e_f := Option.some.inj hf
        cases e_f
        exact hret rfl dX11_told_96
  · have hf := ite_f hf k_3
    refine lv_iload_n hx hb dX11_told_6 rfl (lv_at hl 1 rfl) ?_
    refine lv_bipush (v := 10) hx hb dX11_told_7 (by decide) ?_
    refine lv_idiv hx hb dX11_told_9 (by decide) ?_
    refine lv_bipush (v := 8) hx hb dX11_told_10 (by decide) ?_
    refine lv_isub hx hb dX11_told_12 ?_
    refine lv_istore_n (lv' := [(2, .int ((l1 / 10) - 8)), (0, .ref h_this), (1, .int l1)]) hx hb dX11_told_13 rfl hl (by decide) rfl (fun ls hl => ?_)
    refine lv_iload_n hx hb dX11_told_14 rfl (lv_at hl 2 rfl) ?_
    refine lv_bipush (v := 10) hx hb dX11_told_15 (by decide) ?_
    refine lv_irem hx hb dX11_told_17 (by decide) ?_
    refine lv_istore_n (lv' := [(3, .int (l1 - (l1 / 10) * 10)), (2, .int ((l1 / 10) - 8)), (0, .ref h_this), (1, .int l1)]) hx hb dX11_told_18 rfl hl (by decide) rfl (fun ls hl => ?_)
    refine lv_iload_n hx hb dX11_told_19 rfl (lv_at hl 1 rfl) ?_
    obtain ⟨r_20, hv_20, hf⟩ := bd1_some hf
    refine kSi (rS [.int ((l1 / 10) - 8)] [] S (c_X11_isRow l dC dI cI cJ cZ s.heap.size ((l1 / 10) - 8) r_20 hv_20) (va_cwS 1 hts gX11_told_X11_isRow rfl rfl rfl (by decide +kernel) ⟨Nat.le_of_ble_eq_true rfl, Nat.le_of_ble_eq_true rfl⟩) hP hD hK hN [] rfl (by decide +kernel) rfl hl.1 rfl (Nat.le_of_ble_eq_true rfl) dX11_told_20 ⟨Nat.le_of_ble_eq_true rfl, Nat.le_of_ble_eq_true rfl⟩) ?_
    refine lv_if_eq (tgt := 31) hx hb dX11_told_23 (by decide) (fun k_23 => ?_) (fun k_23 => ?_)
    · have hf := ite_t hf k_23
      exact J_31  ls (lv_sub hl [] rfl) hf
    · have hf := ite_f hf k_23
      refine lv_iload_n hx hb dX11_told_26 rfl (lv_at hl 0 rfl) ?_
      refine lv_iconst (v := 5) hx hb dX11_told_27 (by decide) ?_
      refine lv_icmp_le (tgt := 36) hx hb dX11_told_28 (by decide) (fun k_28 => ?_) (fun k_28 => ?_)
      · have hf := ite_t hf k_28
        refine lv_iload_n hx hb dX11_told_36 rfl (lv_at hl 0 rfl) ?_
        refine lv_aload_n hx hb dX11_told_37 rfl (lv_at hl 2 rfl) ?_
        refine va_get (D := (dC, dI)) (ci := 11) (v := .ref h_this_book) (C := RX11) (T := TX11) (N := 30) hx hb hts in_X11_told_X11 hown hK hP 0 rfl rfl 0 (by decide) (hts _ m_X11_told_f7) (fun _ h9 => h9) rfl dX11_told_38 ?_
        refine lv_bipush (v := 12) hx hb dX11_told_41 (by decide) ?_
        refine lv_iload_n hx hb dX11_told_43 rfl (lv_at hl 1 rfl) ?_
        refine lv_iadd hx hb dX11_told_44 ?_
        obtain ⟨g_45, hf⟩ := gd_some hf
        refine va_iald hx hb hK hP 1 0 rfl rfl g_45 dX11_told_45 ?_
        refine lv_icmp_ge (tgt := 63) hx hb dX11_told_46 (by decide) (fun k_46 => ?_) (fun k_46 => ?_)
        · have hf := ite_t hf k_46
          refine lv_bipush (v := (-6)) hx hb dX11_told_63 (by decide) ?_
          have e_f := Option.some.inj hf
          cases e_f
          exact hret rfl dX11_told_65
        · have hf := ite_f hf k_46
          refine lv_aload_n hx hb dX11_told_49 rfl (lv_at hl 2 rfl) ?_
          refine va_get (D := (dC, dI)) (ci := 11) (v := .ref h_this_book) (C := RX11) (T := TX11) (N := 30) hx hb hts in_X11_told_X11 hown hK hP 0 rfl rfl 0 (by decide) (hts _ m_X11_told_f7) (fun _ h9 => h9) rfl dX11_told_50 ?_
          refine lv_bipush (v := 6) hx hb dX11_told_53 (by decide) ?_
          refine lv_iload_n hx hb dX11_told_55 rfl (lv_at hl 1 rfl) ?_
          refine lv_imul hx hb dX11_told_56 ?_
          refine lv_iload_n hx hb dX11_told_57 rfl (lv_at hl 0 rfl) ?_
          refine lv_iadd hx hb dX11_told_58 ?_
          obtain ⟨g_59, hf⟩ := gd_some hf
          refine va_iald hx hb hK hP 1 0 rfl rfl g_59 dX11_told_59 ?_
          refine lv_goto (tgt := 65) hx hb dX11_told_60 (by decide) ?_
          have e_f := Option.some.inj hf
          cases e_f
          exact hret rfl dX11_told_65
      · have hf := ite_f hf k_28
        exact J_31  ls (lv_sub hl [] rfl) hf
