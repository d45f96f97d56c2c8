theorem and31 (x : Int32) : ∃ k : Nat, k < 32 ∧ x &&& 31 = iZ k := by
  have h : (x &&& 31).toBitVec.toNat ≤ 31 := by
    rw [Int32.toBitVec_and, BitVec.toNat_and]
    exact Nat.and_le_right
  refine ⟨(x &&& 31).toBitVec.toNat, by omega, ?_⟩
  rw [← Int32.toBitVec_inj]
  apply BitVec.eq_of_toNat_eq
  generalize (x &&& 31).toBitVec.toNat = k at h ⊢
  show k = (BitVec.ofInt 32 (k : Int)).toNat
  rw [BitVec.ofInt_natCast, BitVec.toNat_ofNat, Nat.mod_eq_of_lt (by omega)]
theorem vin0 {i L : Nat} (hi : i + 4 ≤ L) (hL : L ≤ 2048) : vp_in (nI i) L := by
  unfold vp_in
  rw [z_nI, z_cl (by omega) (by omega)]
  rintro (h | h)
  · rw [show (0 : Int32) = iZ 0 from rfl, z_lt] at h <;> omega
  · omega
set_option maxRecDepth 100000 in
set_option maxHeartbeats 4000000 in
theorem law_loop {p : Program} {l : Launch} {e : Env} {s : State} {m : MethodId} {below : List Frame} {meth : Method} {c : Code} {b L : Nat} {xs : Nat → Int32} {dC : Nat → ClassId} {dI : Nat → Nat → Nat} {cI cJ cZ : ClassId} {tb h0 g0 : Nat} {a g : Nat → Nat}
    (S : CallFix p m c cL_law 4 s #[Value.ref b] wsL_law RL) (hr : meth.sig.returnType = ret) (hlocks : meth.locks = false) (hX : va_X b L xs s s.heap) (hbl : b < s.heap.size) (hL : L ≤ 2048) (hK : va_K (dC, dI) vwCl (TY cI cJ cZ) s) (hN : NW s) (hTab : TAB (fun q : Nat => s.heap.size ≤ q) tb s s.heap) :
    ∀ (k i : Nat), i ≤ L → L < i + 4 * k → ∀ (H : Heap) (locs : List Loc) (ws : va_W) (ls : Array Slot), RelW cI cJ cZ h0 a g0 g ws → va_P (dC, dI) vwCl ws H → va_D (fun q : Nat => s.heap.size ≤ q) ws → va_S (fun q : Nat => s.heap.size ≤ q) s.heap H locs → lv_has ls 4 [(0, .ref b), (1, .ref h0), (2, .ref g0), (3, .int (nI i))] →
      W p l e room_1 s m #[Value.ref b] below meth c H locs 88 1442 (lw_Z below #[Value.ref b] s) (F0 m 18 ls []) := by
  obtain ⟨hx, hb, hml, hown, hts⟩ := id S
  have hbA : ¬ (fun q : Nat => s.heap.size ≤ q) b := Nat.not_le.mpr hbl
  intro k
  induction k with
  | zero => intro i h1 h2; omega
  | succ k ih =>
    intro i h1 h2 H locs ws ls hR hP hD hS hl
    refine lv_iload_n hx hb dL_law_18 rfl (lv_at hl 3 rfl) ?_
    refine lv_aload_n hx hb dL_law_19 rfl (lv_at hl 0 rfl) ?_
    refine va_slen hx hb hX hbl hbA hS dL_law_20 ?_
    refine lv_iconst (v := 4) hx hb dL_law_21 (by decide) ?_
    refine lv_isub hx hb dL_law_22 ?_
    refine lv_icmp_gt (tgt := 918) hx hb dL_law_23 (by decide) (fun c_23 => ?_) (fun c_23 => ?_)
    · refine lv_iconst (v := 1) hx hb dL_law_918 (by decide) ?_
      refine va_forget (fun q hq => hS.2.2 q hq) ?_
      refine W.widen (k := 600000) (n := 7302250) (Nat.le_of_ble_eq_true rfl) (Nat.le_of_ble_eq_true rfl) ?_
      exact lw_ret hx hb hr hlocks dL_law_919
    · have hi : i + 4 ≤ L := by
        rcases Nat.lt_or_ge L (i + 4) with h | h
        · refine absurd ?_ c_23
          rw [show Int32.ofNat L = iZ L from z_nI L, z_nI i, show (4 : Int32) = iZ 4 from rfl, z_sub, z_lt] <;> omega
        · exact h
      have hnext : ∀ (H : Heap) (locs : List Loc) (ws : va_W), RelW cI cJ cZ h0 a g0 g ws → va_P (dC, dI) vwCl ws H → va_D (fun q : Nat => s.heap.size ≤ q) ws → va_S (fun q : Nat => s.heap.size ≤ q) s.heap H locs → W p l e room_1 s m #[Value.ref b] below meth c H locs 88 1442 (lw_Z below #[Value.ref b] s) (F0 m 912 ls []) := by
        intro H locs ws hR hP hD hS
        refine lv_iinc (v := nI (i + 4)) (lv' := [(3, .int (nI (i + 4))), (0, .ref b), (1, .ref h0), (2, .ref g0)]) hx hb dL_law_912 hl (k := 3) rfl (by rw [z_nI, z_nI, show Int32.ofInt 4 = iZ 4 from rfl, z_add]; rfl) (by decide) rfl (fun ls hl => ?_)
        refine lv_goto (tgt := 18) hx hb dL_law_915 (by decide) ?_
        exact ih (i + 4) hi (by omega) H locs ws ls hR hP hD hS (lv_sub hl [1, 2, 3, 0] rfl)
      refine lv_aload_n hx hb dL_law_26 rfl (lv_at hl 0 rfl) ?_
      refine lv_iload_n hx hb dL_law_27 rfl (lv_at hl 3 rfl) ?_
      refine va_sld hx hb hX hbl hbA hS (vin0 hi hL) dL_law_28 ?_
      refine lv_bipush (v := 31) hx hb dL_law_29 (by decide) ?_
      refine lv_iand hx hb dL_law_31 ?_
      obtain ⟨z, hz, ez⟩ := and31 (xs (nI i).toNatClampNeg)
      rw [ez]
      have ez2 : (iZ (z : Int)).toInt = z := z_toInt (by omega) (by omega)
      by_cases h28 : 28 < z
      · refine lv_tableOut (tgt := 912) hx hb dL_law_32 (Or.inr (by rw [ez2]; omega)) (by decide) ?_
        exact hnext H locs ws hR hP hD hS
      · rcases (show z = 0 ∨ z = 1 ∨ z = 2 ∨ z = 3 ∨ z = 4 ∨ z = 5 ∨ z = 6 ∨ z = 7 ∨ z = 8 ∨ z = 9 ∨ z = 10 ∨ z = 11 ∨ z = 12 ∨ z = 13 ∨ z = 14 ∨ z = 15 ∨ z = 16 ∨ z = 17 ∨ z = 18 ∨ z = 19 ∨ z = 20 ∨ z = 21 ∨ z = 22 ∨ z = 23 ∨ z = 24 ∨ z = 25 ∨ z = 26 ∨ z = 27 ∨ z = 28 by omega) with rfl | rfl | rfl | rfl | rfl | rfl | rfl | rfl | rfl | rfl | rfl | rfl | rfl | rfl | rfl | rfl | rfl | rfl | rfl | rfl | rfl | rfl | rfl | rfl | rfl | rfl | rfl | rfl | rfl
        · refine lv_tableIn (off := 132) (tgt := 164) hx hb dL_law_32 (by rw [ez2]; decide) (by rw [ez2]; decide) (by rw [ez2]; rfl) (by decide) ?_
          exact op_member S hX hbl hL hK hN hTab hR hP hD hS hi hl hnext
        · refine lv_tableIn (off := 175) (tgt := 207) hx hb dL_law_32 (by rw [ez2]; decide) (by rw [ez2]; decide) (by rw [ez2]; rfl) (by decide) ?_
          exact op_wide S hX hbl hL hK hN hTab hR hP hD hS hi hl hnext
        · refine lv_tableIn (off := 208) (tgt := 240) hx hb dL_law_32 (by rw [ez2]; decide) (by rw [ez2]; decide) (by rw [ez2]; rfl) (by decide) ?_
          exact op_delay S hX hbl hL hK hN hTab hR hP hD hS hi hl hnext
        · refine lv_tableIn (off := 241) (tgt := 273) hx hb dL_law_32 (by rw [ez2]; decide) (by rw [ez2]; decide) (by rw [ez2]; rfl) (by decide) ?_
          exact op_say S hX hbl hL hK hN hTab hR hP hD hS hi hl hnext
        · refine lv_tableIn (off := 264) (tgt := 296) hx hb dL_law_32 (by rw [ez2]; decide) (by rw [ez2]; decide) (by rw [ez2]; rfl) (by decide) ?_
          exact op_wipe S hX hbl hL hK hN hTab hR hP hD hS hi hl hnext
        · refine lv_tableIn (off := 277) (tgt := 309) hx hb dL_law_32 (by rw [ez2]; decide) (by rw [ez2]; decide) (by rw [ez2]; rfl) (by decide) ?_
          exact op_fault S hX hbl hL hK hN hTab hR hP hD hS hi hl hnext
        · refine lv_tableIn (off := 290) (tgt := 322) hx hb dL_law_32 (by rw [ez2]; decide) (by rw [ez2]; decide) (by rw [ez2]; rfl) (by decide) ?_
          exact op_judge S hX hbl hL hK hN hTab hR hP hD hS hi hl hnext
        · refine lv_tableIn (off := 313) (tgt := 345) hx hb dL_law_32 (by rw [ez2]; decide) (by rw [ez2]; decide) (by rw [ez2]; rfl) (by decide) ?_
          exact op_done S hX hbl hL hK hN hTab hR hP hD hS hi hl hnext
        · refine lv_tableIn (off := 326) (tgt := 358) hx hb dL_law_32 (by rw [ez2]; decide) (by rw [ez2]; decide) (by rw [ez2]; rfl) (by decide) ?_
          exact op_place S hX hbl hL hK hN hTab hR hP hD hS hi hl hnext
        · refine lv_tableIn (off := 359) (tgt := 391) hx hb dL_law_32 (by rw [ez2]; decide) (by rw [ez2]; decide) (by rw [ez2]; rfl) (by decide) ?_
          exact op_of S hX hbl hL hK hN hTab hR hP hD hS hi hl hnext
        · refine lv_tableIn (off := 392) (tgt := 424) hx hb dL_law_32 (by rw [ez2]; decide) (by rw [ez2]; decide) (by rw [ez2]; rfl) (by decide) ?_
          exact op_bells S hX hbl hL hK hN hTab hR hP hD hS hi hl hnext
        · refine lv_tableIn (off := 405) (tgt := 437) hx hb dL_law_32 (by rw [ez2]; decide) (by rw [ez2]; decide) (by rw [ez2]; rfl) (by decide) ?_
          exact op_meets S hX hbl hL hK hN hTab hR hP hD hS hi hl hnext
        · refine lv_tableIn (off := 428) (tgt := 460) hx hb dL_law_32 (by rw [ez2]; decide) (by rw [ez2]; decide) (by rw [ez2]; rfl) (by decide) ?_
          exact op_runs S hX hbl hL hK hN hTab hR hP hD hS hi hl hnext
        · refine lv_tableIn (off := 441) (tgt := 473) hx hb dL_law_32 (by rw [ez2]; decide) (by rw [ez2]; decide) (by rw [ez2]; rfl) (by decide) ?_
          exact op_order S hX hbl hL hK hN hTab hR hP hD hS hi hl hnext
        · refine lv_tableIn (off := 474) (tgt := 506) hx hb dL_law_32 (by rw [ez2]; decide) (by rw [ez2]; decide) (by rw [ez2]; rfl) (by decide) ?_
          exact op_start S hX hbl hL hK hN hTab hR hP hD hS hi hl hnext
        · refine lv_tableIn (off := 497) (tgt := 529) hx hb dL_law_32 (by rw [ez2]; decide) (by rw [ez2]; decide) (by rw [ez2]; rfl) (by decide) ?_
          exact op_door S hX hbl hL hK hN hTab hR hP hD hS hi hl hnext
        · refine lv_tableIn (off := 530) (tgt := 562) hx hb dL_law_32 (by rw [ez2]; decide) (by rw [ez2]; decide) (by rw [ez2]; rfl) (by decide) ?_
          exact op_grate S hX hbl hL hK hN hTab hR hP hD hS hi hl hnext
        · refine lv_tableIn (off := 553) (tgt := 585) hx hb dL_law_32 (by rw [ez2]; decide) (by rw [ez2]; decide) (by rw [ez2]; rfl) (by decide) ?_
          exact op_rule S hX hbl hL hK hN hTab hR hP hD hS hi hl hnext
        · refine lv_tableIn (off := 586) (tgt := 618) hx hb dL_law_32 (by rw [ez2]; decide) (by rw [ez2]; decide) (by rw [ez2]; rfl) (by decide) ?_
          exact op_unrule S hX hbl hL hK hN hTab hR hP hD hS hi hl hnext
        · refine lv_tableIn (off := 599) (tgt := 631) hx hb dL_law_32 (by rw [ez2]; decide) (by rw [ez2]; decide) (by rw [ez2]; rfl) (by decide) ?_
          exact op_orders S hX hbl hL hK hN hTab hR hP hD hS hi hl hnext
        · refine lv_tableIn (off := 632) (tgt := 664) hx hb dL_law_32 (by rw [ez2]; decide) (by rw [ez2]; decide) (by rw [ez2]; rfl) (by decide) ?_
          exact op_seen S hX hbl hL hK hN hTab hR hP hD hS hi hl hnext
        · refine lv_tableIn (off := 665) (tgt := 697) hx hb dL_law_32 (by rw [ez2]; decide) (by rw [ez2]; decide) (by rw [ez2]; rfl) (by decide) ?_
          exact op_forget S hX hbl hL hK hN hTab hR hP hD hS hi hl hnext
        · refine lv_tableIn (off := 678) (tgt := 710) hx hb dL_law_32 (by rw [ez2]; decide) (by rw [ez2]; decide) (by rw [ez2]; rfl) (by decide) ?_
          exact op_who S hX hbl hL hK hN hTab hR hP hD hS hi hl hnext
        · refine lv_tableIn (off := 701) (tgt := 733) hx hb dL_law_32 (by rw [ez2]; decide) (by rw [ez2]; decide) (by rw [ez2]; rfl) (by decide) ?_
          exact op_look S hX hbl hL hK hN hTab hR hP hD hS hi hl hnext
        · refine lv_tableIn (off := 724) (tgt := 756) hx hb dL_law_32 (by rw [ez2]; decide) (by rw [ez2]; decide) (by rw [ez2]; rfl) (by decide) ?_
          exact op_chance S hX hbl hL hK hN hTab hR hP hD hS hi hl hnext
        · refine lv_tableIn (off := 768) (tgt := 800) hx hb dL_law_32 (by rw [ez2]; decide) (by rw [ez2]; decide) (by rw [ez2]; rfl) (by decide) ?_
          exact op_year S hX hbl hL hK hN hTab hR hP hD hS hi hl hnext
        · refine lv_tableIn (off := 811) (tgt := 843) hx hb dL_law_32 (by rw [ez2]; decide) (by rw [ez2]; decide) (by rw [ez2]; rfl) (by decide) ?_
          exact op_image S hX hbl hL hK hN hTab hR hP hD hS hi hl hnext
        · refine lv_tableIn (off := 834) (tgt := 866) hx hb dL_law_32 (by rw [ez2]; decide) (by rw [ez2]; decide) (by rw [ez2]; rfl) (by decide) ?_
          exact op_restore S hX hbl hL hK hN hTab hR hP hD hS hi hl hnext
        · refine lv_tableIn (off := 857) (tgt := 889) hx hb dL_law_32 (by rw [ez2]; decide) (by rw [ez2]; decide) (by rw [ez2]; rfl) (by decide) ?_
          exact op_told S hX hbl hL hK hN hTab hR hP hD hS hi hl hnext
