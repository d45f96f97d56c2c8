theorem doorC {w c d ro pl : Nat → Int32} {W C D : Nat → Nat} {A B : List Nat} (hT : TownRep w c d W C D) (hC : ∀ k, k < 17 → C k ≤ 30) (hR : RowsRep ro pl A B) (hW : Wf A B) {v : Nat} (hv : v ≤ 30) (m1 m2 m3 m4 m5 : Int32) {by' cn : Int32} (hF : FInv (fun i => nCl (wider C i v) W (D 0) (D 1) A B) 0 by' cn) :
    ∃ r, loopN (fun (q : Int32 × (Nat → Int32) × Int32 × Int32 × Int32 × Int32 × Int32 × Int32 × Int32) => f_X10_door_b42 (iZ v) w d ro pl q.1 q.2.1 q.2.2.1 q.2.2.2.1 q.2.2.2.2.1 q.2.2.2.2.2.1 q.2.2.2.2.2.2.1 q.2.2.2.2.2.2.2.1 q.2.2.2.2.2.2.2.2) FU (0, c, m1, m2, m3, m4, m5, by', cn) = some r ∧ FInv (fun i => nCl (wider C i v) W (D 0) (D 1) A B) 17 r.2.2.2.2.2.2.2.1 r.2.2.2.2.2.2.2.2 := by
  refine loop_inv (fun i s => ∃ cc tw cz fs wh tr b2 c2, s = (iZ i, cc, tw, cz, fs, wh, tr, b2, c2) ∧ FInv (fun i => nCl (wider C i v) W (D 0) (D 1) A B) i b2 c2 ∧ ∀ k, k < 17 → cc k = iZ (C k)) 17 ⟨c, m1, m2, m3, m4, m5, by', cn, rfl, hF, fun k hk => (hT.2.1 k hk).1⟩ ?_ ?_ (by omega)
  · rintro i hi s ⟨cc, tw, cz, fs, wh, tr, b2, c2, rfl, h1, h2⟩
    dsimp only
    have hci := hC i hi
    have hT2 : TownRep w (upd cc i (iZ (C i) + iZ v)) d W (wider C i v) D := by
      refine ⟨hT.1, fun k hk => ?_, hT.2.2⟩
      have hck := hC k hk
      unfold wider
      by_cases hki : k = i
      · subst hki
        rw [upd_at, if_pos rfl, z_add]
        exact ⟨rfl, by omega⟩
      · rw [upd_ne _ _ hki, if_neg (by omega)]
        exact ⟨h2 k hk, by omega⟩
    obtain ⟨tw2, fs2, wh2, tr2, g1⟩ := count_n hT2 hR hW tr
    have hle : ∀ j, (fun i : Nat => nCl (wider C i v) W (D 0) (D 1) A B) j ≤ 1000 := fun j => Nat.le_trans (nCl_le _ W (D 0) (D 1) hW) (by omega)
    obtain ⟨b3, c3, g2, g3⟩ := offer_s hle (i := i) (by omega) h1
    unfold f_X10_door_b42
    rw [show (17 : Int32) = iZ 17 from rfl, if_neg (by rw [z_le] <;> omega), at_n (by omega) (by omega), bd1_s, h2 i hi, put_n (by omega) (by omega), bd1_s, g1, bd5_s, put_n (by omega) (by omega), bd1_s, g2, bd2_s, show (1 : Int32) = iZ 1 from rfl, z_add]
    refine ⟨_, rfl, _, _, _, _, _, _, _, _, rfl, g3, fun k hk => ?_⟩
    by_cases hki : k = i
    · subst hki
      exact upd_at _ _ _
    · rw [upd_ne _ _ hki, upd_ne _ _ hki]
      exact h2 k hk
  · rintro s ⟨cc, tw, cz, fs, wh, tr, b2, c2, rfl, h1, h2⟩
    dsimp only
    unfold f_X10_door_b42
    rw [if_pos (by decide)]
    exact ⟨_, rfl, h1⟩
theorem doorM {w c d now : Nat → Int32} {W C D : Nat → Nat} {A B : List Nat} {b : Nat} (hM : MTown w c d W C D) (hB : BookRep now A B b) (hW : Wf A B) {v : Nat} (hv : v ≤ 30) (m1 m2 m3 m4 m5 : Int32) :
    ∃ r, loopN (fun (q : Int32 × Int32 × Int32 × Int32 × Int32 × Int32 × Int32 × Int32) => f_X11_door_b40 w c d (iZ v) now q.1 q.2.1 q.2.2.1 q.2.2.2.1 q.2.2.2.2.1 q.2.2.2.2.2.1 q.2.2.2.2.2.2.1 q.2.2.2.2.2.2.2) FU (0, 1000000, 0, m1, m2, m3, m4, m5) = some r ∧ r.1 = iZ (bst (fun i => nCl (wider C i v) W (D 0) (D 1) A B) 17).1 ∧ r.2.1 = iZ (bst (fun i => nCl (wider C i v) W (D 0) (D 1) A B) 17).2 := by
  refine loop_inv (fun i s => ∃ tw cz fs wh dz, s = (iZ (bst (fun i => nCl (wider C i v) W (D 0) (D 1) A B) i).1, iZ (bst (fun i => nCl (wider C i v) W (D 0) (D 1) A B) i).2, iZ i, tw, cz, fs, wh, dz)) 17 ⟨m1, m2, m3, m4, m5, rfl⟩ ?_ ?_ (by omega)
  · rintro i hi s ⟨tw, cz, fs, wh, dz, rfl⟩
    dsimp only
    obtain ⟨tw2, fs2, wh2, g1⟩ := lay_n hM hB hW (dz := i) (by omega) (by omega) hv
    have hle : ∀ j, (fun i : Nat => nCl (wider C i v) W (D 0) (D 1) A B) j ≤ 66 := fun j => nCl_le _ W (D 0) (D 1) hW
    obtain ⟨l1, l2, l3⟩ := bst_le hle (by omega) i
    have l4 := hle i
    dsimp only at l4
    unfold f_X11_door_b40 f_X11_door_j72 f_X11_door_j91
    have e1 : (1 : Int32) = iZ 1 := rfl
    rw [show (17 : Int32) = iZ 17 from rfl, if_neg (by rw [z_le] <;> omega), g1, bd4_s]
    by_cases hc : (bst (fun i : Nat => nCl (wider C i v) W (D 0) (D 1) A B) i).2 ≤ nCl (wider C i v) W (D 0) (D 1) A B
    · have hz : iZ ((bst (fun i : Nat => nCl (wider C i v) W (D 0) (D 1) A B) i).2 : Int) ≤ iZ (nCl (wider C i v) W (D 0) (D 1) A B : Int) := by rw [z_le] <;> omega
      rw [if_pos hz, if_pos hz, e1, z_add]
      have eb : bst (fun i : Nat => nCl (wider C i v) W (D 0) (D 1) A B) (i + 1) = bst (fun i : Nat => nCl (wider C i v) W (D 0) (D 1) A B) i := by
        rw [bst, if_pos hc]
      refine ⟨_, rfl, tw2, iZ (nCl (wider C i v) W (D 0) (D 1) A B), fs2, wh2, iZ i, ?_⟩
      rw [eb]
      rfl
    · have hz : ¬ iZ ((bst (fun i : Nat => nCl (wider C i v) W (D 0) (D 1) A B) i).2 : Int) ≤ iZ (nCl (wider C i v) W (D 0) (D 1) A B : Int) := by rw [z_le] <;> omega
      rw [if_neg hz, if_neg hz, e1, z_add]
      have eb : bst (fun i : Nat => nCl (wider C i v) W (D 0) (D 1) A B) (i + 1) = (i, nCl (wider C i v) W (D 0) (D 1) A B) := by
        rw [bst, if_neg hc]
      refine ⟨_, rfl, tw2, iZ (nCl (wider C i v) W (D 0) (D 1) A B), fs2, wh2, iZ i, ?_⟩
      rw [eb]
      rfl
  · rintro s ⟨tw, cz, fs, wh, dz, rfl⟩
    dsimp only
    unfold f_X11_door_b40
    rw [if_pos (by decide)]
    exact ⟨_, rfl, rfl, rfl⟩
theorem door_both {T U : TW} {M : BK} (hT : TRel T M) (m1 m2 m3 m4 m5 f1 f2 n1 n2 n3 n4 n5 n6 : Int32) (now : Nat → Int32) (x y : Int32) :
    ∃ v t m, f_X10_door T.w T.k T.c T.d T.b T.ro T.pl T.rc T.rf T.rs T.sc T.sf T.ss U.w U.k U.c U.d U.b U.ro U.pl U.rc U.rf U.rs U.sc U.sf U.ss m1 m2 m3 m4 m5 f1 f2 x y = some (v, t) ∧ f_X11_door n1 n2 n3 n4 n5 n6 M.bk now M.wd M.wi M.dl x y = some (v, m) := by
  obtain ⟨z, z1, z2, rfl⟩ := z_of x
  obtain ⟨u, u1, u2, rfl⟩ := z_of y
  obtain ⟨A, B, b, W, K, C, D, N, F, S, N2, F2, S2, h⟩ := hT
  have hw := within_z z1 z2 (a := 0) (b := 30) (by omega) (by omega) (by omega) (by omega)
  have hw2 := in_z z1 z2 (a := 0) (b := 30) (by omega) (by omega) (by omega) (by omega)
  have hu := within_z u1 u2 (a := 0) (b := 1) (by omega) (by omega) (by omega) (by omega)
  have hu2 := in_z u1 u2 (a := 0) (b := 1) (by omega) (by omega) (by omega) (by omega)
  unfold f_X10_door f_X11_door
  rw [show f_X10_within (iZ z) 0 30 = _ from hw, show f_X11_in (iZ z) 0 30 = _ from hw2, show f_X10_within (iZ u) 0 1 = _ from hu, show f_X11_in (iZ u) 0 1 = _ from hu2, bd1_s, bd1_s, bd1_s, bd1_s]
  by_cases ha : 0 ≤ z ∧ z ≤ 30
  · rw [if_neg (show ¬ bz (0 ≤ z ∧ z ≤ 30) = 0 from bzN ha), if_neg (show ¬ bz (0 ≤ z ∧ z ≤ 30) = 0 from bzN ha)]
    by_cases hb : 0 ≤ u ∧ u ≤ 1
    · rw [if_neg (show ¬ bz (0 ≤ u ∧ u ≤ 1) = 0 from bzN hb), if_neg (show ¬ bz (0 ≤ u ∧ u ≤ 1) = 0 from bzN hb), takeT_s, bd13_s, plain_s, bd3_s]
      obtain ⟨v, rfl⟩ : ∃ v : Nat, z = v := ⟨z.toNat, by omega⟩
      have hag := cpT_ag T U
      obtain ⟨t1, t2, t3, t4, t5, t6, t7, -⟩ := hag
      have hT1 := (tOf (h.h1.ag t1 (fun _ _ => rfl)) (h.h3.ag t3 (fun _ _ => rfl)) (h.h4.ag t4 (fun _ _ => rfl))).1
      have hM1 := (tOf h.h1 h.h3 h.h4).2
      have hR1 : RowsRep (cpT T U).ro (cpT T U).pl A B := h.hR.cp
      obtain ⟨b2, c2, e1, e2⟩ := begin_s (fun i => nCl (wider C i v) W (D 0) (D 1) A B)
      obtain ⟨⟨r1, r2, r3, r4, r5, r6, r7, r8, r9⟩, g1, g2⟩ := doorC hT1 (fun k hk => (h.h3 k hk).2.2.2) hR1 h.hW (v := v) (by omega) m1 m2 m3 m4 m5 e2
      obtain ⟨⟨q1, q2, q3, q4, q5, q6, q7, q8⟩, g3, g4, g5⟩ := doorM hM1 (h.hB.cp (x := now) h.hW) h.hW (v := v) (by omega) n1 n2 n3 n4 (iZ (-6))
      rw [e1, bd2_s, g1, bd9_s, g3, bd8_s]
      dsimp only at g2 g4 g5
      unfold FInv at g2
      rw [if_neg (by omega)] at g2
      obtain ⟨g7, g8⟩ := g2
      subst g4 g5 g7 g8
      by_cases h0 : iZ u = 0
      · rw [if_pos h0, if_pos h0]
        exact ⟨_, _, _, rfl, rfl⟩
      · rw [if_neg h0, if_neg h0]
        exact ⟨_, _, _, rfl, rfl⟩
    · rw [if_pos (show bz (0 ≤ u ∧ u ≤ 1) = 0 from bzP hb), if_pos (show bz (0 ≤ u ∧ u ≤ 1) = 0 from bzP hb)]
      exact ⟨_, _, _, rfl, rfl⟩
  · rw [if_pos (show bz (0 ≤ z ∧ z ≤ 30) = 0 from bzP ha), if_pos (show bz (0 ≤ z ∧ z ≤ 30) = 0 from bzP ha)]
    exact ⟨_, _, _, rfl, rfl⟩
theorem year_both {T U : TW} {M : BK} (hT : TRel T M) (m1 m2 m3 m4 m5 n1 n2 n3 n4 n5 n6 : Int32) (now : Nat → Int32) (x y s : Int32) :
    ∃ v t m, f_X10_year T.w T.k T.c T.d T.b T.ro T.pl T.rc T.rf T.rs T.sc T.sf T.ss U.w U.k U.c U.d U.b U.ro U.pl U.rc U.rf U.rs U.sc U.sf U.ss m1 m2 m3 m4 m5 x y s = some (v, t) ∧ f_X11_year n1 n2 n3 n4 n5 n6 M.bk now M.wd M.wi M.dl x y s = some (v, m) := by
  obtain ⟨z, z1, z2, rfl⟩ := z_of x
  obtain ⟨u, u1, u2, rfl⟩ := z_of y
  obtain ⟨p, p1, p2, rfl⟩ := z_of s
  obtain ⟨A, B, b, W, K, C, D, N, F, S, N2, F2, S2, h⟩ := hT
  have hw := within_z z1 z2 (a := 0) (b := 9999) (by omega) (by omega) (by omega) (by omega)
  have hw2 := in_z z1 z2 (a := 0) (b := 9999) (by omega) (by omega) (by omega) (by omega)
  have hu := within_z u1 u2 (a := 1) (b := 99) (by omega) (by omega) (by omega) (by omega)
  have hu2 := in_z u1 u2 (a := 1) (b := 99) (by omega) (by omega) (by omega) (by omega)
  have hp := within_z p1 p2 (a := 0) (b := 2) (by omega) (by omega) (by omega) (by omega)
  have hp2 := in_z p1 p2 (a := 0) (b := 2) (by omega) (by omega) (by omega) (by omega)
  unfold f_X10_year f_X11_year
  rw [show f_X10_within (iZ z) 0 9999 = _ from hw, show f_X11_in (iZ z) 0 9999 = _ from hw2, show f_X10_within (iZ u) 1 99 = _ from hu, show f_X11_in (iZ u) 1 99 = _ from hu2, show f_X10_within (iZ p) 0 2 = _ from hp, show f_X11_in (iZ p) 0 2 = _ from hp2, bd1_s, bd1_s, bd1_s, bd1_s, bd1_s, bd1_s]
  by_cases ha : 0 ≤ z ∧ z ≤ 9999
  · rw [if_neg (show ¬ bz (0 ≤ z ∧ z ≤ 9999) = 0 from bzN ha), if_neg (show ¬ bz (0 ≤ z ∧ z ≤ 9999) = 0 from bzN ha)]
    by_cases hb : 1 ≤ u ∧ u ≤ 99
    · rw [if_neg (show ¬ bz (1 ≤ u ∧ u ≤ 99) = 0 from bzN hb), if_neg (show ¬ bz (1 ≤ u ∧ u ≤ 99) = 0 from bzN hb)]
      by_cases hc : 0 ≤ p ∧ p ≤ 2
      · rw [if_neg (show ¬ bz (0 ≤ p ∧ p ≤ 2) = 0 from bzN hc), if_neg (show ¬ bz (0 ≤ p ∧ p ≤ 2) = 0 from bzN hc), takeT_s, bd13_s, plain_s, bd3_s]
        obtain ⟨a, rfl⟩ : ∃ v : Nat, z = v := ⟨z.toNat, by omega⟩
        obtain ⟨m, rfl⟩ : ∃ v : Nat, u = v := ⟨u.toNat, by omega⟩
        have hag := cpT_ag T U
        obtain ⟨t1, t2, t3, t4, t5, t6, t7, -⟩ := hag
        have hT1 := (tOf (h.h1.ag t1 (fun _ _ => rfl)) (h.h3.ag t3 (fun _ _ => rfl)) (h.h4.ag t4 (fun _ _ => rfl))).1
        have hM1 := (tOf h.h1 h.h3 h.h4).2
        have hR1 : RowsRep (cpT T U).ro (cpT T U).pl A B := h.hR.cp
        obtain ⟨b', ro', pl', d1, rfl, d3, d4, d5⟩ := drawYear_s hR1 h.hW h.hb (x := a) (m := m) (by omega) (by omega)
        obtain ⟨x', bk', y1, y2⟩ := yearLoopM (h.hB.cp (x := now) h.hW) h.hW h.hb (x := a) (m := m) (by omega) (by omega)
        obtain ⟨tw2, fs2, wh2, tr2, c1⟩ := count_n hT1 d3 d4 m5
        obtain ⟨tw3, fs3, wh3, c2⟩ := lay_n hM1 y2 d4 (dz := -6) (by omega) (by omega) (v := 0) (by omega)
        rw [wider0f] at c2
        have l0 : f_X7_lengthOf ro' 0 = some (iZ (yrS m a A B b).1.length) := lengthOf_s d3 d4 (r := 0) (by omega)
        have l1 : f_X7_lengthOf ro' 1 = some (iZ (yrS m a A B b).2.1.length) := lengthOf_s d3 d4 (r := 1) (by omega)
        have k0 : bk' (Int32.toNatClampNeg 12) = iZ (yrS m a A B b).1.length := y2.2.2.1
        have k1 : bk' (Int32.toNatClampNeg 13) = iZ (yrS m a A B b).2.1.length := y2.2.2.2.1
        have k2 : bk' (Int32.toNatClampNeg 14) = iZ (yrS m a A B b).2.2 := y2.2.2.2.2
        rw [show (cpT T U).b = iZ b from h.hbz, d1, bd3_s, y1, bd3_s, c1, bd5_s, c2, bd4_s, l0, l1, bd1_s, bd1_s, k0, k1, k2]
        by_cases e0 : iZ p = 0
        · rw [if_pos e0, if_pos e0, show gd 12 15 _ = _ from gd_z (a := 12) (n := 15) (by omega) (by omega) (by omega), show gd 13 15 _ = _ from gd_z (a := 13) (n := 15) (by omega) (by omega) (by omega)]
          exact ⟨_, _, _, rfl, rfl⟩
        · rw [if_neg e0, if_neg e0]
          by_cases e1 : iZ p = 1
          · rw [if_pos e1, if_neg (by rw [e1]; decide)]
            exact ⟨_, _, _, rfl, rfl⟩
          · rw [if_neg e1, if_pos (by
              have n0 : ¬ p = 0 := fun e => e0 (by rw [e]; rfl)
              have n1 : ¬ p = 1 := fun e => e1 (by rw [e]; rfl)
              rw [show p = 2 by omega]
              rfl), show gd 14 15 _ = _ from gd_z (a := 14) (n := 15) (by omega) (by omega) (by omega)]
            exact ⟨_, _, _, rfl, rfl⟩
      · rw [if_pos (show bz (0 ≤ p ∧ p ≤ 2) = 0 from bzP hc), if_pos (show bz (0 ≤ p ∧ p ≤ 2) = 0 from bzP hc)]
        exact ⟨_, _, _, rfl, rfl⟩
    · rw [if_pos (show bz (1 ≤ u ∧ u ≤ 99) = 0 from bzP hb), if_pos (show bz (1 ≤ u ∧ u ≤ 99) = 0 from bzP hb)]
      exact ⟨_, _, _, rfl, rfl⟩
  · rw [if_pos (show bz (0 ≤ z ∧ z ≤ 9999) = 0 from bzP ha), if_pos (show bz (0 ≤ z ∧ z ≤ 9999) = 0 from bzP ha)]
    exact ⟨_, _, _, rfl, rfl⟩
