theorem takeT_s (U T : TW) : f_X8_takeFrom U.w U.k U.c U.d U.ro U.pl U.rf U.rs U.sf U.ss T.w T.k T.c T.d T.b T.ro T.pl T.rc T.rf T.rs T.sc T.sf T.ss = some ((cpT T U).w, (cpT T U).k, (cpT T U).c, (cpT T U).d, (cpT T U).b, (cpT T U).ro, (cpT T U).pl, (cpT T U).rc, (cpT T U).rf, (cpT T U).rs, (cpT T U).sc, (cpT T U).sf, (cpT T U).ss) := takeTown_s _ _ _ _ _ _ _ _ _ _ _ _ _ _ _ _ _ _ _ _ _ _ _
theorem keep_or {k0 k1 n : Nat} (h0 : k0 ≤ 1) (h1 : k1 ≤ 1) (hn : n ≤ 1) : iZ (k0 + 2 * k1 : Nat) ||| ((1 : Int32) <<< (iZ n &&& 31)) = iZ ((if n = 0 then 1 else k0) + 2 * (if n = 0 then k1 else 1) : Nat) := by
  rcases (show k0 = 0 ∨ k0 = 1 by omega) with rfl | rfl <;> rcases (show k1 = 0 ∨ k1 = 1 by omega) with rfl | rfl <;> rcases (show n = 0 ∨ n = 1 by omega) with rfl | rfl <;> decide
theorem keep_and {k0 k1 n : Nat} (h0 : k0 ≤ 1) (h1 : k1 ≤ 1) (hn : n ≤ 1) : (iZ (k0 + 2 * k1 : Nat) &&& ((1 : Int32) <<< (iZ n &&& 31)) = 0) ↔ (if n = 0 then k0 else k1) = 0 := by
  rcases (show k0 = 0 ∨ k0 = 1 by omega) with rfl | rfl <;> rcases (show k1 = 0 ∨ k1 = 1 by omega) with rfl | rfl <;> rcases (show n = 0 ∨ n = 1 by omega) with rfl | rfl <;> decide
theorem image_both {T U0 U1 : TW} {M : BK} {I Kp : Nat → Int32} {kept : Int32} (hT : TRel T M) (h : ImRel kept U0 U1 I Kp) (x : Int32) :
    ∃ v kept2, ∃ V0 V1 : TW, ∃ I2 Kp2, f_X10_image kept T.w T.k T.c T.d T.b T.ro T.pl T.rc T.rf T.rs T.sc T.sf T.ss U0.w U0.k U0.c U0.d U0.b U0.ro U0.pl U0.rc U0.rf U0.rs U0.sc U0.sf U0.ss U1.w U1.k U1.c U1.d U1.b U1.ro U1.pl U1.rc U1.rf U1.rs U1.sc U1.sf U1.ss x = some (v, kept2, V0.w, V0.k, V0.c, V0.d, V0.b, V0.ro, V0.pl, V0.rc, V0.rf, V0.rs, V0.sc, V0.sf, V0.ss, V1.w, V1.k, V1.c, V1.d, V1.b, V1.ro, V1.pl, V1.rc, V1.rf, V1.rs, V1.sc, V1.sf, V1.ss) ∧ f_X11_image M.rn M.sn M.bk M.wd M.ky M.wi M.dl M.ah M.af M.si I Kp x = some (v, I2, Kp2) ∧ ImRel kept2 V0 V1 I2 Kp2 := by
  obtain ⟨z, z1, z2, rfl⟩ := z_of x
  by_cases ha : 0 ≤ z ∧ z ≤ 1
  · obtain ⟨n, rfl⟩ : ∃ n : Nat, z = n := ⟨z.toNat, by omega⟩
    rw [image_model I Kp M (by omega)]
    unfold f_X10_image
    obtain ⟨k0, k1, i0, i1, rfl, i3, i4, i5, i6⟩ := h
    have e0 : (0 : Int32) = iZ 0 := rfl
    have hw := within_z z1 z2 (a := 0) (b := 1) (by omega) (by omega) (by omega) (by omega)
    rw [show f_X10_within (iZ n) 0 1 = _ from hw, bd1_s, if_neg (show ¬ bz (0 ≤ (n : Int) ∧ (n : Int) ≤ 1) = 0 from bzN ha), takeT_s, takeT_s, bd13_s, bd13_s, keep_or i0 i1 (by omega)]
    rcases (show n = 0 ∨ n = 1 by omega) with rfl | rfl
    · rw [if_pos (show iZ ((0 : Nat) : Int) = 0 from rfl), if_pos rfl, if_pos rfl]
      refine ⟨1, _, cpT T U0, U1, _, _, rfl, rfl, 1, k1, by omega, i1, rfl, rfl, ?_, fun _ => ?_, fun hk => ?_⟩
      · rw [upd_ne _ _ (by omega)]; exact i4
      · exact hT.ag (cpT_ag T U0) (imF_ag I 0 M)
      · exact (i6 hk).ag (by exact ⟨fun _ _ => rfl, fun _ _ => rfl, fun _ _ => rfl, fun _ _ => rfl, rfl, fun _ _ => rfl, fun _ _ => rfl, rfl, fun _ _ => rfl, fun _ _ => rfl, rfl, fun _ _ => rfl, fun _ _ => rfl⟩) (imF_ot I 0 100 M (by omega))
    · rw [if_neg (show ¬ iZ ((1 : Nat) : Int) = 0 by decide), if_neg (by omega), if_neg (by omega)]
      refine ⟨1, _, U0, cpT T U1, _, _, rfl, rfl, k0, 1, i0, by omega, rfl, ?_, rfl, fun hk => ?_, fun _ => ?_⟩
      · rw [upd_ne _ _ (by omega)]; exact i3
      · exact (i5 hk).ag (by exact ⟨fun _ _ => rfl, fun _ _ => rfl, fun _ _ => rfl, fun _ _ => rfl, rfl, fun _ _ => rfl, fun _ _ => rfl, rfl, fun _ _ => rfl, fun _ _ => rfl, rfl, fun _ _ => rfl, fun _ _ => rfl⟩) (imF_ot I 100 0 M (by omega))
      · exact hT.ag (cpT_ag T U1) (imF_ag I 100 M)
  · unfold f_X10_image f_X11_image
    have hw := within_z z1 z2 (a := 0) (b := 1) (by omega) (by omega) (by omega) (by omega)
    have hw2 := in_z z1 z2 (a := 0) (b := 1) (by omega) (by omega) (by omega) (by omega)
    rw [show f_X10_within (iZ z) 0 1 = _ from hw, show f_X11_in (iZ z) 0 1 = _ from hw2, bd1_s, bd1_s, if_pos (show bz (0 ≤ z ∧ z ≤ 1) = 0 from bzP ha), if_pos (show bz (0 ≤ z ∧ z ≤ 1) = 0 from bzP ha)]
    exact ⟨_, _, U0, U1, _, _, rfl, rfl, h⟩
theorem upd_cp (f a : Nat → Int32) (i : Nat) : upd (cp i f a) i (f i) = cp (i + 1) f a := upd_copy f a i
theorem cp_0 (f a : Nat → Int32) : cp 0 f a = a := funext fun k => if_neg (Nat.not_lt_zero k)
theorem re31 {o : Nat} (ho : o ≤ 100) (I bk : Nat → Int32) : loopN (fun (q : Int32 × (Nat → Int32)) => f_X11_restore_b31 I q.1 q.2 (iZ o)) FU (0, bk) = some (iZ 15, cp 15 (fun k => I (o + k)) bk) := by
  refine loop_FU (fun i : Nat => ((iZ i : Int32), cp i (fun k => I (o + k)) bk)) 15 ?_ ?_ ?_ (by omega)
  · rw [cp_0]; rfl
  · intro i hi
    dsimp only
    unfold f_X11_restore_b31
    rw [show (15 : Int32) = iZ 15 from rfl, show (1 : Int32) = iZ 1 from rfl, if_neg (by rw [z_le] <;> omega), z_add, gd_z (by omega) (by omega) (by omega), gd_z (by omega) (by omega) (by omega), z_cl (a := (i : Int)) (by omega) (by omega), z_cl (by omega) (by omega), z_add, Int.toNat_natCast, show ((o : Int) + (i : Int)).toNat = o + i by omega, ← upd_cp]
    rfl
  · dsimp only
    unfold f_X11_restore_b31
    rw [if_pos (by decide)]
    rfl
theorem re141 {o : Nat} (ho : o ≤ 100) (I bk : Nat → Int32) : loopN (fun (q : Int32 × (Nat → Int32)) => f_X11_restore_b141 I q.1 q.2 (iZ o)) FU (0, bk) = some (iZ 17, cp 17 (fun k => I (o + 55 + k)) bk) := by
  refine loop_FU (fun i : Nat => ((iZ i : Int32), cp i (fun k => I (o + 55 + k)) bk)) 17 ?_ ?_ ?_ (by omega)
  · rw [cp_0]; rfl
  · intro i hi
    dsimp only
    unfold f_X11_restore_b141
    rw [show (17 : Int32) = iZ 17 from rfl, show (55 : Int32) = iZ 55 from rfl, show (1 : Int32) = iZ 1 from rfl, if_neg (by rw [z_le] <;> omega), z_add, z_add, gd_z (by omega) (by omega) (by omega), gd_z (by omega) (by omega) (by omega), z_cl (a := (i : Int)) (by omega) (by omega), z_cl (by omega) (by omega), z_add, Int.toNat_natCast, show ((o : Int) + 55 + (i : Int)).toNat = o + 55 + i by omega, ← upd_cp]
    rfl
  · dsimp only
    unfold f_X11_restore_b141
    rw [if_pos (by decide)]
    rfl
theorem re172 {o : Nat} (ho : o ≤ 100) (I bk : Nat → Int32) : loopN (fun (q : Int32 × (Nat → Int32)) => f_X11_restore_b172 I q.1 q.2 (iZ o)) FU (0, bk) = some (iZ 16, cp 16 (fun k => I (o + 72 + k)) bk) := by
  refine loop_FU (fun i : Nat => ((iZ i : Int32), cp i (fun k => I (o + 72 + k)) bk)) 16 ?_ ?_ ?_ (by omega)
  · rw [cp_0]; rfl
  · intro i hi
    dsimp only
    unfold f_X11_restore_b172
    rw [show (16 : Int32) = iZ 16 from rfl, show (72 : Int32) = iZ 72 from rfl, show (1 : Int32) = iZ 1 from rfl, if_neg (by rw [z_le] <;> omega), z_add, z_add, gd_z (by omega) (by omega) (by omega), gd_z (by omega) (by omega) (by omega), z_cl (a := (i : Int)) (by omega) (by omega), z_cl (by omega) (by omega), z_add, Int.toNat_natCast, show ((o : Int) + 72 + (i : Int)).toNat = o + 72 + i by omega, ← upd_cp]
    rfl
  · dsimp only
    unfold f_X11_restore_b172
    rw [if_pos (by decide)]
    rfl
theorem re59 {o : Nat} (ho : o ≤ 100) (I wd ky ah af : Nat → Int32) : loopN (fun (q : Int32 × (Nat → Int32) × (Nat → Int32) × (Nat → Int32) × (Nat → Int32)) => f_X11_restore_b59 I q.1 q.2.1 q.2.2.1 q.2.2.2.1 q.2.2.2.2 (iZ o)) FU (0, wd, ky, ah, af) = some (iZ 10, cp 10 (fun k => I (o + 15 + k)) wd, cp 10 (fun k => I (o + 25 + k)) ky, cp 10 (fun k => I (o + 35 + k)) ah, cp 10 (fun k => I (o + 45 + k)) af) := by
  refine loop_FU (fun i : Nat => ((iZ i : Int32), cp i (fun k => I (o + 15 + k)) wd, cp i (fun k => I (o + 25 + k)) ky, cp i (fun k => I (o + 35 + k)) ah, cp i (fun k => I (o + 45 + k)) af)) 10 ?_ ?_ ?_ (by omega)
  · rw [cp_0, cp_0, cp_0, cp_0]; rfl
  · intro i hi
    dsimp only
    unfold f_X11_restore_b59
    rw [show (10 : Int32) = iZ 10 from rfl, show (15 : Int32) = iZ 15 from rfl, show (25 : Int32) = iZ 25 from rfl, show (35 : Int32) = iZ 35 from rfl, show (45 : Int32) = iZ 45 from rfl, show (1 : Int32) = iZ 1 from rfl, if_neg (by rw [z_le] <;> omega), z_add, z_add, z_add, z_add, z_add, z_add, z_add, z_add]
    iterate 8 rw [gd_z (by omega) (by omega) (by omega)]
    rw [z_cl (a := (i : Int)) (by omega) (by omega), z_cl (by omega) (by omega), z_cl (by omega) (by omega), z_cl (by omega) (by omega), z_cl (by omega) (by omega), z_add, Int.toNat_natCast, show ((o : Int) + 15 + (i : Int)).toNat = o + 15 + i by omega, show ((o : Int) + 25 + (i : Int)).toNat = o + 25 + i by omega, show ((o : Int) + 35 + (i : Int)).toNat = o + 35 + i by omega, show ((o : Int) + 45 + (i : Int)).toNat = o + 45 + i by omega, ← upd_cp, ← upd_cp, ← upd_cp, ← upd_cp]
    rfl
  · dsimp only
    unfold f_X11_restore_b59
    rw [if_pos (by decide)]
    rfl
def reB (I : Nat → Int32) (o : Nat) (M : BK) : BK := ⟨cp 15 (fun k => I (o + k)) M.bk, cp 10 (fun k => I (o + 15 + k)) M.wd, cp 10 (fun k => I (o + 25 + k)) M.ky, cp 17 (fun k => I (o + 55 + k)) M.wi, upd (upd M.dl 0 (I (o + 90))) 1 (I (o + 91)), I (o + 92), cp 10 (fun k => I (o + 35 + k)) M.ah, cp 10 (fun k => I (o + 45 + k)) M.af, I (o + 93), cp 16 (fun k => I (o + 72 + k)) M.si⟩
theorem reB_ag (I : Nat → Int32) (o : Nat) (M : BK) : AgM (imB I o) (reB I o M) := by
  refine ⟨fun i h => (by unfold reB imB; dsimp only [BK.bk, BK.wd, BK.ky, BK.wi, BK.dl, BK.rn, BK.ah, BK.af, BK.sn, BK.si]; exact cp_lt h), fun i h => (by unfold reB imB; dsimp only [BK.bk, BK.wd, BK.ky, BK.wi, BK.dl, BK.rn, BK.ah, BK.af, BK.sn, BK.si]; exact cp_lt h), fun i h => (by unfold reB imB; dsimp only [BK.bk, BK.wd, BK.ky, BK.wi, BK.dl, BK.rn, BK.ah, BK.af, BK.sn, BK.si]; exact cp_lt h), fun i h => (by unfold reB imB; dsimp only [BK.bk, BK.wd, BK.ky, BK.wi, BK.dl, BK.rn, BK.ah, BK.af, BK.sn, BK.si]; exact cp_lt h), fun i hi => ?_, rfl, fun i h => (by unfold reB imB; dsimp only [BK.bk, BK.wd, BK.ky, BK.wi, BK.dl, BK.rn, BK.ah, BK.af, BK.sn, BK.si]; exact cp_lt h), fun i h => (by unfold reB imB; dsimp only [BK.bk, BK.wd, BK.ky, BK.wi, BK.dl, BK.rn, BK.ah, BK.af, BK.sn, BK.si]; exact cp_lt h), rfl, fun i h => (by unfold reB imB; dsimp only [BK.bk, BK.wd, BK.ky, BK.wi, BK.dl, BK.rn, BK.ah, BK.af, BK.sn, BK.si]; exact cp_lt h)⟩
  rcases (show i = 0 ∨ i = 1 by omega) with rfl | rfl
  · rfl
  · rfl
theorem restore_model (I Kp : Nat → Int32) (M : BK) {n : Nat} (hn : n ≤ 1) : f_X11_restore M.rn M.sn M.bk M.wd M.ky M.wi M.dl M.ah M.af M.si I Kp (iZ n) = some (if Kp n = 0 then (-3, M.rn, M.sn, M.bk, M.wd, M.ky, M.wi, M.dl, M.ah, M.af, M.si) else (1, (reB I (100 * n) M).rn, (reB I (100 * n) M).sn, (reB I (100 * n) M).bk, (reB I (100 * n) M).wd, (reB I (100 * n) M).ky, (reB I (100 * n) M).wi, (reB I (100 * n) M).dl, (reB I (100 * n) M).ah, (reB I (100 * n) M).af, (reB I (100 * n) M).si)) := by
  unfold f_X11_restore
  rw [show (0 : Int32) = iZ 0 from rfl, show (1 : Int32) = iZ 1 from rfl, in_z (by omega) (by omega) (by omega) (by omega) (by omega) (by omega), bd1_s, if_neg (bzN (by omega)), gd_z (by omega) (by omega) (by omega), z_cl (by omega) (by omega), Int.toNat_natCast, show (100 : Int32) = iZ 100 from rfl, z_mul, show (100 : Int) * (n : Int) = ((100 * n : Nat) : Int) by omega]
  have e0 : iZ 0 = (0 : Int32) := rfl
  rw [e0, re31 (by omega), bd2_s, re59 (by omega), bd5_s, re141 (by omega), bd2_s, re172 (by omega), bd2_s, ← e0, show (90 : Int32) = iZ 90 from rfl, show (91 : Int32) = iZ 91 from rfl, show (92 : Int32) = iZ 92 from rfl, show (93 : Int32) = iZ 93 from rfl, z_add, z_add, z_add, z_add]
  iterate 6 rw [gd_z (by omega) (by omega) (by omega)]
  rw [z_cl (by omega) (by omega), z_cl (by omega) (by omega), z_cl (by omega) (by omega), z_cl (by omega) (by omega), z_cl (by omega) (by omega), z_cl (by omega) (by omega), show (((100 * n : Nat) : Int) + 90).toNat = 100 * n + 90 by omega, show (((100 * n : Nat) : Int) + 91).toNat = 100 * n + 91 by omega, show (((100 * n : Nat) : Int) + 92).toNat = 100 * n + 92 by omega, show (((100 * n : Nat) : Int) + 93).toNat = 100 * n + 93 by omega]
  split
  · rfl
  · rfl
theorem restore_both {T U0 U1 : TW} {M : BK} {I Kp : Nat → Int32} {kept : Int32} (hT : TRel T M) (h : ImRel kept U0 U1 I Kp) (x : Int32) :
    ∃ v, ∃ T2 : TW, ∃ M2 : BK, f_X10_restore kept T.w T.k T.c T.d T.b T.ro T.pl T.rc T.rf T.rs T.sc T.sf T.ss U0.w U0.k U0.c U0.d U0.b U0.ro U0.pl U0.rc U0.rf U0.rs U0.sc U0.sf U0.ss U1.w U1.k U1.c U1.d U1.b U1.ro U1.pl U1.rc U1.rf U1.rs U1.sc U1.sf U1.ss x = some (v, T2.w, T2.k, T2.c, T2.d, T2.b, T2.ro, T2.pl, T2.rc, T2.rf, T2.rs, T2.sc, T2.sf, T2.ss) ∧ f_X11_restore M.rn M.sn M.bk M.wd M.ky M.wi M.dl M.ah M.af M.si I Kp x = some (v, M2.rn, M2.sn, M2.bk, M2.wd, M2.ky, M2.wi, M2.dl, M2.ah, M2.af, M2.si) ∧ TRel T2 M2 := by
  obtain ⟨z, z1, z2, rfl⟩ := z_of x
  have hw := within_z z1 z2 (a := 0) (b := 1) (by omega) (by omega) (by omega) (by omega)
  by_cases ha : 0 ≤ z ∧ z ≤ 1
  · obtain ⟨n, rfl⟩ : ∃ n : Nat, z = n := ⟨z.toNat, by omega⟩
    rw [restore_model I Kp M (by omega)]
    unfold f_X10_restore
    obtain ⟨k0, k1, i0, i1, rfl, i3, i4, i5, i6⟩ := h
    rw [show f_X10_within (iZ n) 0 1 = _ from hw, bd1_s, if_neg (show ¬ bz (0 ≤ (n : Int) ∧ (n : Int) ≤ 1) = 0 from bzN ha), takeT_s, takeT_s, bd13_s, bd13_s]
    have hk := keep_and (n := n) i0 i1 (by omega)
    rcases (show n = 0 ∨ n = 1 by omega) with rfl | rfl
    · rw [if_pos rfl] at hk
      rw [i3]
      by_cases hk0 : k0 = 0
      · rw [if_pos (hk.mpr hk0), if_pos (show iZ (k0 : Int) = 0 by rw [hk0]; rfl)]
        exact ⟨_, T, M, rfl, rfl, hT⟩
      · rw [if_neg (fun q => hk0 (hk.mp q)), if_neg (show ¬ iZ (k0 : Int) = 0 by rw [show k0 = 1 by omega]; decide), if_pos (show iZ ((0 : Nat) : Int) = 0 from rfl)]
        exact ⟨_, cpT U0 T, reB I 0 M, rfl, rfl, (i5 (by omega)).ag (cpT_ag U0 T) (reB_ag I 0 M)⟩
    · rw [if_neg (by omega)] at hk
      rw [i4]
      by_cases hk0 : k1 = 0
      · rw [if_pos (hk.mpr hk0), if_pos (show iZ (k1 : Int) = 0 by rw [hk0]; rfl)]
        exact ⟨_, T, M, rfl, rfl, hT⟩
      · rw [if_neg (fun q => hk0 (hk.mp q)), if_neg (show ¬ iZ (k1 : Int) = 0 by rw [show k1 = 1 by omega]; decide), if_neg (show ¬ iZ ((1 : Nat) : Int) = 0 by decide)]
        exact ⟨_, cpT U1 T, reB I 100 M, rfl, rfl, (i6 (by omega)).ag (cpT_ag U1 T) (reB_ag I 100 M)⟩
  · unfold f_X10_restore f_X11_restore
    have hw2 := in_z z1 z2 (a := 0) (b := 1) (by omega) (by omega) (by omega) (by omega)
    rw [show f_X10_within (iZ z) 0 1 = _ from hw, show f_X11_in (iZ z) 0 1 = _ from hw2, bd1_s, bd1_s, if_pos (show bz (0 ≤ z ∧ z ≤ 1) = 0 from bzP ha), if_pos (show bz (0 ≤ z ∧ z ≤ 1) = 0 from bzP ha)]
    exact ⟨_, T, M, rfl, rfl, hT⟩
