theorem pad200 {n : Nat} {P : Nat → Nat} {ps pm : Nat → Int32} (h : PadRep n P ps pm) : (∀ i, i < n → ps i = iZ (P i) ∧ P i ≤ 200) ∧ ∀ i, i < n → pm i = iZ (P i) ∧ P i ≤ 200 := by
  refine ⟨fun i hi => ?_, fun i hi => ?_⟩
  · obtain ⟨a, b, c⟩ := h.2 i hi
    exact ⟨a, by omega⟩
  · obtain ⟨a, b, c⟩ := h.2 i hi
    exact ⟨b, by omega⟩
theorem PadRep.le {n m : Nat} {P : Nat → Nat} {f g : Nat → Int32} (h : PadRep n P f g) (hm : m ≤ n) : PadRep m P f g := ⟨Nat.le_trans hm h.1, fun i hi => h.2 i (by omega)⟩
theorem s_member {T : TW} {M : BK} (hT : TRel T M) (x y z : Int32) : ∃ v w' k' wd' ky', f_X10_member T.w T.k x y z = some (v, w', k') ∧ f_X11_member M.wd M.ky x y z = some (v, wd', ky') ∧ TRel (w', k', T.c, T.d, T.b, T.ro, T.pl, T.rc, T.rf, T.rs, T.sc, T.sf, T.ss) (M.bk, wd', ky', M.wi, M.dl, M.rn, M.ah, M.af, M.sn, M.si) := by
  obtain ⟨A, B, b, W, K, C, D, N, F, S, N2, F2, S2, h⟩ := hT
  obtain ⟨v, f', g', V', f2', g2', V2', a1, a2, a3, a4⟩ := member_both h.h1 h.h2 x y z
  exact ⟨v, f', f2', g', g2', a3, a4, A, B, b, V', V2', C, D, N, F, S, N2, F2, S2, h.hW, h.hb, h.hbz, h.hR, h.hB, a1, a2, h.h3, h.h4, h.hrc, h.hrn, h.h5, h.hsc, h.hsn, h.h6⟩
theorem s_wide {T : TW} {M : BK} (hT : TRel T M) (x y : Int32) : ∃ v c' wi', f_X10_wide T.c x y = some (v, c') ∧ f_X11_wide M.wi x y = some (v, wi') ∧ TRel (T.w, T.k, c', T.d, T.b, T.ro, T.pl, T.rc, T.rf, T.rs, T.sc, T.sf, T.ss) (M.bk, M.wd, M.ky, wi', M.dl, M.rn, M.ah, M.af, M.sn, M.si) := by
  obtain ⟨A, B, b, W, K, C, D, N, F, S, N2, F2, S2, h⟩ := hT
  obtain ⟨v, f', g', V', a1, a3, a4⟩ := wide_both h.h3 x y
  exact ⟨v, f', g', a3, a4, A, B, b, W, K, V', D, N, F, S, N2, F2, S2, h.hW, h.hb, h.hbz, h.hR, h.hB, h.h1, h.h2, a1, h.h4, h.hrc, h.hrn, h.h5, h.hsc, h.hsn, h.h6⟩
theorem s_delay {T : TW} {M : BK} (hT : TRel T M) (x y : Int32) : ∃ v d' dl', f_X10_delay T.d x y = some (v, d') ∧ f_X11_delay M.dl x y = some (v, dl') ∧ TRel (T.w, T.k, T.c, d', T.b, T.ro, T.pl, T.rc, T.rf, T.rs, T.sc, T.sf, T.ss) (M.bk, M.wd, M.ky, M.wi, dl', M.rn, M.ah, M.af, M.sn, M.si) := by
  obtain ⟨A, B, b, W, K, C, D, N, F, S, N2, F2, S2, h⟩ := hT
  obtain ⟨v, f', g', V', a1, a3, a4⟩ := delay_both h.h4 x y
  exact ⟨v, f', g', a3, a4, A, B, b, W, K, C, V', N, F, S, N2, F2, S2, h.hW, h.hb, h.hbz, h.hR, h.hB, h.h1, h.h2, h.h3, a1, h.hrc, h.hrn, h.h5, h.hsc, h.hsn, h.h6⟩
theorem s_fault {n : Nat} {P : Nat → Nat} {ps pm : Nat → Int32} (hp : PadRep n P ps pm) : ∃ v, f_X10_fault (iZ n) ps = some v ∧ f_X11_fault (iZ n) pm = some v := fault_both hp.1 (pad200 hp).1 (pad200 hp).2
theorem s_judge {T : TW} {M : BK} (hT : TRel T M) {n : Nat} {P : Nat → Nat} {ps pm : Nat → Int32} (hp : PadRep n P ps pm) (U : TW) (ac wy rz am : Int32) (now : Nat → Int32) (x : Int32) :
    ∃ v t m, f_X10_judge T.w T.k T.c T.d T.b T.ro T.pl T.rc T.rf T.rs T.sc T.sf T.ss U.w U.k U.c U.d U.b U.ro U.pl U.rc U.rf U.rs U.sc U.sf U.ss (iZ n) ps ac wy x = some (v, t) ∧ f_X11_judge (iZ n) rz am M.bk now pm x = some (v, m) := by
  obtain ⟨A, B, b, W, K, C, D, N, F, S, N2, F2, S2, h⟩ := hT
  rw [h.hbz]
  rcases judge_both hp.1 (pad200 hp).1 (pad200 hp).2 h.hR h.hB h.hW h.hb T.w T.k T.c T.d T.rf T.rs T.sf T.ss T.rc T.sc U.w U.k U.c U.d U.ro U.pl U.rf U.rs U.sf U.ss U.b U.rc U.sc ac wy rz am now x with ⟨v, a1, a2⟩ | ⟨-, v, ro2, pl2, rz2, bk2, -, -, -, -, a1, a2⟩
  · exact ⟨v, _, _, a1, a2⟩
  · exact ⟨v, _, _, a1, a2⟩
theorem s_done {T : TW} {M : BK} (hT : TRel T M) {n : Nat} {P : Nat → Nat} {ps pm : Nat → Int32} (hp : PadRep n P ps pm) (U : TW) (ac wy rz am : Int32) (now : Nat → Int32) :
    ∃ v b2 ro2 pl2 w1 k1 c1 d1 b1 ro1 pl1 rc1 rf1 rs1 sc1 sf1 ss1 n2 ac1 wy1 rz1 am1 bk2 nw1, f_X10_done T.w T.k T.c T.d T.b T.ro T.pl T.rc T.rf T.rs T.sc T.sf T.ss U.w U.k U.c U.d U.b U.ro U.pl U.rc U.rf U.rs U.sc U.sf U.ss (iZ n) ps ac wy = some (v, b2, ro2, pl2, w1, k1, c1, d1, b1, ro1, pl1, rc1, rf1, rs1, sc1, sf1, ss1, n2, ac1, wy1) ∧ f_X11_done (iZ n) rz am M.bk now pm = some (v, n2, rz1, am1, bk2, nw1) ∧
      TRel (T.w, T.k, T.c, T.d, b2, ro2, pl2, T.rc, T.rf, T.rs, T.sc, T.sf, T.ss) (bk2, M.wd, M.ky, M.wi, M.dl, M.rn, M.ah, M.af, M.sn, M.si) ∧ ∃ n' : Nat, n2 = iZ n' ∧ PadRep n' P ps pm := by
  obtain ⟨A, B, b, W, K, C, D, N, F, S, N2, F2, S2, h⟩ := hT
  rw [h.hbz]
  obtain ⟨v, b2, ro2, pl2, w1, k1, c1, d1, b1, ro1, pl1, rc1, rf1, rs1, sc1, sf1, ss1, n2, ac1, wy1, rz1, am1, bk2, nw1, a1, a2, A2, B2, bN, n', e1, e2, e3, e4, e5, e6, e7⟩ := done_both hp.1 (pad200 hp).1 (pad200 hp).2 h.hR h.hB h.hW h.hb T.w T.k T.c T.d T.rf T.rs T.sf T.ss T.rc T.sc U.w U.k U.c U.d U.ro U.pl U.rf U.rs U.sf U.ss U.b U.rc U.sc ac wy rz am now
  exact ⟨v, b2, ro2, pl2, w1, k1, c1, d1, b1, ro1, pl1, rc1, rf1, rs1, sc1, sf1, ss1, n2, ac1, wy1, rz1, am1, bk2, nw1, a1, a2, ⟨A2, B2, bN, W, K, C, D, N, F, S, N2, F2, S2, e4, e2, e1, e3, e5, h.h1, h.h2, h.h3, h.h4, h.hrc, h.hrn, h.h5, h.hsc, h.hsn, h.h6⟩, n', e6, hp.le e7⟩
theorem s_place {T : TW} {M : BK} (hT : TRel T M) {n : Nat} {P : Nat → Nat} {ps pm : Nat → Int32} (hp : PadRep n P ps pm) (U : TW) (ac wy rz am : Int32) (now : Nat → Int32) (x y : Int32) :
    ∃ v t m, f_X10_place T.w T.k T.c T.d T.b T.ro T.pl T.rc T.rf T.rs T.sc T.sf T.ss U.w U.k U.c U.d U.b U.ro U.pl U.rc U.rf U.rs U.sc U.sf U.ss (iZ n) ps ac wy x y = some (v, t) ∧ f_X11_place (iZ n) rz am M.bk now pm x y = some (v, m) := by
  obtain ⟨A, B, b, W, K, C, D, N, F, S, N2, F2, S2, h⟩ := hT
  rw [h.hbz]
  exact place_both hp.1 (pad200 hp).1 (pad200 hp).2 h.hR h.hB h.hW h.hb T.w T.k T.c T.d T.rf T.rs T.sf T.ss T.rc T.sc U.w U.k U.c U.d U.ro U.pl U.rf U.rs U.sf U.ss U.b U.rc U.sc ac wy rz am now x y
theorem s_of {T : TW} {M : BK} (hT : TRel T M) {n : Nat} {P : Nat → Nat} {ps pm : Nat → Int32} (hp : PadRep n P ps pm) (U : TW) (ac wy rz am : Int32) (now : Nat → Int32) (x y : Int32) :
    ∃ v t m, f_X10_of T.w T.k T.c T.d T.b T.ro T.pl T.rc T.rf T.rs T.sc T.sf T.ss U.w U.k U.c U.d U.b U.ro U.pl U.rc U.rf U.rs U.sc U.sf U.ss (iZ n) ps ac wy x y = some (v, t) ∧ f_X11_of (iZ n) rz am M.bk now pm x y = some (v, m) := by
  obtain ⟨A, B, b, W, K, C, D, N, F, S, N2, F2, S2, h⟩ := hT
  rw [h.hbz]
  exact of_both hp.1 (pad200 hp).1 (pad200 hp).2 h.hR h.hB h.hW h.hb T.w T.k T.c T.d T.rf T.rs T.sf T.ss T.rc T.sc U.w U.k U.c U.d U.ro U.pl U.rf U.rs U.sf U.ss U.b U.rc U.sc ac wy rz am now x y
theorem s_bells {T : TW} {M : BK} (hT : TRel T M) {n : Nat} {P : Nat → Nat} {ps pm : Nat → Int32} (hp : PadRep n P ps pm) (U : TW) (ac wy rz am : Int32) (now : Nat → Int32) :
    ∃ v t m, f_X10_bells T.w T.k T.c T.d T.b T.ro T.pl T.rc T.rf T.rs T.sc T.sf T.ss U.w U.k U.c U.d U.b U.ro U.pl U.rc U.rf U.rs U.sc U.sf U.ss (iZ n) ps ac wy = some (v, t) ∧ f_X11_bells (iZ n) rz am M.bk now pm = some (v, m) := by
  obtain ⟨A, B, b, W, K, C, D, N, F, S, N2, F2, S2, h⟩ := hT
  rw [h.hbz]
  exact bells_both hp.1 (pad200 hp).1 (pad200 hp).2 h.hR h.hB h.hW h.hb T.w T.k T.c T.d T.rf T.rs T.sf T.ss T.rc T.sc U.w U.k U.c U.d U.ro U.pl U.rf U.rs U.sf U.ss U.b U.rc U.sc ac wy rz am now
theorem s_meets {T : TW} {M : BK} (hT : TRel T M) (m1 m2 m3 m4 m5 n1 n2 n3 n4 n5 n6 : Int32) (now : Nat → Int32) (x : Int32) :
    ∃ v t m, f_X10_meets T.w T.c T.d T.ro T.pl m1 m2 m3 m4 m5 x = some (v, t) ∧ f_X11_meets n1 n2 n3 n4 n5 n6 M.bk now M.wd M.wi M.dl x = some (v, m) := by
  obtain ⟨A, B, b, W, K, C, D, N, F, S, N2, F2, S2, h⟩ := hT
  exact meets_both h.h1 h.h3 h.h4 h.hR h.hB h.hW m1 m2 m3 m4 m5 n1 n2 n3 n4 n5 n6 now x
theorem s_runs {T : TW} {M : BK} (hT : TRel T M) : ∃ v, f_X10_runs T.d T.ro = some v ∧ f_X11_runs M.bk M.dl = some v := by
  obtain ⟨A, B, b, W, K, C, D, N, F, S, N2, F2, S2, h⟩ := hT
  exact runs_both h.h4 h.hR h.hB h.hW
theorem s_rule {T : TW} {M : BK} (hT : TRel T M) (x y : Int32) : ∃ v n2 rf' rs' ah' af', f_X10_rule T.rc T.rf T.rs x y = some (v, n2, rf', rs') ∧ f_X11_rule M.rn M.ah M.af x y = some (v, n2, ah', af') ∧ TRel (T.w, T.k, T.c, T.d, T.b, T.ro, T.pl, n2, rf', rs', T.sc, T.sf, T.ss) (M.bk, M.wd, M.ky, M.wi, M.dl, n2, ah', af', M.sn, M.si) := by
  obtain ⟨A, B, b, W, K, C, D, N, F, S, N2, F2, S2, h⟩ := hT
  rw [h.hrc, h.hrn]
  obtain ⟨v, n2, f2, s2, g2, h2, a1, a2, N', F', S', e1, e2⟩ := rule_both h.h5 x y
  exact ⟨v, n2, f2, s2, g2, h2, a1, a2, A, B, b, W, K, C, D, N', F', S', N2, F2, S2, h.hW, h.hb, h.hbz, h.hR, h.hB, h.h1, h.h2, h.h3, h.h4, e1, e1, e2, h.hsc, h.hsn, h.h6⟩
theorem s_unrule {T : TW} {M : BK} (hT : TRel T M) : ∃ v n2, f_X10_unrule T.rc = some (v, n2) ∧ f_X11_unrule M.rn = some (v, n2) ∧ TRel (T.w, T.k, T.c, T.d, T.b, T.ro, T.pl, n2, T.rf, T.rs, T.sc, T.sf, T.ss) (M.bk, M.wd, M.ky, M.wi, M.dl, n2, M.ah, M.af, M.sn, M.si) := by
  obtain ⟨A, B, b, W, K, C, D, N, F, S, N2, F2, S2, h⟩ := hT
  rw [h.hrc, h.hrn]
  exact ⟨_, _, (unrule_both N).1, (unrule_both N).2, A, B, b, W, K, C, D, 0, F, S, N2, F2, S2, h.hW, h.hb, h.hbz, h.hR, h.hB, h.h1, h.h2, h.h3, h.h4, rfl, rfl, ⟨Nat.zero_le _, fun i hi => absurd hi (Nat.not_lt_zero i)⟩, h.hsc, h.hsn, h.h6⟩
theorem s_seen {T : TW} {M : BK} (hT : TRel T M) (x y : Int32) : ∃ v n2 sf' ss' si', f_X10_seen T.sc T.sf T.ss x y = some (v, n2, sf', ss') ∧ f_X11_seen M.sn M.si x y = some (v, n2, si') ∧ TRel (T.w, T.k, T.c, T.d, T.b, T.ro, T.pl, T.rc, T.rf, T.rs, n2, sf', ss') (M.bk, M.wd, M.ky, M.wi, M.dl, M.rn, M.ah, M.af, n2, si') := by
  obtain ⟨A, B, b, W, K, C, D, N, F, S, N2, F2, S2, h⟩ := hT
  rw [h.hsc, h.hsn]
  obtain ⟨v, n2, f2, s2, q2, a1, a2, N', F', S', e1, e2⟩ := seen_both h.h6 x y
  exact ⟨v, n2, f2, s2, q2, a1, a2, A, B, b, W, K, C, D, N, F, S, N', F', S', h.hW, h.hb, h.hbz, h.hR, h.hB, h.h1, h.h2, h.h3, h.h4, h.hrc, h.hrn, h.h5, e1, e1, e2⟩
theorem s_forget {T : TW} {M : BK} (hT : TRel T M) : ∃ v n2, f_X10_forget T.sc = some (v, n2) ∧ f_X11_forget M.sn = some (v, n2) ∧ TRel (T.w, T.k, T.c, T.d, T.b, T.ro, T.pl, T.rc, T.rf, T.rs, n2, T.sf, T.ss) (M.bk, M.wd, M.ky, M.wi, M.dl, M.rn, M.ah, M.af, n2, M.si) := by
  obtain ⟨A, B, b, W, K, C, D, N, F, S, N2, F2, S2, h⟩ := hT
  rw [h.hsc, h.hsn]
  exact ⟨_, _, (forget_both N2).1, (forget_both N2).2, A, B, b, W, K, C, D, N, F, S, 0, F2, S2, h.hW, h.hb, h.hbz, h.hR, h.hB, h.h1, h.h2, h.h3, h.h4, h.hrc, h.hrn, h.h5, rfl, rfl, ⟨Nat.zero_le _, fun i hi => absurd hi (Nat.not_lt_zero i)⟩⟩
theorem s_told {T : TW} {M : BK} (hT : TRel T M) (n : Nat) (x : Int32) : ∃ v, f_X10_told T.w T.k T.c T.d T.b T.ro T.pl T.rc T.sc (iZ n) x = some v ∧ f_X11_told M.rn M.sn (iZ n) M.bk M.wd M.ky M.wi M.dl x = some v := by
  obtain ⟨A, B, b, W, K, C, D, N, F, S, N2, F2, S2, h⟩ := hT
  rw [h.hbz, h.hrc, h.hsc, h.hrn, h.hsn]
  exact told_both h.h1 h.h2 h.h3 h.h4 h.hR h.hB h.hW x
theorem s_wipe {n : Nat} {P : Nat → Nat} {ps pm : Nat → Int32} (hp : PadRep n P ps pm) : f_X10_wipe (iZ n) = some (iZ n, iZ ((0 : Nat) : Int)) ∧ f_X11_wipe (iZ n) = some (iZ n, iZ ((0 : Nat) : Int)) ∧ PadRep 0 P ps pm := ⟨(wipe_both n).1, (wipe_both n).2, hp.le (Nat.zero_le _)⟩
