theorem count_n {w c d ro pl : Nat → Int32} {W C D : Nat → Nat} {A B : List Nat} (hT : TownRep w c d W C D) (hR : RowsRep ro pl A B) (hW : Wf A B) (t0 : Int32) : ∃ tw fs wh tr, f_X1_count t0 w c d ro pl = some (tw, iZ (nCl C W (D 0) (D 1) A B), fs, wh, tr) := by
  obtain ⟨tw, cz, fs, wh, tr, h1, h2⟩ := count_s hT hR hW t0
  have e : cz = iZ (nCl C W (D 0) (D 1) A B) := by
    rw [h2.2.1, cnt_eq hW (pc := clM C W (D 0) (D 1) A B) (pi := clI C W (D 0) (D 1) A B) cl_iff]
    rfl
  subst e
  exact ⟨tw, fs, wh, tr, h1⟩
theorem lay_n {w c d now : Nat → Int32} {W C D : Nat → Nat} {A B : List Nat} {b : Nat} (hM : MTown w c d W C D) (hB : BookRep now A B b) (hW : Wf A B) {dz : Int} (hz1 : -6 ≤ dz) (hz2 : dz ≤ 16) {v : Nat} (hv : v ≤ 30) : ∃ tw fs wh, f_X11_layMeetings (iZ dz) (iZ v) now w c d = some (tw, iZ (nCl (wider C dz v) W (D 0) (D 1) A B), fs, wh) := by
  obtain ⟨tw, cz, fs, wh, h1, h2⟩ := lay_s hM hB hW hz1 hz2 hv
  have e : cz = iZ (nCl (wider C dz v) W (D 0) (D 1) A B) := h2.2.1
  subst e
  exact ⟨tw, fs, wh, h1⟩
theorem wider0f (C : Nat → Nat) : wider C (-6) 0 = C := funext (wider0 C)
/-- the first of the least of g 0 .. g (i - 1), and that least -/
def bst (g : Nat → Nat) : Nat → Nat × Nat
  | 0 => (0, 1000000)
  | i + 1 => if (bst g i).2 ≤ g i then bst g i else (i, g i)
theorem bst_le {g : Nat → Nat} {m : Nat} (hg : ∀ i, g i ≤ m) (hm : m ≤ 1000000) : ∀ i, (bst g i).1 ≤ i ∧ (bst g i).2 ≤ 1000000 ∧ (0 < i → (bst g i).2 ≤ m) := by
  intro i
  induction i with
  | zero => exact ⟨Nat.le_refl _, Nat.le_refl _, fun h => absurd h (Nat.lt_irrefl 0)⟩
  | succ i ih =>
    have h1 := hg i
    unfold bst
    split
    · refine ⟨by omega, ih.2.1, fun _ => ?_⟩
      rename_i hc
      omega
    · exact ⟨by dsimp only; omega, by dsimp only; omega, fun _ => h1⟩
def FInv (g : Nat → Nat) (i : Nat) (by' cn : Int32) : Prop := if i = 0 then by' = -6 ∧ cn = 0 else by' = iZ (bst g i).1 ∧ cn = iZ (bst g i).2
theorem offer_s {g : Nat → Nat} (hg : ∀ i, g i ≤ 1000) {i : Nat} (hi : i ≤ 1000) {by' cn : Int32} (h : FInv g i by' cn) : ∃ b2 c2, f_X0_offer by' cn (iZ i) (iZ (g i)) = some (b2, c2) ∧ FInv g (i + 1) b2 c2 := by
  obtain ⟨l1, l2, l3⟩ := bst_le hg (by omega) i
  have h1 := hg i
  unfold FInv at h
  unfold f_X0_offer f_X0_offer_j17 FInv
  by_cases h0 : i = 0
  · rw [if_pos h0] at h
    subst h0
    rw [if_pos h.1]
    refine ⟨_, _, rfl, ?_⟩
    rw [if_neg (by omega)]
    unfold bst
    rw [if_neg (by unfold bst; dsimp only; omega)]
    exact ⟨rfl, rfl⟩
  · rw [if_neg h0] at h
    have l4 := l3 (by omega)
    rw [h.1, h.2, if_neg (by rw [show (-6 : Int32) = iZ (-6) from rfl, z_eq] <;> omega)]
    by_cases hc : (bst g i).2 ≤ g i
    · have eb : bst g (i + 1) = bst g i := by rw [bst, if_pos hc]
      rw [if_pos (by rw [z_le] <;> omega), eb]
      refine ⟨_, _, rfl, ?_⟩
      rw [if_neg (by omega)]
      exact ⟨rfl, rfl⟩
    · have eb : bst g (i + 1) = (i, g i) := by rw [bst, if_neg hc]
      rw [if_neg (by rw [z_le] <;> omega), eb]
      refine ⟨_, _, rfl, ?_⟩
      rw [if_neg (by omega)]
      exact ⟨rfl, rfl⟩
theorem begin_s (g : Nat → Nat) : ∃ b2 c2, f_X0_begin = some (b2, c2) ∧ FInv g 0 b2 c2 := ⟨_, _, rfl, rfl, rfl⟩
theorem startC {w c d ro pl : Nat → Int32} {W C D : Nat → Nat} {A B : List Nat} (hT : TownRep w c d W C D) (hR : RowsRep ro pl A B) (hW : Wf A B) (m1 m2 m3 m4 m5 : Int32) {by' cn : Int32} (hF : FInv (fun v => nCl C W v (D 1) A B) 0 by' cn) :
    ∃ r, loopN (fun (q : Int32 × (Nat → Int32) × Int32 × Int32 × Int32 × Int32 × Int32 × Int32 × Int32) => f_X10_start_b32 w c ro pl q.1 q.2.1 q.2.2.1 q.2.2.2.1 q.2.2.2.2.1 q.2.2.2.2.2.1 q.2.2.2.2.2.2.1 q.2.2.2.2.2.2.2.1 q.2.2.2.2.2.2.2.2) FU (0, d, m1, m2, m3, m4, m5, by', cn) = some r ∧ FInv (fun v => nCl C W v (D 1) A B) 21 r.2.2.2.2.2.2.2.1 r.2.2.2.2.2.2.2.2 := by
  refine loop_inv (fun i s => ∃ dd tw cz fs wh tr b2 c2, s = (iZ i, dd, tw, cz, fs, wh, tr, b2, c2) ∧ FInv (fun v => nCl C W v (D 1) A B) i b2 c2 ∧ dd 1 = iZ (D 1)) 21 ⟨d, m1, m2, m3, m4, m5, by', cn, rfl, hF, (hT.2.2 1 (by omega)).1⟩ ?_ ?_ (by omega)
  · rintro i hi s ⟨dd, tw, cz, fs, wh, tr, b2, c2, rfl, h1, h2⟩
    dsimp only
    have hT2 : TownRep w c (upd dd 0 (iZ i)) W C (fun r => if r = 0 then i else D r) := by
      refine ⟨hT.1, hT.2.1, fun r hr => ?_⟩
      rcases (show r = 0 ∨ r = 1 by omega) with rfl | rfl
      · exact ⟨upd_at _ _ _, by show i ≤ 20; omega⟩
      · exact ⟨(upd_ne _ _ (by omega)).trans h2, (hT.2.2 1 (by omega)).2⟩
    obtain ⟨tw2, fs2, wh2, tr2, g1⟩ := count_n hT2 hR hW tr
    have hle : ∀ v, (fun v => nCl C W v (D 1) A B) v ≤ 1000 := fun v => Nat.le_trans (nCl_le C W v (D 1) hW) (by omega)
    obtain ⟨b3, c3, g2, g3⟩ := offer_s hle (i := i) (by omega) h1
    unfold f_X10_start_b32
    rw [show (20 : Int32) = iZ 20 from rfl, if_neg (by rw [z_lt] <;> omega), show (0 : Int32) = iZ ((0 : Nat) : Int) from rfl, put_n (by omega) (by omega), bd1_s, g1, bd5_s]
    simp only [if_pos, if_neg (show ¬ (1 : Nat) = 0 by omega)]
    rw [g2, bd2_s, show (1 : Int32) = iZ 1 from rfl, z_add]
    exact ⟨_, rfl, _, _, _, _, _, _, _, _, rfl, g3, (upd_ne _ _ (by omega)).trans h2⟩
  · rintro s ⟨dd, tw, cz, fs, wh, tr, b2, c2, rfl, h1, h2⟩
    dsimp only
    unfold f_X10_start_b32
    rw [if_pos (by decide)]
    exact ⟨_, rfl, h1⟩
theorem startM {w c d now : Nat → Int32} {W C D : Nat → Nat} {A B : List Nat} {b : Nat} (hM : MTown w c d W C D) (hB : BookRep now A B b) (hW : Wf A B) (m1 m2 m3 m4 : Int32) :
    ∃ r, loopN (fun (q : Int32 × Int32 × Int32 × Int32 × Int32 × Int32 × Int32 × (Nat → Int32)) => f_X11_start_b32 w c (iZ (-6)) (iZ ((0 : Nat) : Int)) now q.1 q.2.1 q.2.2.1 q.2.2.2.1 q.2.2.2.2.1 q.2.2.2.2.2.1 q.2.2.2.2.2.2.1 q.2.2.2.2.2.2.2) FU (0, 1000000, 0, m1, m2, m3, m4, d) = some r ∧ r.1 = iZ (bst (fun v => nCl C W v (D 1) A B) 21).1 ∧ r.2.1 = iZ (bst (fun v => nCl C W v (D 1) A B) 21).2 ∧ ∀ k, k ≠ 0 → r.2.2.2.2.2.2.2 k = d k := by
  refine loop_inv (fun i s => ∃ dd tw cz fs wh, s = (iZ (bst (fun v => nCl C W v (D 1) A B) i).1, iZ (bst (fun v => nCl C W v (D 1) A B) i).2, iZ i, tw, cz, fs, wh, dd) ∧ ∀ k, k ≠ 0 → dd k = d k) 21 ⟨d, m1, m2, m3, m4, rfl, fun _ _ => rfl⟩ ?_ ?_ (by omega)
  · rintro i hi s ⟨dd, tw, cz, fs, wh, rfl, h2⟩
    dsimp only
    have hT2 : MTown w c (upd dd 0 (iZ i)) W C (fun r => if r = 0 then i else D r) := by
      refine ⟨hM.1, hM.2.1, fun r hr => ?_⟩
      rcases (show r = 0 ∨ r = 1 by omega) with rfl | rfl
      · exact ⟨upd_at _ _ _, by show i ≤ 20; omega⟩
      · exact ⟨((upd_ne _ _ (by omega)).trans (h2 1 (by omega))).trans (hM.2.2 1 (by omega)).1, (hM.2.2 1 (by omega)).2⟩
    obtain ⟨tw2, fs2, wh2, g1⟩ := lay_n hT2 hB hW (dz := -6) (by omega) (by omega) (v := 0) (by omega)
    rw [wider0f] at g1
    simp only [if_pos, if_neg (show ¬ (1 : Nat) = 0 by omega)] at g1
    have hle : ∀ v, (fun v => nCl C W v (D 1) A B) v ≤ 66 := fun v => nCl_le C W v (D 1) hW
    obtain ⟨l1, l2, l3⟩ := bst_le hle (by omega) i
    have l4 := hle i
    dsimp only at l4
    have e0 : Int32.toNatClampNeg 0 = 0 := by decide
    unfold f_X11_start_b32 f_X11_start_j66 f_X11_start_j85
    have e1 : (1 : Int32) = iZ 1 := rfl
    rw [show (21 : Int32) = iZ 21 from rfl, if_neg (by rw [z_le] <;> omega), show gd 0 2 _ = _ from gd_z (a := 0) (n := 2) (by omega) (by omega) (by omega), e0, g1, bd4_s]
    by_cases hc : (bst (fun v => nCl C W v (D 1) A B) i).2 ≤ nCl C W i (D 1) A B
    · have hz : iZ ((bst (fun v => nCl C W v (D 1) A B) i).2 : Int) ≤ iZ (nCl C W i (D 1) A B : Int) := by rw [z_le] <;> omega
      rw [if_pos hz, if_pos hz, e1, z_add]
      refine ⟨_, rfl, upd dd 0 (iZ i), tw2, iZ (nCl C W i (D 1) A B), fs2, wh2, ?_, fun k hk => (upd_ne _ _ hk).trans (h2 k hk)⟩
      have eb : bst (fun v => nCl C W v (D 1) A B) (i + 1) = bst (fun v => nCl C W v (D 1) A B) i := by
        rw [bst, if_pos hc]
      rw [eb]
      rfl
    · have hz : ¬ iZ ((bst (fun v => nCl C W v (D 1) A B) i).2 : Int) ≤ iZ (nCl C W i (D 1) A B : Int) := by rw [z_le] <;> omega
      rw [if_neg hz, if_neg hz, e1, z_add]
      refine ⟨_, rfl, upd dd 0 (iZ i), tw2, iZ (nCl C W i (D 1) A B), fs2, wh2, ?_, fun k hk => (upd_ne _ _ hk).trans (h2 k hk)⟩
      have eb : bst (fun v => nCl C W v (D 1) A B) (i + 1) = (i, nCl C W i (D 1) A B) := by
        rw [bst, if_neg hc]
      rw [eb]
      rfl
  · rintro s ⟨dd, tw, cz, fs, wh, rfl, h2⟩
    dsimp only
    unfold f_X11_start_b32
    rw [if_pos (by decide)]
    exact ⟨_, rfl, rfl, rfl, h2⟩
theorem start_both {T U : TW} {M : BK} (hT : TRel T M) (m1 m2 m3 m4 m5 f1 f2 n1 n2 n3 n4 n5 n6 : Int32) (now : Nat → Int32) (x : Int32) :
    ∃ v t m1' m2' m3' m4' m5' m6' now' dl', f_X10_start T.w T.k T.c T.d T.b T.ro T.pl T.rc T.rf T.rs T.sc T.sf T.ss U.w U.k U.c U.d U.b U.ro U.pl U.rc U.rf U.rs U.sc U.sf U.ss m1 m2 m3 m4 m5 f1 f2 x = some (v, t) ∧ f_X11_start n1 n2 n3 n4 n5 n6 M.bk now M.wd M.wi M.dl x = some (v, m1', m2', m3', m4', m5', m6', now', dl') ∧ TRel T ⟨M.bk, M.wd, M.ky, M.wi, dl', M.rn, M.ah, M.af, M.sn, M.si⟩ := by
  obtain ⟨z, z1, z2, rfl⟩ := z_of x
  have hT0 := hT
  obtain ⟨A, B, b, W, K, C, D, N, F, S, N2, F2, S2, h⟩ := hT
  have hw := within_z z1 z2 (a := 0) (b := 1) (by omega) (by omega) (by omega) (by omega)
  have hw2 := in_z z1 z2 (a := 0) (b := 1) (by omega) (by omega) (by omega) (by omega)
  unfold f_X10_start f_X11_start
  rw [show f_X10_within (iZ z) 0 1 = _ from hw, show f_X11_in (iZ z) 0 1 = _ from hw2, bd1_s, bd1_s]
  by_cases ha : 0 ≤ z ∧ z ≤ 1
  · rw [if_neg (show ¬ bz (0 ≤ z ∧ z ≤ 1) = 0 from bzN ha), if_neg (show ¬ bz (0 ≤ z ∧ z ≤ 1) = 0 from bzN ha), takeT_s, bd13_s, plain_s, bd3_s]
    have hag := cpT_ag T U
    obtain ⟨t1, t2, t3, t4, t5, t6, t7, -⟩ := hag
    have hT1 := (tOf (h.h1.ag t1 (fun _ _ => rfl)) (h.h3.ag t3 (fun _ _ => rfl)) (h.h4.ag t4 (fun _ _ => rfl))).1
    have hM1 := (tOf h.h1 h.h3 h.h4).2
    have hR1 : RowsRep (cpT T U).ro (cpT T U).pl A B := h.hR.cp
    obtain ⟨b2, c2, e1, e2⟩ := begin_s (fun v => nCl C W v (D 1) A B)
    obtain ⟨⟨r1, r2, r3, r4, r5, r6, r7, r8, r9⟩, g1, g2⟩ := startC hT1 hR1 h.hW m1 m2 m3 m4 m5 e2
    obtain ⟨⟨q1, q2, q3, q4, q5, q6, q7, q8⟩, g3, g4, g5, g6⟩ := startM hM1 (h.hB.cp (x := now) h.hW) h.hW n1 n2 n3 n4
    have e0 : Int32.toNatClampNeg 0 = 0 := by decide
    have gd0 : ∀ {α : Type} (k : Option α), gd 0 2 k = k := fun k => gd_z (a := 0) (n := 2) (by omega) (by omega) (by omega)
    rw [e1, bd2_s, g1, bd9_s, gd0, g3, bd8_s, gd0, e0]
    dsimp only at g2 g4 g5 g6
    unfold FInv at g2
    rw [if_neg (by omega)] at g2
    obtain ⟨g7, g8⟩ := g2
    subst g4 g5 g7 g8
    have hTn : TRel T ⟨M.bk, M.wd, M.ky, M.wi, upd q8 0 (M.dl 0), M.rn, M.ah, M.af, M.sn, M.si⟩ := by
      refine hT0.ag ⟨fun _ _ => rfl, fun _ _ => rfl, fun _ _ => rfl, fun _ _ => rfl, rfl, fun _ _ => rfl, fun _ _ => rfl, rfl, fun _ _ => rfl, fun _ _ => rfl, rfl, fun _ _ => rfl, fun _ _ => rfl⟩ ⟨fun _ _ => rfl, fun _ _ => rfl, fun _ _ => rfl, fun _ _ => rfl, fun i hi => ?_, rfl, fun _ _ => rfl, fun _ _ => rfl, rfl, fun _ _ => rfl⟩
      rcases (show i = 0 ∨ i = 1 by omega) with rfl | rfl
      · show upd q8 0 (M.dl 0) 0 = M.dl 0
        exact upd_at _ _ _
      · show upd q8 0 (M.dl 0) 1 = M.dl 1
        exact (upd_ne _ _ (by omega)).trans (g6 1 (by omega))
    by_cases h0 : iZ z = 0
    · rw [if_pos h0, if_pos h0]
      exact ⟨_, _, _, _, _, _, _, _, _, _, rfl, rfl, hTn⟩
    · rw [if_neg h0, if_neg h0]
      exact ⟨_, _, _, _, _, _, _, _, _, _, rfl, rfl, hTn⟩
  · rw [if_pos (show bz (0 ≤ z ∧ z ≤ 1) = 0 from bzP ha), if_pos (show bz (0 ≤ z ∧ z ≤ 1) = 0 from bzP ha)]
    exact ⟨_, _, _, _, _, _, _, _, _, _, rfl, rfl, hT0⟩
