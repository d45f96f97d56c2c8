theorem gr85 {w c d : Nat → Int32} {W C D : Nat → Nat} (hM : MTown w c d W C D) {i j n kd ku t : Nat} (hi : i < 6) (hj : j < 6) (hn : n ≤ 1000) (hkd : kd ≤ 12) (hku : ku ≤ 12) (ht : t ≤ 12) :
    f_X11_grating_j85 d (iZ i) (iZ n) (iZ j) (iZ kd) (iZ ku) (iZ t) = some (.inl (iZ ((n + (if (kd < 12 ∧ ku < 12 ∧ mtB (D 0) (D 1) i j = true) ∧ (t = 1 ∨ t = 6 ∨ t = 11) then 1 else 0) : Nat) : Int), iZ ((j + 1 : Nat) : Int))) := by
  have hD0 := (hM.2.2 0 (by omega)).2
  have hD1 := (hM.2.2 1 (by omega)).2
  have e1 : iZ (j : Int) + 1 = iZ ((j + 1 : Nat) : Int) := by rw [show (1 : Int32) = iZ 1 from rfl, z_add]; rfl
  have en0 : iZ (n : Int) + 0 = iZ (n : Int) := by rw [show (0 : Int32) = iZ 0 from rfl, z_add, Int.add_zero]
  have en1 : iZ (n : Int) + 1 = iZ ((n + 1 : Nat) : Int) := by rw [show (1 : Int32) = iZ 1 from rfl, z_add]; rfl
  have h0 : ¬ (1 : Int32) = 0 := by decide
  have hin : f_X11_in (iZ (16 + (D 1 : Int) + (j : Int) - (D 0 : Int) - (i : Int))) (iZ 0) (iZ 32) = some (bz (0 ≤ 16 + (D 1 : Int) + (j : Int) - (D 0 : Int) - (i : Int) ∧ 16 + (D 1 : Int) + (j : Int) - (D 0 : Int) - (i : Int) ≤ 32)) := in_z (by omega) (by omega) (by omega) (by omega) (by omega) (by omega)
  unfold f_X11_grating_j85 f_X11_grating_j121 f_X11_grating_j122 f_X11_grating_j154 f_X11_grating_j150 f_X11_grating_j155
  rw [if_pos rfl, if_neg h0, en0, en1, e1]
  by_cases h1 : 12 ≤ kd
  · rw [if_pos (show (12 : Int32) ≤ iZ kd by rw [show (12 : Int32) = iZ 12 from rfl, z_le] <;> omega), if_neg (by omega)]
    rfl
  · rw [if_neg (show ¬ (12 : Int32) ≤ iZ kd by rw [show (12 : Int32) = iZ 12 from rfl, z_le] <;> omega)]
    by_cases h2 : 12 ≤ ku
    · rw [if_pos (show (12 : Int32) ≤ iZ ku by rw [show (12 : Int32) = iZ 12 from rfl, z_le] <;> omega), if_neg (by omega)]
      rfl
    · rw [if_neg (show ¬ (12 : Int32) ≤ iZ ku by rw [show (12 : Int32) = iZ 12 from rfl, z_le] <;> omega), spotX_s hM, bd1_s, show f_X11_in (iZ (16 + (D 1 : Int) + (j : Int) - (D 0 : Int) - (i : Int))) 0 32 = _ from hin, bd1_s]
      by_cases h3 : 0 ≤ 16 + (D 1 : Int) + (j : Int) - (D 0 : Int) - (i : Int) ∧ 16 + (D 1 : Int) + (j : Int) - (D 0 : Int) - (i : Int) ≤ 32
      · have hm : mtB (D 0) (D 1) i j = true := decide_eq_true h3
        rw [if_neg (show ¬ bz (0 ≤ 16 + (D 1 : Int) + (j : Int) - (D 0 : Int) - (i : Int) ∧ 16 + (D 1 : Int) + (j : Int) - (D 0 : Int) - (i : Int) ≤ 32) = 0 from bzN h3)]
        by_cases q1 : t = 1
        · rw [if_pos (show iZ (t : Int) = 1 by rw [q1]; rfl), if_pos ⟨⟨by omega, by omega, hm⟩, by omega⟩]
        · rw [if_neg (show ¬ iZ (t : Int) = 1 by rw [show (1 : Int32) = iZ 1 from rfl, z_eq] <;> omega)]
          by_cases q2 : t = 6
          · rw [if_pos (show iZ (t : Int) = 6 by rw [q2]; rfl), if_pos ⟨⟨by omega, by omega, hm⟩, by omega⟩]
          · rw [if_neg (show ¬ iZ (t : Int) = 6 by rw [show (6 : Int32) = iZ 6 from rfl, z_eq] <;> omega)]
            by_cases q3 : t = 11
            · rw [if_pos (show iZ (t : Int) = 11 by rw [q3]; rfl), if_pos ⟨⟨by omega, by omega, hm⟩, by omega⟩]
            · rw [if_neg (show ¬ iZ (t : Int) = 11 by rw [show (11 : Int32) = iZ 11 from rfl, z_eq] <;> omega), if_neg (by omega)]
              rfl
      · have hm : ¬ mtB (D 0) (D 1) i j = true := fun h => h3 (of_decide_eq_true h)
        rw [if_pos (show bz (0 ≤ 16 + (D 1 : Int) + (j : Int) - (D 0 : Int) - (i : Int) ∧ 16 + (D 1 : Int) + (j : Int) - (D 0 : Int) - (i : Int) ≤ 32) = 0 from bzP h3), if_neg (fun h => hm h.1.2.2)]
        rfl
theorem grIn {w c d k now : Nat → Int32} {W C D K : Nat → Nat} {A B : List Nat} {b : Nat} (hM : MTown w c d W C D) (hB : BookRep now A B b) (hW : Wf A B) (hk : ∀ m, m < 10 → k m = iZ (K m) ∧ K m ≤ 12) {more : Nat} (hm : more ≤ 12) {i n : Nat} (hi : i < A.length) (hn : n ≤ 500) :
    loopN (fun (q : Int32 × Int32) => f_X11_grating_b18 now k d (iZ more) (iZ i) q.1 q.2) FU (iZ n, 0) = some (iZ ((n + cntB (fun j => grI K more (D 0) (D 1) A B (i, j)) B.length : Nat) : Int), iZ B.length) := by
  have hlA := hW.1
  have hlB := hW.2.1
  have hbl : now (Int32.toNatClampNeg 13) = iZ B.length := hB.2.2.2.1
  have ha : A[i]? = some (A[i]'hi) := List.getElem?_eq_getElem hi
  have ha10 := hW.lt (r := 0) (List.mem_of_getElem? ha)
  have hna := hB.1 i _ ha
  have hga : A.getD i 0 = A[i]'hi := by rw [List.getD_eq_getElem?_getD, ha]; rfl
  refine loop_FU (fun j : Nat => ((iZ ((n + cntB (fun j => grI K more (D 0) (D 1) A B (i, j)) j : Nat) : Int) : Int32), (iZ j : Int32))) B.length rfl ?_ ?_ (by omega)
  · intro j hj
    dsimp only
    have hcl := cntB_le (fun j => grI K more (D 0) (D 1) A B (i, j)) j
    have hb : B[j]? = some (B[j]'hj) := List.getElem?_eq_getElem hj
    have hb10 := hW.lt (r := 1) (List.mem_of_getElem? hb)
    have hnb := hB.2.1 j _ hb
    have hgb : B.getD j 0 = B[j]'hj := by rw [List.getD_eq_getElem?_getD, hb]; rfl
    generalize A[i]'hi = x at ha ha10 hna hga
    generalize B[j]'hj = y at hb hb10 hnb hgb
    have hkx := hk x ha10
    have hky := hk y hb10
    unfold f_X11_grating_b18
    rw [show gd 13 15 _ = _ from gd_z (a := 13) (n := 15) (by omega) (by omega) (by omega), hbl, if_neg (by rw [z_le] <;> omega), gd_z (by omega) (by omega) (by omega), z_cl (a := (i : Int)) (by omega) (by omega), Int.toNat_natCast, hna, gd_z (by omega) (by omega) (by omega), z_cl (a := (x : Int)) (by omega) (by omega), Int.toNat_natCast, nmv_s, show (6 : Int32) = iZ 6 from rfl, z_add, gd_z (by omega) (by omega) (by omega), z_cl (a := (6 + j : Int)) (by omega) (by omega), show ((6 : Int) + (j : Int)).toNat = 6 + j by omega, hnb, gd_z (by omega) (by omega) (by omega), z_cl (a := (y : Int)) (by omega) (by omega), Int.toNat_natCast, nmv_s, hkx.1, hky.1, nmv_s]
    have e12 : iZ (K y : Int) + iZ (more : Int) - (iZ (K y : Int) + iZ (more : Int)) / 12 * 12 = iZ (((K y + more) % 12 : Nat) : Int) := by
      rw [z_add, show (K y : Int) + (more : Int) = ((K y + more : Nat) : Int) by omega]
      exact md12 (by omega)
    rw [e12, z_sub]
    have hg : grI K more (D 0) (D 1) A B (i, j) = (mtB (D 0) (D 1) i j && (decide (K x < 12) && (decide (K y < 12) && apB (K x) (K y) more))) := by
      unfold grI grB
      dsimp only
      rw [hga, hgb]
    have fin : ∀ t : Nat, t = ((K x : Int) - ((K y + more) % 12 : Nat)).natAbs → f_X11_grating_j85 d (iZ i) (iZ ((n + cntB (fun j => grI K more (D 0) (D 1) A B (i, j)) j : Nat) : Int)) (iZ j) (iZ (K x)) (iZ (K y)) (iZ t) = some (.inl (iZ ((n + cntB (fun j => grI K more (D 0) (D 1) A B (i, j)) (j + 1) : Nat) : Int), iZ ((j + 1 : Nat) : Int))) := by
      intro t ht
      rw [gr85 hM (by omega) (by omega) (by omega) hkx.2 hky.2 (by omega), cntB, hg, Nat.add_assoc]
      have e : (((K x < 12 ∧ K y < 12 ∧ mtB (D 0) (D 1) i j = true) ∧ (t = 1 ∨ t = 6 ∨ t = 11)) : Prop) = ((mtB (D 0) (D 1) i j && (decide (K x < 12) && (decide (K y < 12) && apB (K x) (K y) more))) = true) := by
        refine propext ?_
        unfold apB
        rw [← ht]
        simp only [Bool.and_eq_true, decide_eq_true_iff]
        constructor
        · rintro ⟨⟨a1, a2, a3⟩, a4⟩; exact ⟨a3, a1, a2, a4⟩
        · rintro ⟨a3, a1, a2, a4⟩; exact ⟨⟨a1, a2, a3⟩, a4⟩
      simp only [e]
    by_cases h0 : (0 : Int) ≤ (K x : Int) - ((K y + more) % 12 : Nat)
    · rw [if_pos (show (0 : Int32) ≤ _ by rw [show (0 : Int32) = iZ 0 from rfl, z_le] <;> omega), show (K x : Int) - ((K y + more) % 12 : Nat) = (((K x : Int) - ((K y + more) % 12 : Nat)).natAbs : Int) by omega]
      exact fin _ rfl
    · rw [if_neg (show ¬ (0 : Int32) ≤ _ by rw [show (0 : Int32) = iZ 0 from rfl, z_le] <;> omega), z_neg, show -((K x : Int) - ((K y + more) % 12 : Nat)) = (((K x : Int) - ((K y + more) % 12 : Nat)).natAbs : Int) by omega]
      exact fin _ rfl
  · dsimp only
    unfold f_X11_grating_b18
    rw [show gd 13 15 _ = _ from gd_z (a := 13) (n := 15) (by omega) (by omega) (by omega), hbl, if_pos (by rw [z_le] <;> omega)]
theorem grM_s {w c d k now : Nat → Int32} {W C D K : Nat → Nat} {A B : List Nat} {b : Nat} (hM : MTown w c d W C D) (hB : BookRep now A B b) (hW : Wf A B) (hk : ∀ m, m < 10 → k m = iZ (K m) ∧ K m ≤ 12) {more : Nat} (hm : more ≤ 12) : f_X11_grating now k d (iZ more) = some (iZ (nGr K more (D 0) (D 1) A B)) := by
  have hlA := hW.1
  have hlB := hW.2.1
  have hal : now (Int32.toNatClampNeg 12) = iZ A.length := hB.2.2.1
  unfold f_X11_grating
  rw [loop_FU (fun i : Nat => ((iZ ((prodL i B.length).countP (grI K more (D 0) (D 1) A B)) : Int32), (iZ i : Int32))) A.length (r := (iZ ((prodL A.length B.length).countP (grI K more (D 0) (D 1) A B)), iZ A.length)) ?_ ?_ ?_ (by omega)]
  · rw [nGr_eq hW]
    rfl
  · rfl
  · intro i hi
    dsimp only
    have hle : (prodL i B.length).countP (grI K more (D 0) (D 1) A B) ≤ 500 := by
      refine Nat.le_trans List.countP_le_length ?_
      have : (prodL i B.length).length ≤ 36 := by
        rw [(prodL_perm (n := i) (m := B.length) (by omega) hlB).length_eq]
        have h2 := tmA_len i B.length 11
        have h3 : (tmA i B.length 11).length ≤ 66 := by omega
        have h4 : (tmA i B.length 11).length = (prodL i B.length).length := (prodL_perm (n := i) (m := B.length) (by omega) hlB).length_eq.symm
        have h5 : (prodL i B.length).length = i * B.length := by
          clear h2 h3 h4
          induction i with
          | zero => simp [prodL]
          | succ i ih => rw [prodL_succ, List.length_append, ih (by omega), List.length_map, List.length_range, Nat.succ_mul]
        rw [h4, h5]
        exact Nat.le_trans (Nat.mul_le_mul (show i ≤ 6 by omega) hlB) (by omega)
      omega
    unfold f_X11_grating_b4
    rw [show gd 12 15 _ = _ from gd_z (a := 12) (n := 15) (by omega) (by omega) (by omega), hal, if_neg (by rw [z_le] <;> omega), grIn hM hB hW hk hm hi hle, bd2_s, prodL_succ, List.countP_append, countP_pairs, show (1 : Int32) = iZ 1 from rfl, z_add]
    rfl
  · dsimp only
    unfold f_X11_grating_b4
    rw [show gd 12 15 _ = _ from gd_z (a := 12) (n := 15) (by omega) (by omega) (by omega), hal, if_pos (by rw [z_le] <;> omega)]
theorem bst_val {g : Nat → Nat} : ∀ i, 0 < i → (∀ j, g j ≤ 999) → g (bst g i).1 = (bst g i).2 := by
  intro i
  induction i with
  | zero => intro h; omega
  | succ i ih =>
    intro _ hg
    have h1 := hg i
    unfold bst
    by_cases hc : (bst g i).2 ≤ g i
    · rw [if_pos hc]
      by_cases h0 : i = 0
      · subst h0
        unfold bst at hc
        dsimp only at hc
        omega
      · exact ih (by omega) hg
    · rw [if_neg hc]
theorem grate_both {T : TW} {M : BK} (hT : TRel T M) (f1 f2 n5 n6 : Int32) (now : Nat → Int32) (x : Int32) :
    ∃ v t m, f_X10_grate T.k T.d T.ro T.pl f1 f2 x = some (v, t) ∧ f_X11_grate n5 n6 M.bk now M.ky M.dl x = some (v, m) := by
  obtain ⟨z, z1, z2, rfl⟩ := z_of x
  obtain ⟨A, B, b, W, K, C, D, N, F, S, N2, F2, S2, h⟩ := hT
  have hw := within_z z1 z2 (a := 0) (b := 2) (by omega) (by omega) (by omega) (by omega)
  have hw2 := in_z z1 z2 (a := 0) (b := 2) (by omega) (by omega) (by omega) (by omega)
  unfold f_X10_grate f_X11_grate
  rw [show f_X10_within (iZ z) 0 2 = _ from hw, show f_X11_in (iZ z) 0 2 = _ from hw2, bd1_s, bd1_s]
  by_cases ha : 0 ≤ z ∧ z ≤ 2
  · rw [if_neg (show ¬ bz (0 ≤ z ∧ z ≤ 2) = 0 from bzN ha), if_neg (show ¬ bz (0 ≤ z ∧ z ≤ 2) = 0 from bzN ha), plain_s, bd3_s]
    have hM1 := (tOf h.h1 h.h3 h.h4).2
    have hkC : ∀ m, m < 10 → T.k m = iZ (K m) ∧ K m ≤ 12 := fun m hm => ⟨(h.h2 m hm).1, (h.h2 m hm).2.2.2⟩
    have hkM : ∀ m, m < 10 → M.ky m = iZ (K m) ∧ K m ≤ 12 := fun m hm => ⟨(h.h2 m hm).2.1, (h.h2 m hm).2.2.2⟩
    have hdC : ∀ r, r < 2 → T.d r = iZ (D r) ∧ D r ≤ 20 := fun m hm => ⟨(h.h4 m hm).1, (h.h4 m hm).2.2.2⟩
    have gC : ∀ more : Nat, more ≤ 12 → f_X1_grating T.k T.d T.ro T.pl (iZ more) = some (iZ (nGr K more (D 0) (D 1) A B)) := fun more hm => grC_s hkC hdC h.hR h.hW hm
    have gM : ∀ more : Nat, more ≤ 12 → f_X11_grating (cp 15 M.bk now) M.ky M.dl (iZ more) = some (iZ (nGr K more (D 0) (D 1) A B)) := fun more hm => grM_s hM1 (h.hB.cp h.hW) h.hW hkM hm
    have hle : ∀ v, (fun v => nGr K v (D 0) (D 1) A B) v ≤ 999 := fun v => Nat.le_trans (nGr_le K v (D 0) (D 1) A B) (by omega)
    have hle2 : ∀ v, (fun v => nGr K v (D 0) (D 1) A B) v ≤ 1000 := fun v => Nat.le_trans (hle v) (by omega)
    obtain ⟨b2, c2, e1, e2⟩ := begin_s (fun v => nGr K v (D 0) (D 1) A B)
    have hC : ∃ r, loopN (fun (q : Int32 × Int32 × Int32) => f_X10_grate_b38 T.k T.d T.ro T.pl q.1 q.2.1 q.2.2) FU (0, b2, c2) = some r ∧ FInv (fun v => nGr K v (D 0) (D 1) A B) 12 r.2.1 r.2.2 := by
      refine loop_inv (fun i s => ∃ b2 c2, s = (iZ i, b2, c2) ∧ FInv (fun v => nGr K v (D 0) (D 1) A B) i b2 c2) 12 ⟨b2, c2, rfl, e2⟩ ?_ ?_ (by omega)
      · rintro i hi s ⟨b2, c2, rfl, h1⟩
        dsimp only
        obtain ⟨b3, c3, g2, g3⟩ := offer_s hle2 (i := i) (by omega) h1
        unfold f_X10_grate_b38
        rw [if_neg (by rw [show (12 : Int32) = iZ 12 from rfl, z_le] <;> omega), gC i (by omega), bd1_s, g2, bd2_s, show (1 : Int32) = iZ 1 from rfl, z_add]
        exact ⟨_, rfl, _, _, rfl, g3⟩
      · rintro s ⟨b2, c2, rfl, h1⟩
        dsimp only
        unfold f_X10_grate_b38
        rw [if_pos (by decide)]
        exact ⟨_, rfl, h1⟩
    have hMl : loopN (fun (q : Int32 × Int32) => f_X11_grate_b20 M.ky M.dl (cp 15 M.bk now) q.1 q.2) FU (0, 1) = some (iZ (bst (fun v => nGr K v (D 0) (D 1) A B) 12).1, iZ 12) := by
      refine loop_FU (fun i : Nat => ((iZ (bst (fun v => nGr K v (D 0) (D 1) A B) (i + 1)).1 : Int32), (iZ ((i + 1 : Nat) : Int) : Int32))) 11 ?_ ?_ ?_ (by omega)
      · have e : bst (fun v => nGr K v (D 0) (D 1) A B) (0 + 1) = (0, nGr K 0 (D 0) (D 1) A B) := by
          rw [bst, if_neg]
          have := hle 0
          unfold bst
          dsimp only at this ⊢
          omega
        rw [e]
        rfl
      · intro i hi
        dsimp only
        obtain ⟨l1, l2, l3⟩ := bst_le hle2 (by omega) (i + 1)
        have l4 := l3 (by omega)
        have l5 := hle (i + 1)
        dsimp only at l5
        have hv := bst_val (g := fun v => nGr K v (D 0) (D 1) A B) (i + 1) (by omega) hle
        unfold f_X11_grate_b20 f_X11_grate_j44
        rw [if_neg (by rw [show (12 : Int32) = iZ 12 from rfl, z_le] <;> omega), gM (i + 1) (by omega), bd1_s, gM _ (by omega), bd1_s, hv, show (1 : Int32) = iZ 1 from rfl, z_add]
        by_cases hc : (bst (fun v => nGr K v (D 0) (D 1) A B) (i + 1)).2 ≤ nGr K (i + 1) (D 0) (D 1) A B
        · have eb : bst (fun v => nGr K v (D 0) (D 1) A B) (i + 1 + 1) = bst (fun v => nGr K v (D 0) (D 1) A B) (i + 1) := by rw [bst, if_pos hc]
          rw [if_pos (by rw [z_le] <;> omega), eb]
          rfl
        · have eb : bst (fun v => nGr K v (D 0) (D 1) A B) (i + 1 + 1) = (i + 1, nGr K (i + 1) (D 0) (D 1) A B) := by rw [bst, if_neg hc]
          rw [if_neg (by rw [z_le] <;> omega), eb]
          rfl
      · dsimp only
        unfold f_X11_grate_b20
        rw [if_pos (by decide)]
        rfl
    obtain ⟨⟨r1, r2, r3⟩, g1, g2⟩ := hC
    obtain ⟨l1, l2, l3⟩ := bst_le hle2 (by omega) 12
    have hv := bst_val (g := fun v => nGr K v (D 0) (D 1) A B) 12 (by omega) hle
    dsimp only at hv g2
    unfold FInv at g2
    rw [if_neg (by omega)] at g2
    obtain ⟨g3, g4⟩ := g2
    subst g3 g4
    rw [e1, bd2_s, g1, bd3_s, hMl, bd2_s, show f_X1_grating T.k T.d T.ro T.pl 0 = _ from gC 0 (by omega), show f_X11_grating (cp 15 M.bk now) M.ky M.dl 0 = _ from gM 0 (by omega), bd1_s, bd1_s, gM _ (by omega), bd1_s, hv]
    by_cases q0 : iZ z = 0
    · rw [if_pos q0, if_pos q0]
      exact ⟨_, _, _, rfl, rfl⟩
    · rw [if_neg q0, if_neg q0]
      by_cases q1 : iZ z = 1
      · rw [if_pos q1, if_pos q1]
        exact ⟨_, _, _, rfl, rfl⟩
      · rw [if_neg q1, if_neg q1]
        exact ⟨_, _, _, rfl, rfl⟩
  · rw [if_pos (show bz (0 ≤ z ∧ z ≤ 2) = 0 from bzP ha), if_pos (show bz (0 ≤ z ∧ z ≤ 2) = 0 from bzP ha)]
    exact ⟨_, _, _, rfl, rfl⟩
