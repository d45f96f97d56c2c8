theorem cellOf_s {w c d : Nat → Int32} {W C D : Nat → Nat} (hM : MTown w c d W C D) {p l t : Nat} (hp : p < 12) (hl : l < 10) (ht : t ≤ 1000) : f_X11_cellOf d (iZ p) (iZ l) (iZ t) = some (iZ (cellN (p / 6) (D (p / 6) + p % 6 + l) t)) := by
  have hr : p / 6 < 2 := by omega
  obtain ⟨hd, hD⟩ := hM.2.2 (p / 6) hr
  have hin : f_X11_in (iZ ((t : Int) - (D (p / 6) : Int) - ((p % 6 : Nat) : Int) - (l : Int))) (iZ 0) (iZ 16) = some (bz (0 ≤ (t : Int) - (D (p / 6) : Int) - ((p % 6 : Nat) : Int) - (l : Int) ∧ (t : Int) - (D (p / 6) : Int) - ((p % 6 : Nat) : Int) - (l : Int) ≤ 16)) := in_z (by omega) (by omega) (by omega) (by omega) (by omega) (by omega)
  unfold f_X11_cellOf cellN
  rw [md6 (by omega), dv6 (by omega), gd_z (by omega) (by omega) (by omega), z_cl (by omega) (by omega), Int.toNat_natCast, hd, z_sub, z_sub, z_sub, nmv_s, show f_X11_in (iZ ((t : Int) - (D (p / 6) : Int) - ((p % 6 : Nat) : Int) - (l : Int))) 0 16 = _ from hin, bd1_s]
  by_cases h : 0 ≤ (t : Int) - (D (p / 6) : Int) - ((p % 6 : Nat) : Int) - (l : Int) ∧ (t : Int) - (D (p / 6) : Int) - ((p % 6 : Nat) : Int) - (l : Int) ≤ 16
  · rw [if_neg (show ¬ bz (0 ≤ (t : Int) - (D (p / 6) : Int) - ((p % 6 : Nat) : Int) - (l : Int) ∧ (t : Int) - (D (p / 6) : Int) - ((p % 6 : Nat) : Int) - (l : Int) ≤ 16) = 0 from bzN h), if_pos (show D (p / 6) + p % 6 + l ≤ t ∧ t ≤ D (p / 6) + p % 6 + l + 16 by omega)]
    by_cases h6 : 6 ≤ p
    · rw [if_pos (by rw [show (6 : Int32) = iZ 6 from rfl, z_le] <;> omega), if_neg (by omega), show (16 : Int32) = iZ 16 from rfl, z_sub]
      exact congrArg (fun n : Int => some (iZ n)) (by omega)
    · rw [if_neg (by rw [show (6 : Int32) = iZ 6 from rfl, z_le] <;> omega), if_pos (by omega)]
      exact congrArg (fun n : Int => some (iZ n)) (by omega)
  · rw [if_pos (show bz (0 ≤ (t : Int) - (D (p / 6) : Int) - ((p % 6 : Nat) : Int) - (l : Int) ∧ (t : Int) - (D (p / 6) : Int) - ((p % 6 : Nat) : Int) - (l : Int) ≤ 16) = 0 from bzP h), if_neg (show ¬ (D (p / 6) + p % 6 + l ≤ t ∧ t ≤ D (p / 6) + p % 6 + l + 16) by omega)]
    rfl
def fitI (N : Nat) (F S D : Nat → Nat) (A B : List Nat) (p : Nat × Nat) : Bool := decide (p.1 % 6 < (rowL A B (p.1 / 6)).length) && soB N F S (p.1 / 6) (D (p.1 / 6) + p.1 % 6 + p.2)
theorem fits_s {w c d bk sf ss q : Nat → Int32} {W C D : Nat → Nat} {A B : List Nat} {b N : Nat} {F S : Nat → Nat} (hM : MTown w c d W C D) (hB : BookRep bk A B b) (hW : Wf A B) (hG : SightsRep N sf ss q F S) {p l : Nat} (hp : p < 12) (hl : l < 10) : f_X11_fits (iZ N) bk d q (iZ p) (iZ l) = some (if fitI N F S D A B (p, l) = true then iZ 1 else iZ 0) := by
  have e1 : ∀ n : Nat, iZ (n : Int) + 1 = iZ ((n + 1 : Nat) : Int) := by intro n; rw [show (1 : Int32) = iZ 1 from rfl, z_add]; rfl
  have hr : p / 6 < 2 := by omega
  have hN := hG.1
  have hlr := hW.len (p / 6)
  unfold f_X11_fits f_X11_fits_j24 fitI
  rw [md6 (by omega), dv6 (by omega), show (12 : Int32) = iZ 12 from rfl, z_add, gd_z (by omega) (by omega) (by omega), z_cl (by omega) (by omega), show ((12 : Int) + ((p / 6 : Nat) : Int)).toNat = 12 + p / 6 by omega, br_len hB hr]
  by_cases hin : p % 6 < (rowL A B (p / 6)).length
  · rw [if_neg (by rw [z_le] <;> omega), decide_eq_true hin, Bool.true_and]
    obtain ⟨⟨v1, v2⟩, g1, g2⟩ := loop_ex (body := fun (x : Int32 × Int32) => f_X11_fits_b28 (iZ N) d q (iZ p) (iZ l) x.1 x.2) (s := (1, 0)) (P := fun v => v.1 = if soB N F S (p / 6) (D (p / 6) + p % 6 + l) = true then iZ 1 else iZ 0)
      (fun i st => st = ((if allB (fun j => decide (cellN (p / 6) (D (p / 6) + p % 6 + l) (S j) = F j)) i = true then iZ 1 else iZ 0), iZ ((i : Nat) : Int))) N
      rfl
      (by
        rintro i hi st rfl
        dsimp only
        obtain ⟨r1, r2, r3, r4, r5, r6⟩ := hG.2 i hi
        have hc := cellN_le (p / 6) (D (p / 6) + p % 6 + l) (S i)
        unfold f_X11_fits_b28 f_X11_fits_j75
        rw [if_neg (by rw [z_le] <;> omega)]
        by_cases hal : allB (fun j => decide (cellN (p / 6) (D (p / 6) + p % 6 + l) (S j) = F j)) i = true
        · refine Or.inl ?_
          rw [if_pos hal, if_neg (show ¬ iZ 1 = 0 by decide), show (2 : Int32) = iZ 2 from rfl, show (1 : Int32) = iZ 1 from rfl, z_mul, z_add, gd_z (by omega) (by omega) (by omega), z_cl (by omega) (by omega), show ((2 : Int) * (i : Int) + 1).toNat = 2 * i + 1 by omega, r4, cellOf_s hM hp hl (by omega), bd1_s, gd_z (by omega) (by omega) (by omega), z_cl (by omega) (by omega), show ((2 : Int) * (i : Int)).toNat = 2 * i by omega, r3, z_add]
          by_cases h : cellN (p / 6) (D (p / 6) + p % 6 + l) (S i) = F i
          · rw [if_pos (by rw [h])]
            refine ⟨_, rfl, ?_⟩
            rw [allB, hal, decide_eq_true h]
            rfl
          · rw [if_neg (by rw [z_eq] <;> omega)]
            refine ⟨_, rfl, ?_⟩
            rw [allB, hal, decide_eq_false h]
            rfl
        · refine Or.inr ?_
          rw [if_neg hal, if_pos (show iZ 0 = 0 from rfl)]
          refine ⟨_, rfl, ?_⟩
          rw [if_neg]
          intro h
          unfold soB at h
          rw [allB_iff] at h hal
          exact hal (fun j hj => h j (by omega)))
      (by
        rintro st rfl
        dsimp only
        unfold f_X11_fits_b28
        rw [if_pos (Int32.le_refl _)]
        exact ⟨_, rfl, rfl⟩)
      (by omega)
    dsimp only at g2
    subst g2
    rw [g1, bd2_s]
    by_cases h : soB N F S (p / 6) (D (p / 6) + p % 6 + l) = true
    · rw [if_pos h]; rfl
    · rw [if_neg h]; rfl
  · rw [if_pos (by rw [z_le] <;> omega), decide_eq_false hin, Bool.false_and, if_neg (show ¬ false = true by decide)]
    have h0 : loopN (fun (x : Int32 × Int32) => f_X11_fits_b28 (iZ N) d q (iZ p) (iZ l) x.1 x.2) FU (0, 0) = some (0, 0) := by
      refine loop_FU (fun _ => (0, 0)) 0 rfl (fun i hi => absurd hi (Nat.not_lt_zero i)) ?_ (by omega)
      dsimp only
      unfold f_X11_fits_b28
      by_cases h : iZ (N : Int) ≤ 0
      · rw [if_pos h]
      · rw [if_neg h, if_pos rfl]
    rw [h0, bd2_s]
    rfl
/-- who stands in place p of the book -/
def memA (A B : List Nat) (p : Nat) : Nat := (rowL A B (p / 6)).getD (p % 6) 0
theorem fitI_mem {N : Nat} {F S D : Nat → Nat} {A B : List Nat} (hW : Wf A B) {p l : Nat} (hp : p < 12) (h : fitI N F S D A B (p, l) = true) : memA A B p < 10 ∧ rowNo A B (memA A B p) = p / 6 ∧ (rowL A B (p / 6)).idxOf (memA A B p) = p % 6 ∧ (rowL A B (p / 6))[p % 6]? = some (memA A B p) ∧ fitC N F S D A B (memA A B p, l) = true := by
  unfold fitI at h
  rw [Bool.and_eq_true, decide_eq_true_iff] at h
  obtain ⟨h1, h2⟩ := h
  have hg : (rowL A B (p / 6))[p % 6]? = some (memA A B p) := getD_get h1
  have hm := List.mem_of_getElem? hg
  have hr : p / 6 < 2 := by omega
  have e1 := (rowNo_iff hW hr).mpr hm
  have e2 := idx_of (hW.nL (p / 6)) hg
  refine ⟨hW.lt hm, e1, e2, hg, ?_⟩
  unfold fitC bgC
  dsimp only
  rw [e1, e2, decide_eq_true hr, h2]
  rfl
theorem fit_perm {N : Nat} {F S D : Nat → Nat} {A B : List Nat} (hW : Wf A B) : (((prsM 12).filter (fitI N F S D A B)).map (fun p => (memA A B p.1, p.2))).Perm ((prsM 10).filter (fitC N F S D A B)) := by
  have mem12 : ∀ p : Nat × Nat, p ∈ prsM 12 ↔ p.1 < 12 ∧ p.2 < 10 := by
    intro p
    unfold prsM
    rw [List.mem_flatMap]
    constructor
    · rintro ⟨a, ha, h⟩
      obtain ⟨u, hu, rfl⟩ := List.mem_map.mp h
      exact ⟨List.mem_range.mp ha, List.mem_range.mp hu⟩
    · rintro ⟨h1, h2⟩
      exact ⟨p.1, List.mem_range.mpr h1, List.mem_map.mpr ⟨p.2, List.mem_range.mpr h2, rfl⟩⟩
  have nd12 : (prsM 12).Nodup := by
    unfold prsM
    refine nodup_flat _ _ List.nodup_range (fun a _ => nodup_map_on List.nodup_range (fun x _ y _ e => (Prod.mk.inj e).2)) ?_
    intro x _ y _ hxy p hp hq
    obtain ⟨u, -, rfl⟩ := List.mem_map.mp hp
    obtain ⟨w, -, e⟩ := List.mem_map.mp hq
    exact hxy (Prod.mk.inj e).1.symm
  refine (List.perm_ext_iff_of_nodup (nodup_map_on (nd12.filter _) ?_) (nodup_prsM.filter _)).mpr (fun q => ?_)
  · rintro ⟨p, l⟩ hp ⟨p', l'⟩ hp' e
    rw [List.mem_filter, mem12] at hp hp'
    obtain ⟨-, a2, a3, -⟩ := fitI_mem hW hp.1.1 hp.2
    obtain ⟨-, b2, b3, -⟩ := fitI_mem hW hp'.1.1 hp'.2
    obtain ⟨e1, e2⟩ := Prod.mk.inj e
    dsimp only at e1 e2 a2 a3 b2 b3
    rw [e1] at a2 a3
    have h1 : p / 6 = p' / 6 := by rw [← a2, ← b2]
    rw [h1] at a3
    exact Prod.ext (show p = p' by omega) e2
  · rw [List.mem_map, List.mem_filter, mem_prsM]
    constructor
    · rintro ⟨⟨p, l⟩, hp, rfl⟩
      rw [List.mem_filter, mem12] at hp
      obtain ⟨a1, a2, a3, a4, a5⟩ := fitI_mem hW hp.1.1 hp.2
      exact ⟨⟨a1, hp.1.2⟩, a5⟩
    · rintro ⟨⟨h1, h2⟩, h3⟩
      obtain ⟨m, l⟩ := q
      dsimp only at h1 h2
      unfold fitC bgC at h3
      dsimp only at h3
      rw [Bool.and_eq_true, decide_eq_true_iff] at h3
      obtain ⟨h4, h5⟩ := h3
      have hm := (rowNo_iff hW h4).mp rfl
      have hi := List.idxOf_lt_length_iff.mpr hm
      have hl := hW.len (rowNo A B m)
      have d1 : (6 * rowNo A B m + (rowL A B (rowNo A B m)).idxOf m) / 6 = rowNo A B m := by omega
      have d2 : (6 * rowNo A B m + (rowL A B (rowNo A B m)).idxOf m) % 6 = (rowL A B (rowNo A B m)).idxOf m := by omega
      refine ⟨(6 * rowNo A B m + (rowL A B (rowNo A B m)).idxOf m, l), ?_, ?_⟩
      · rw [List.mem_filter, mem12]
        refine ⟨⟨by dsimp only; omega, h2⟩, ?_⟩
        unfold fitI
        dsimp only
        rw [d1, d2, decide_eq_true hi, h5]
        rfl
      · refine Prod.ext ?_ rfl
        show memA A B _ = m
        unfold memA
        rw [d1, d2]
        exact getD_idx hm
theorem whoM_s {w c d bk sf ss q : Nat → Int32} {W C D : Nat → Nat} {A B : List Nat} {b N : Nat} {F S : Nat → Nat} (hM : MTown w c d W C D) (hB : BookRep bk A B b) (hW : Wf A B) (hG : SightsRep N sf ss q F S) :
    ∃ cn mb lb x, loopN (fun (u : Int32 × Int32 × Int32 × Int32) => f_X11_who_b22 (iZ N) bk d q u.1 u.2.1 u.2.2.1 u.2.2.2) FU (0, 0, 0, 0) = some (cn, mb, lb, x) ∧ cn = iZ ((prsM 12).filter (fitI N F S D A B)).length ∧ MB ((prsM 12).filter (fitI N F S D A B)) (fun p => memA A B p.1) mb ∧ MB ((prsM 12).filter (fitI N F S D A B)) (fun p => p.2) lb := by
  have e1 : ∀ n : Nat, iZ (n : Int) + 1 = iZ ((n + 1 : Nat) : Int) := by intro n; rw [show (1 : Int32) = iZ 1 from rfl, z_add]; rfl
  obtain ⟨⟨q0, q1, q2, q3⟩, g1, g2⟩ := loop_inv (body := fun (u : Int32 × Int32 × Int32 × Int32) => f_X11_who_b22 (iZ N) bk d q u.1 u.2.1 u.2.2.1 u.2.2.2) (s := (0, 0, 0, 0)) (P := fun u => u.1 = iZ ((prsM 12).filter (fitI N F S D A B)).length ∧ MB ((prsM 12).filter (fitI N F S D A B)) (fun p => memA A B p.1) u.2.1 ∧ MB ((prsM 12).filter (fitI N F S D A B)) (fun p => p.2) u.2.2.1)
    (fun m s => ∃ cn mb lb, s = (cn, mb, lb, iZ ((m : Nat) : Int)) ∧ cn = iZ ((prsM m).filter (fitI N F S D A B)).length ∧ MB ((prsM m).filter (fitI N F S D A B)) (fun p => memA A B p.1) mb ∧ MB ((prsM m).filter (fitI N F S D A B)) (fun p => p.2) lb) 12
    ⟨0, 0, 0, rfl, rfl, MB.nil _, MB.nil _⟩
    (by
      rintro m hm s ⟨cn, mb, lb, rfl, hI⟩
      dsimp only
      obtain ⟨⟨p0, p1, p2, p3⟩, w1, w2⟩ := loop_inv (body := fun (u : Int32 × Int32 × Int32 × Int32) => f_X11_who_b32 (iZ N) bk d q (iZ m) u.1 u.2.1 u.2.2.1 u.2.2.2) (s := (cn, mb, lb, 0)) (P := fun u => u.1 = iZ ((prsM (m + 1)).filter (fitI N F S D A B)).length ∧ MB ((prsM (m + 1)).filter (fitI N F S D A B)) (fun p => memA A B p.1) u.2.1 ∧ MB ((prsM (m + 1)).filter (fitI N F S D A B)) (fun p => p.2) u.2.2.1)
        (fun l s => ∃ cn mb lb, s = (cn, mb, lb, iZ ((l : Nat) : Int)) ∧ cn = iZ ((prsM m).filter (fitI N F S D A B) ++ ((List.range l).map (fun u => (m, u))).filter (fitI N F S D A B)).length ∧ MB ((prsM m).filter (fitI N F S D A B) ++ ((List.range l).map (fun u => (m, u))).filter (fitI N F S D A B)) (fun p => memA A B p.1) mb ∧ MB ((prsM m).filter (fitI N F S D A B) ++ ((List.range l).map (fun u => (m, u))).filter (fitI N F S D A B)) (fun p => p.2) lb) 10
        ⟨cn, mb, lb, rfl, by rw [List.range_zero, List.map_nil, List.filter_nil, List.append_nil]; exact hI⟩
        (by
          rintro l hl s ⟨cn, mb, lb, rfl, hI⟩
          dsimp only
          unfold f_X11_who_b32
          rw [if_neg (by rw [show (10 : Int32) = iZ 10 from rfl, z_le] <;> omega), fits_s hM hB hW hG hm hl, bd1_s, e1, List.range_succ, List.map_append, List.filter_append, ← List.append_assoc]
          generalize hL : ((prsM m).filter (fitI N F S D A B) ++ ((List.range l).map (fun u => (m, u))).filter (fitI N F S D A B)) = L at hI ⊢
          obtain ⟨i1, i2, i3⟩ := hI
          by_cases hfit : fitI N F S D A B (m, l) = true
          · obtain ⟨a1, a2, a3, a4, a5⟩ := fitI_mem hW hm hfit
            have hone : (List.map (fun u => (m, u)) [l]).filter (fitI N F S D A B) = [(m, l)] := by
              show [(m, l)].filter _ = _
              rw [List.filter_cons_of_pos hfit]
              rfl
            have hbk : bk m = iZ (memA A B m) := by
              have := br_at hB (show m / 6 < 2 by omega) a4
              rwa [show 6 * (m / 6) + m % 6 = m by omega] at this
            rw [if_pos hfit, if_neg (show ¬ iZ 1 = 0 by decide), gd_z (by omega) (by omega) (by omega), z_cl (by omega) (by omega), Int.toNat_natCast, hbk, nmv_s, hone, i1, e1]
            exact ⟨_, rfl, _, _, _, rfl, by rw [List.length_append]; rfl, MB.push (p := (m, l)) i2 a1, MB.push (p := (m, l)) i3 hl⟩
          · have hone : (List.map (fun u => (m, u)) [l]).filter (fitI N F S D A B) = [] := by
              show [(m, l)].filter _ = _
              rw [List.filter_cons_of_neg hfit]
              rfl
            rw [if_neg hfit, if_pos (show iZ 0 = 0 from rfl), hone, List.append_nil]
            exact ⟨_, rfl, _, _, _, rfl, i1, i2, i3⟩)
        (by
          rintro s ⟨cn, mb, lb, rfl, hI⟩
          dsimp only
          unfold f_X11_who_b32
          rw [if_pos (by decide)]
          rw [← List.filter_append, ← prsM_succ] at hI
          exact ⟨_, rfl, hI⟩)
        (by omega)
      unfold f_X11_who_b22
      rw [if_neg (by rw [show (12 : Int32) = iZ 12 from rfl, z_le] <;> omega), w1, bd4_s, e1]
      exact ⟨_, rfl, _, _, _, rfl, w2⟩)
    (by
      rintro s ⟨cn, mb, lb, rfl, hI⟩
      dsimp only
      unfold f_X11_who_b22
      rw [if_pos (by decide)]
      exact ⟨_, rfl, hI⟩)
    (by omega)
  exact ⟨q0, q1, q2, q3, g1, g2⟩
theorem who_both {T : TW} {M : BK} (hT : TRel T M) (c1 c2 c3 : Int32) (ra sa : Nat → Int32) (x : Int32) :
    ∃ v t, f_X10_who T.d T.ro T.pl T.sc T.sf T.ss c1 c2 c3 ra sa x = some (v, t) ∧ f_X11_who M.sn M.bk M.dl M.si x = some v := by
  obtain ⟨z, z1, z2, rfl⟩ := z_of x
  obtain ⟨A, B, b, W, K, C, D, N, F, Z, N2, F2, S2, h⟩ := hT
  have hw := within_z z1 z2 (a := 0) (b := 2) (by omega) (by omega) (by omega) (by omega)
  have hw2 := in_z z1 z2 (a := 0) (b := 2) (by omega) (by omega) (by omega) (by omega)
  unfold f_X10_who f_X11_who
  rw [show f_X10_within (iZ z) 0 2 = _ from hw, show f_X11_in (iZ z) 0 2 = _ from hw2, bd1_s, bd1_s]
  by_cases ha : 0 ≤ z ∧ z ≤ 2
  · rw [if_neg (show ¬ bz (0 ≤ z ∧ z ≤ 2) = 0 from bzN ha), if_neg (show ¬ bz (0 ≤ z ∧ z ≤ 2) = 0 from bzN ha)]
    obtain ⟨hTC, hTM⟩ := tOf h.h1 h.h3 h.h4
    obtain ⟨cn, mb, lb, ra', sa', f1, i1, i2, i3, i4⟩ := fit_s (D := D) (fun r hr => ⟨(h.h4 r hr).1, (h.h4 r hr).2.2.2⟩) h.hR h.hW h.h6 ra sa
    obtain ⟨cn', mb', lb', y, g1, j1, j2, j3⟩ := whoM_s hTM h.hB h.hW h.h6
    have hp := fit_perm (N := N2) (F := F2) (S := S2) (D := D) h.hW
    have ec : cn = cn' := by
      rw [i1, j1, ← hp.length_eq, List.length_map]
    have em : mb = mb' := by
      refine MB.uniq i2 j2 (fun k hk => ?_)
      constructor
      · rintro ⟨p, p1, p2⟩
        obtain ⟨q, q1, q2⟩ := List.mem_map.mp (hp.mem_iff.mpr p1)
        exact ⟨q, q1, by rw [← p2, ← q2]⟩
      · rintro ⟨q, q1, q2⟩
        exact ⟨_, hp.mem_iff.mp (List.mem_map.mpr ⟨q, q1, rfl⟩), q2⟩
    have el : lb = lb' := by
      refine MB.uniq i3 j3 (fun k hk => ?_)
      constructor
      · rintro ⟨p, p1, p2⟩
        obtain ⟨q, q1, q2⟩ := List.mem_map.mp (hp.mem_iff.mpr p1)
        exact ⟨q, q1, by rw [← p2, ← q2]⟩
      · rintro ⟨q, q1, q2⟩
        exact ⟨_, hp.mem_iff.mp (List.mem_map.mpr ⟨q, q1, rfl⟩), q2⟩
    subst ec em el
    rw [h.hsc, h.hsn, f1, bd5_s, g1, bd4_s]
    by_cases q0 : iZ z = 0
    · rw [if_pos q0, if_pos q0]
      exact ⟨_, _, rfl, rfl⟩
    · rw [if_neg q0, if_neg q0]
      by_cases q1 : iZ z = 1
      · rw [if_pos q1, if_pos q1]
        exact ⟨_, _, rfl, rfl⟩
      · rw [if_neg q1, if_neg q1]
        exact ⟨_, _, rfl, rfl⟩
  · rw [if_pos (show bz (0 ≤ z ∧ z ≤ 2) = 0 from bzP ha), if_pos (show bz (0 ≤ z ∧ z ≤ 2) = 0 from bzP ha)]
    exact ⟨_, _, rfl, rfl⟩
