theorem bz0 {p : Prop} [Decidable p] : bz p = (0 : Int32) ↔ ¬ p := bz_0
def mtM (D0 D1 : Nat) (A B : List Nat) (p : Nat × Nat) : Bool := decide (p.1 ∈ A) && (decide (p.2 ∈ B) && mtB D0 D1 (A.idxOf p.1) (B.idxOf p.2))
def clM (C W : Nat → Nat) (D0 D1 : Nat) (A B : List Nat) (p : Nat × Nat) : Bool := mtM D0 D1 A B p && nrB C (spI D0 D1 (A.idxOf p.1) (B.idxOf p.2)) (W p.1 + W p.2)
def tnM (D0 D1 : Nat) (A B : List Nat) (p : Nat × Nat) : Nat := (D0 + A.idxOf p.1 + (D1 + B.idxOf p.2)) * 6 + A.idxOf p.1
def vM (p : Nat × Nat) : Int := 10 * (p.1 : Int) + (p.2 : Int)
def wvM (D0 D1 : Nat) (A B : List Nat) (p : Nat × Nat) : Int := spI D0 D1 (A.idxOf p.1) (B.idxOf p.2)
/-- the class's town, as numbers -/
def TownRep (w c d : Nat → Int32) (W C D : Nat → Nat) : Prop := (∀ m, m < 10 → w m = iZ (W m) ∧ W m ≤ 1000) ∧ (∀ k, k < 17 → c k = iZ (C k) ∧ C k ≤ 1000) ∧ (∀ r, r < 2 → d r = iZ (D r) ∧ D r ≤ 20)
theorem tnM_le {D : Nat → Nat} {A B : List Nat} (hD : ∀ r, r < 2 → D r ≤ 20) (p : Nat × Nat) (hA : A.length ≤ 6) (hB : B.length ≤ 6) : tnM (D 0) (D 1) A B p ≤ 1000 := by
  have h0 := hD 0 (by omega)
  have h1 := hD 1 (by omega)
  have h2 : A.idxOf p.1 ≤ A.length := List.idxOf_le_length
  have h3 : B.idxOf p.2 ≤ B.length := List.idxOf_le_length
  unfold tnM
  omega
theorem countOf_s {w c d ro pl : Nat → Int32} {W C D : Nat → Nat} {A B : List Nat} (hT : TownRep w c d W C D) (hR : RowsRep ro pl A B) (hW : Wf A B) {dn : Nat} (hdn : dn ∈ A) {L : List (Nat × Nat)} (hL : L.length ≤ 500) {tw cz fs wh tr : Int32} (hI : PInv (mtM (D 0) (D 1) A B) (clM C W (D 0) (D 1) A B) (tnM (D 0) (D 1) A B) vM (wvM (D 0) (D 1) A B) L tw cz fs wh tr) :
    ∃ tw' cz' fs' wh' tr', f_X1_countOf tw cz fs wh tr w c d ro pl (iZ dn) = some (tw', cz', fs', wh', tr') ∧ PInv (mtM (D 0) (D 1) A B) (clM C W (D 0) (D 1) A B) (tnM (D 0) (D 1) A B) vM (wvM (D 0) (D 1) A B) (L ++ (List.range 10).map (fun u => (dn, u))) tw' cz' fs' wh' tr' := by
  have hd10 : dn < 10 := hW.lt (r := 0) hdn
  have hdD : ∀ r, r < 2 → d r = iZ (D r) := fun r hr => (hT.2.2 r hr).1
  have hD20 : ∀ r, r < 2 → D r ≤ 20 := fun r hr => (hT.2.2 r hr).2
  have hD0 := hD20 0 (by omega)
  have hD1 := hD20 1 (by omega)
  have hiA := List.idxOf_lt_length_iff.mpr hdn
  have hlA := hW.1
  have hlB := hW.2.1
  have eS : f_X8_startOf d ro pl (iZ dn) = some (iZ ((D 0 + A.idxOf dn : Nat) : Int)) := start_s hR hW hdD (r := 0) (by omega) hdn
  obtain ⟨r, h1, h2⟩ := loop_inv (body := fun (q : Int32 × Int32 × Int32 × Int32 × Int32 × Int32) => f_X1_countOf_b9 w c d ro pl (iZ dn) (iZ ((D 0 + A.idxOf dn : Nat) : Int)) q.1 q.2.1 q.2.2.1 q.2.2.2.1 q.2.2.2.2.1 q.2.2.2.2.2) (s := (0, tw, cz, fs, wh, tr))
    (P := fun r => PInv (mtM (D 0) (D 1) A B) (clM C W (D 0) (D 1) A B) (tnM (D 0) (D 1) A B) vM (wvM (D 0) (D 1) A B) (L ++ (List.range 10).map (fun u => (dn, u))) r.2.1 r.2.2.1 r.2.2.2.1 r.2.2.2.2.1 r.2.2.2.2.2)
    (fun j s => ∃ tw cz fs wh tr, s = (iZ j, tw, cz, fs, wh, tr) ∧ PInv (mtM (D 0) (D 1) A B) (clM C W (D 0) (D 1) A B) (tnM (D 0) (D 1) A B) vM (wvM (D 0) (D 1) A B) (L ++ (List.range j).map (fun u => (dn, u))) tw cz fs wh tr) 10
    ⟨tw, cz, fs, wh, tr, rfl, by rw [List.range_zero, List.map_nil, List.append_nil]; exact hI⟩
    (by
      rintro u hu s ⟨tw, cz, fs, wh, tr, rfl, hP⟩
      dsimp only
      have eL : L ++ (List.range (u + 1)).map (fun u => (dn, u)) = (L ++ (List.range u).map (fun u => (dn, u))) ++ [(dn, u)] := by
        rw [List.range_succ, List.map_append, List.append_assoc]
        rfl
      have hlen : (L ++ (List.range u).map (fun u => (dn, u))).length ≤ 1000 := by
        rw [List.length_append, List.length_map, List.length_range]; omega
      rw [eL]
      generalize hLe : L ++ (List.range u).map (fun u => (dn, u)) = L1 at hP hlen ⊢
      unfold f_X1_countOf_b9
      rw [show (10 : Int32) = iZ 10 from rfl, if_neg (by rw [z_le] <;> omega), at_row hR hu, bd1_s]
      have hrn := rowNo_le A B u
      have e1 : iZ (u : Int) + 1 = iZ ((u + 1 : Nat) : Int) := by rw [show (1 : Int32) = iZ 1 from rfl, z_add]; rfl
      by_cases huB : u ∈ B
      · have hu1 : rowNo A B u = 1 := (rowNo_iff hW (r := 1) (by omega)).mpr huB
        have hiB := List.idxOf_lt_length_iff.mpr huB
        have eU : f_X8_startOf d ro pl (iZ u) = some (iZ ((D 1 + B.idxOf u : Nat) : Int)) := start_s hR hW hdD (r := 1) (by omega) huB
        rw [if_pos (by rw [hu1]; rfl), eU, bd1_s, spotOf_s (by omega) (by omega), bd1_s]
        have esp : 16 + ((D 1 + B.idxOf u : Nat) : Int) - ((D 0 + A.idxOf dn : Nat) : Int) = spI (D 0) (D 1) (A.idxOf dn) (B.idxOf u) := by unfold spI; omega
        rw [esp]
        by_cases hmt : 0 ≤ spI (D 0) (D 1) (A.idxOf dn) (B.idxOf u) ∧ spI (D 0) (D 1) (A.idxOf dn) (B.idxOf u) ≤ 32
        · have emt : mtM (D 0) (D 1) A B (dn, u) = true := by unfold mtM mtB; simp [hdn, huB, hmt]
          have ecl : clM C W (D 0) (D 1) A B (dn, u) = nrB C (spI (D 0) (D 1) (A.idxOf dn) (B.idxOf u)) (W dn + W u) := by unfold clM; rw [emt]; rfl
          have etw : tw + 1 = iZ ((L1 ++ [(dn, u)]).countP (mtM (D 0) (D 1) A B)) := by
            rw [cP_push, if_pos emt, hP.1, show (1 : Int32) = iZ 1 from rfl, z_add]; rfl
          rw [if_pos hmt, show ((-6 : Int32)) = iZ (-6) from rfl, if_neg (by rw [z_eq] <;> omega)]
          unfold f_X1_countOf_j64
          rw [clash_s hT.1 hT.2.1 hmt.1 hmt.2 hd10 hu, bd1_s]
          by_cases hn : nrB C (spI (D 0) (D 1) (A.idxOf dn) (B.idxOf u)) (W dn + W u) = true
          · rw [if_neg (fun e => (bz0.mp e) hn), eU, bd1_s, at_n hd10 (by omega), bd1_s, (hR dn hd10).2, plc_L hW (r := 0) (by omega) hdn, show rowL A B 0 = A from rfl]
            obtain ⟨cz', fs', wh', tr', g1, g2⟩ := note_s hP (p := (dn, u)) (by rw [ecl]; exact hn) hlen (fun q _ => tnM_le hD20 q hlA hlB) (tnM_le hD20 _ hlA hlB) etw
            have ev : (10 : Int32) * iZ (dn : Int) + iZ (u : Int) = iZ (vM (dn, u)) := by rw [show (10 : Int32) = iZ 10 from rfl, z_mul, z_add]; rfl
            have et : (iZ ((D 0 + A.idxOf dn : Nat) : Int) + iZ ((D 1 + B.idxOf u : Nat) : Int)) * 6 + iZ (A.idxOf dn : Int) = iZ (tnM (D 0) (D 1) A B (dn, u)) := by
              rw [show (6 : Int32) = iZ 6 from rfl, z_add, z_mul, z_add]
              unfold tnM
              congr 1
            have ew : iZ (spI (D 0) (D 1) (A.idxOf dn) (B.idxOf u)) = iZ (wvM (D 0) (D 1) A B (dn, u)) := rfl
            rw [ev, et, ew, g1, bd4_s, e1]
            exact ⟨_, rfl, _, _, _, _, _, rfl, g2⟩
          · rw [if_pos (bz0.mpr hn), e1]
            refine ⟨_, rfl, _, _, _, _, _, rfl, hP.skip ?_ etw⟩
            rw [ecl]
            simpa using hn
        · have emt : mtM (D 0) (D 1) A B (dn, u) = false := by unfold mtM mtB; simp [hmt]
          have ecl : clM C W (D 0) (D 1) A B (dn, u) = false := by unfold clM; rw [emt]; rfl
          rw [if_neg hmt, show ((-6 : Int32)) = iZ (-6) from rfl, if_pos rfl]
          unfold f_X1_countOf_j64
          rw [clash_none, bd1_s, if_pos (show iZ 0 = (0 : Int32) from rfl), e1]
          refine ⟨_, rfl, _, _, _, _, _, rfl, hP.skip ecl ?_⟩
          rw [cP_push, emt, hP.1]
          rfl
      · have hu1 : ¬ rowNo A B u = 1 := fun e => huB ((rowNo_iff hW (r := 1) (by omega)).mp e)
        have emt : mtM (D 0) (D 1) A B (dn, u) = false := by unfold mtM; simp [huB]
        have ecl : clM C W (D 0) (D 1) A B (dn, u) = false := by unfold clM; rw [emt]; rfl
        rw [if_neg (by rw [show (1 : Int32) = iZ 1 from rfl, z_eq] <;> omega), e1]
        refine ⟨_, rfl, _, _, _, _, _, rfl, hP.skip ecl ?_⟩
        rw [cP_push, emt, hP.1]
        rfl)
    (by
      rintro s ⟨tw, cz, fs, wh, tr, rfl, hP⟩
      dsimp only
      unfold f_X1_countOf_b9
      refine ⟨(iZ 10, tw, cz, fs, wh, tr), ?_, hP⟩
      rw [show (10 : Int32) = iZ 10 from rfl, if_pos (by rw [z_le] <;> omega)]
      rfl)
    (by omega)
  unfold f_X1_countOf
  rw [eS, bd1_s]
  obtain ⟨r0, r1, r2, r3, r4, r5⟩ := r
  refine ⟨r1, r2, r3, r4, r5, ?_, h2⟩
  rw [h1, bd6_s]
theorem PInv.skips {mt cl : Nat × Nat → Bool} {tn : Nat × Nat → Nat} {v wv : Nat × Nat → Int} {L : List (Nat × Nat)} {tw cz fs wh tr : Int32} (h : PInv mt cl tn v wv L tw cz fs wh tr) : ∀ (M : List (Nat × Nat)), (∀ p, p ∈ M → cl p = false ∧ mt p = false) → PInv mt cl tn v wv (L ++ M) tw cz fs wh tr := by
  intro M
  induction M generalizing L with
  | nil => intro _; rw [List.append_nil]; exact h
  | cons p M ih =>
    intro hM
    obtain ⟨h1, h2⟩ := hM p List.mem_cons_self
    rw [show L ++ p :: M = (L ++ [p]) ++ M by rw [List.append_assoc]; rfl]
    refine ih (h.skip h1 ?_) (fun q hq => hM q (List.mem_cons_of_mem _ hq))
    rw [cP_push, h2, h.1]
    rfl
def prsM (n : Nat) : List (Nat × Nat) := (List.range n).flatMap (fun a => (List.range 10).map (fun u => (a, u)))
theorem prsM_succ (n : Nat) : prsM (n + 1) = prsM n ++ (List.range 10).map (fun u => (n, u)) := by
  unfold prsM
  rw [show List.range (n + 1) = List.range n ++ [n] from List.range_succ, List.flatMap_append]
  simp
theorem prsM_len (n : Nat) : (prsM n).length = 10 * n := by
  induction n with
  | zero => rfl
  | succ n ih => rw [prsM_succ, List.length_append, ih, List.length_map, List.length_range]; omega
theorem count_s {w c d ro pl : Nat → Int32} {W C D : Nat → Nat} {A B : List Nat} (hT : TownRep w c d W C D) (hR : RowsRep ro pl A B) (hW : Wf A B) (t0 : Int32) : ∃ tw cz fs wh tr, f_X1_count t0 w c d ro pl = some (tw, cz, fs, wh, tr) ∧ PInv (mtM (D 0) (D 1) A B) (clM C W (D 0) (D 1) A B) (tnM (D 0) (D 1) A B) vM (wvM (D 0) (D 1) A B) (prsM 10) tw cz fs wh tr := by
  obtain ⟨r, h1, h2⟩ := loop_inv (body := fun (q : Int32 × Int32 × Int32 × Int32 × Int32 × Int32) => f_X1_count_b29 w c d ro pl q.1 q.2.1 q.2.2.1 q.2.2.2.1 q.2.2.2.2.1 q.2.2.2.2.2) (s := (0, 0, 0, (-6), (-6), t0))
    (P := fun r => PInv (mtM (D 0) (D 1) A B) (clM C W (D 0) (D 1) A B) (tnM (D 0) (D 1) A B) vM (wvM (D 0) (D 1) A B) (prsM 10) r.2.1 r.2.2.1 r.2.2.2.1 r.2.2.2.2.1 r.2.2.2.2.2)
    (fun j s => ∃ tw cz fs wh tr, s = (iZ j, tw, cz, fs, wh, tr) ∧ PInv (mtM (D 0) (D 1) A B) (clM C W (D 0) (D 1) A B) (tnM (D 0) (D 1) A B) vM (wvM (D 0) (D 1) A B) (prsM j) tw cz fs wh tr) 10
    ⟨0, 0, (-6), (-6), t0, rfl, PInv.nil _ _ _ _ _ _⟩
    (by
      rintro a ha s ⟨tw, cz, fs, wh, tr, rfl, hP⟩
      dsimp only
      rw [prsM_succ]
      unfold f_X1_count_b29
      have e1 : iZ (a : Int) + 1 = iZ ((a + 1 : Nat) : Int) := by rw [show (1 : Int32) = iZ 1 from rfl, z_add]; rfl
      have hrn := rowNo_le A B a
      rw [show (10 : Int32) = iZ 10 from rfl, if_neg (by rw [z_le] <;> omega), at_row hR ha, bd1_s]
      by_cases haA : a ∈ A
      · have ha0 : rowNo A B a = 0 := (rowNo_iff hW (r := 0) (by omega)).mpr haA
        obtain ⟨tw', cz', fs', wh', tr', g1, g2⟩ := countOf_s hT hR hW haA (by rw [prsM_len]; omega) hP
        rw [if_pos (by rw [ha0]; rfl), g1, bd5_s, e1]
        exact ⟨_, rfl, _, _, _, _, _, rfl, g2⟩
      · have ha0 : ¬ rowNo A B a = 0 := fun e => haA ((rowNo_iff hW (r := 0) (by omega)).mp e)
        rw [if_neg (by rw [show (0 : Int32) = iZ 0 from rfl, z_eq] <;> omega), e1]
        refine ⟨_, rfl, _, _, _, _, _, rfl, hP.skips _ (fun p hp => ?_)⟩
        obtain ⟨u, -, rfl⟩ := List.mem_map.mp hp
        have emt : mtM (D 0) (D 1) A B (a, u) = false := by unfold mtM; simp [haA]
        exact ⟨by unfold clM; rw [emt]; rfl, emt⟩)
    (by
      rintro s ⟨tw, cz, fs, wh, tr, rfl, hP⟩
      dsimp only
      unfold f_X1_count_b29
      refine ⟨(iZ 10, tw, cz, fs, wh, tr), ?_, hP⟩
      rw [show (10 : Int32) = iZ 10 from rfl, if_pos (by rw [z_le] <;> omega)]
      rfl)
    (by omega)
  unfold f_X1_count
  obtain ⟨r0, r1, r2, r3, r4, r5⟩ := r
  refine ⟨r1, r2, r3, r4, r5, ?_, h2⟩
  rw [h1, bd6_s]
