theorem clashesIn_s {w c d ro pl : Nat → Int32} {W C D : Nat → Nat} {A B : List Nat} (hT : TownRep w c d W C D) (hR : RowsRep ro pl A B) (hW : Wf A B) {r i x : Nat} (hr : r < 2) (hi : i < 6) (hx : x < 10) : f_X8_clashesIn w c d ro pl (iZ r) (iZ i) (iZ x) = some (iZ (cst C W (D 0) (D 1) (rowL A B (1 - r)) r i x)) := by
  have hdD : ∀ r, r < 2 → d r = iZ (D r) := fun r hr => (hT.2.2 r hr).1
  have hD0 := (hT.2.2 0 (by omega)).2
  have hD1 := (hT.2.2 1 (by omega)).2
  have hDr := (hT.2.2 r hr).2
  have e1 : ∀ n : Nat, iZ (n : Int) + 1 = iZ ((n + 1 : Nat) : Int) := by intro n; rw [show (1 : Int32) = iZ 1 from rfl, z_add]; rfl
  have j75 : ∀ (s : Int) (n o : Nat), o < 10 → f_X8_clashesIn_j75 w c (iZ x) (iZ n) (iZ o) (iZ (if 0 ≤ s ∧ s ≤ 32 then s else -6)) = some (.inl (iZ ((n + (if (decide (0 ≤ s ∧ s ≤ 32) && nrB C s (W x + W o)) = true then 1 else 0) : Nat) : Int), iZ ((o + 1 : Nat) : Int))) := by
    intro s n o ho
    unfold f_X8_clashesIn_j75
    by_cases hs : 0 ≤ s ∧ s ≤ 32
    · rw [if_pos hs, clash_s hT.1 hT.2.1 hs.1 hs.2 hx ho, bd1_s, e1, e1, decide_eq_true hs, Bool.true_and]
      by_cases hn : nrB C s (W x + W o) = true
      · rw [if_neg (by rw [bz0]; exact fun h => h hn), if_pos hn]
      · rw [if_pos (by rw [bz0]; exact hn), if_neg hn]
        rfl
    · rw [if_neg hs, clash_none, bd1_s, e1, if_pos (show iZ 0 = 0 from rfl), decide_eq_false hs, Bool.false_and, if_neg (by decide)]
      rfl
  unfold f_X8_clashesIn
  rw [at_n hr (by omega), bd1_s, hdD r hr, z_add]
  rw [loop_FU (fun o : Nat => ((iZ (cntB (fun o => decide (o ∈ rowL A B (1 - r)) && (if r = 0 then mtB (D 0) (D 1) i ((rowL A B (1 - r)).idxOf o) && nrB C (spI (D 0) (D 1) i ((rowL A B (1 - r)).idxOf o)) (W x + W o) else mtB (D 0) (D 1) ((rowL A B (1 - r)).idxOf o) i && nrB C (spI (D 0) (D 1) ((rowL A B (1 - r)).idxOf o) i) (W x + W o))) o) : Int32), (iZ o : Int32))) 10 (r := (iZ (cst C W (D 0) (D 1) (rowL A B (1 - r)) r i x), iZ 10)) ?_ ?_ ?_ (by omega)]
  · rfl
  · rfl
  · intro o ho
    dsimp only
    have hrn := rowNo_le A B o
    unfold f_X8_clashesIn_b18
    rw [show (10 : Int32) = iZ 10 from rfl, if_neg (by rw [z_le] <;> omega), at_n ho (by omega), bd1_s, (hR o ho).1, show (1 : Int32) - iZ r = iZ ((1 - r : Nat) : Int) from by rw [show (1 : Int32) = iZ 1 from rfl, z_sub]; congr 1; omega]
    by_cases hO : o ∈ rowL A B (1 - r)
    · have hno : rowNo A B o = 1 - r := (rowNo_iff hW (r := 1 - r) (by omega)).mpr hO
      have hlo := hW.len (1 - r)
      have hio := List.idxOf_lt_length_iff.mpr hO
      have hso := start_s hR hW hdD (r := 1 - r) (by omega) hO
      rw [if_pos (by rw [hno]), hso, bd1_s, bd1_s]
      rcases (show r = 0 ∨ r = 1 by omega) with rfl | rfl
      · rw [if_pos (show iZ ((0 : Nat) : Int) = 0 from rfl), show (D 0 : Int) + (i : Int) = ((D 0 + i : Nat) : Int) by omega, spotOf_s (by omega) (by have : D (1 - 0) ≤ 20 := hD1; omega), bd1_s, show 16 + ((D (1 - 0) + List.idxOf o (rowL A B (1 - 0)) : Nat) : Int) - ((D 0 + i : Nat) : Int) = spI (D 0) (D 1) i (List.idxOf o (rowL A B (1 - 0))) from by unfold spI; show 16 + ((D 1 + _ : Nat) : Int) - _ = _; omega, j75 _ _ _ ho, cntB]
        simp only [hO, decide_true, Bool.true_and, if_pos]
        rfl
      · rw [if_neg (show ¬ iZ ((1 : Nat) : Int) = 0 by decide), show (D 1 : Int) + (i : Int) = ((D 1 + i : Nat) : Int) by omega, spotOf_s (by have : D (1 - 1) ≤ 20 := hD0; omega) (by omega), bd1_s, show 16 + ((D 1 + i : Nat) : Int) - ((D (1 - 1) + List.idxOf o (rowL A B (1 - 1)) : Nat) : Int) = spI (D 0) (D 1) (List.idxOf o (rowL A B (1 - 1))) i from by unfold spI; show 16 + _ - ((D 0 + _ : Nat) : Int) = _; omega, j75 _ _ _ ho, cntB]
        simp only [hO, decide_true, Bool.true_and, if_neg (show ¬ (1 : Nat) = 0 by omega)]
        rfl
    · have hno : ¬ rowNo A B o = 1 - r := fun h => hO ((rowNo_iff hW (r := 1 - r) (by omega)).mp h)
      rw [if_neg (by rw [z_eq] <;> omega), e1, cntB, if_neg (by simp [hO])]
      rfl
  · dsimp only
    unfold f_X8_clashesIn_b18
    rw [if_pos (by decide)]
    rfl
theorem costs_s {w c d ro pl : Nat → Int32} {W C D : Nat → Nat} {A B S : List Nat} (hT : TownRep w c d W C D) (hR : RowsRep ro pl A B) (hW : Wf A B) {r : Nat} (hr : r < 2) (h6 : S.length ≤ 6) (hS : ∀ x, x ∈ S → x < 10) {cr : Nat → Int32} (hcr : ∀ i, i < S.length → cr i = iZ (S.getD i 0)) (cs : Nat → Int32) :
    ∃ l cs', loopN (fun (q : Int32 × (Nat → Int32)) => f_X3_countClashes_b7 (iZ S.length) cr w c d ro pl (iZ r) q.1 q.2) FU (0, cs) = some (l, cs') ∧ ∀ o i, o < S.length → i < S.length → cs' (o * 6 + i) = iZ (cst C W (D 0) (D 1) (rowL A B (1 - r)) r i (S.getD o 0)) := by
  have e1 : ∀ n : Nat, iZ (n : Int) + 1 = iZ ((n + 1 : Nat) : Int) := by intro n; rw [show (1 : Int32) = iZ 1 from rfl, z_add]; rfl
  obtain ⟨⟨q1, q2⟩, h1, h2⟩ := loop_inv (body := fun (q : Int32 × (Nat → Int32)) => f_X3_countClashes_b7 (iZ S.length) cr w c d ro pl (iZ r) q.1 q.2) (s := (0, cs)) (P := fun q => ∀ o i, o < S.length → i < S.length → q.2 (o * 6 + i) = iZ (cst C W (D 0) (D 1) (rowL A B (1 - r)) r i (S.getD o 0)))
    (fun m s => ∃ cc, s = (iZ m, cc) ∧ ∀ o i, o < m → i < S.length → cc (o * 6 + i) = iZ (cst C W (D 0) (D 1) (rowL A B (1 - r)) r i (S.getD o 0))) S.length
    ⟨cs, rfl, fun o i h => absurd h (Nat.not_lt_zero o)⟩
    (by
      rintro m hm s ⟨cc, rfl, hc⟩
      dsimp only
      have hx : S.getD m 0 < 10 := hS _ (List.mem_of_getElem? (getD_get hm))
      obtain ⟨⟨p1, p2⟩, g1, g2⟩ := loop_inv (body := fun (q : Int32 × (Nat → Int32)) => f_X3_countClashes_b18 (iZ S.length) cr w c d ro pl (iZ r) (iZ m) q.1 q.2) (s := (0, cc)) (P := fun q => ∀ o i, o < m + 1 → i < S.length → q.2 (o * 6 + i) = iZ (cst C W (D 0) (D 1) (rowL A B (1 - r)) r i (S.getD o 0)))
        (fun j s => ∃ ce, s = (iZ j, ce) ∧ ∀ o i, (o < m ∧ i < S.length) ∨ (o = m ∧ i < j) → ce (o * 6 + i) = iZ (cst C W (D 0) (D 1) (rowL A B (1 - r)) r i (S.getD o 0))) S.length
        ⟨cc, rfl, fun o i h => hc o i (by omega) (by omega)⟩
        (by
          rintro j hj s ⟨ce, rfl, he⟩
          dsimp only
          unfold f_X3_countClashes_b18
          rw [if_neg (by rw [z_le] <;> omega), at_n (show m < 6 by omega) (by omega), bd1_s, hcr m hm, clashesIn_s hT hR hW hr (by omega) hx, bd1_s, show (6 : Int32) = iZ 6 from rfl, z_mul, z_add, show (m : Int) * 6 + (j : Int) = ((m * 6 + j : Nat) : Int) by omega, put_n (by omega) (by omega), bd1_s, e1]
          refine ⟨_, rfl, _, rfl, fun o i h => ?_⟩
          by_cases hk : o * 6 + i = m * 6 + j
          · have ho : o = m := by omega
            have hi : i = j := by omega
            subst ho hi
            exact upd_at _ _ _
          · rw [upd_ne _ _ hk]
            refine he o i ?_
            rcases h with h | ⟨h3, h4⟩
            · exact Or.inl h
            · refine Or.inr ⟨h3, ?_⟩
              subst h3
              omega)
        (by
          rintro s ⟨ce, rfl, he⟩
          dsimp only
          unfold f_X3_countClashes_b18
          rw [if_pos (Int32.le_refl _)]
          exact ⟨_, rfl, fun o i h3 h4 => he o i (by omega)⟩)
        (by omega)
      unfold f_X3_countClashes_b7
      rw [if_neg (by rw [z_le] <;> omega), g1, bd2_s, e1]
      exact ⟨_, rfl, _, rfl, g2⟩)
    (by
      rintro s ⟨cc, rfl, hc⟩
      dsimp only
      unfold f_X3_countClashes_b7
      rw [if_pos (Int32.le_refl _)]
      exact ⟨_, rfl, hc⟩)
    (by omega)
  exact ⟨q1, q2, h1, h2⟩
/-- costs as the class holds them -/
def CsRep (cs : Nat → Int32) (c : Nat → Nat → Nat) (S : List Nat) : Prop := (∀ i x, c i x ≤ 10) ∧ S.length ≤ 6 ∧ S.Nodup ∧ (∀ x, x ∈ S → x < 10) ∧ ∀ o i, o < S.length → i < S.length → cs (o * 6 + i) = iZ (c i (S.getD o 0))
def led (c : Nat → Nat → Nat) (a : Nat → Nat) (S : List Nat) (s k : Nat) : Nat := c (S.length - pc s) (S.getD k 0) + a (clr s k)
theorem pc_le {n s : Nat} (hn : n ≤ 6) (hs : s < 2 ^ n) : pc s ≤ n := by
  have h64 : s < 64 := Nat.lt_of_lt_of_le hs (pow_le hn)
  unfold pc
  rw [cntB_ext (n := n) 6 hn (fun k h1 h2 => mk_hi ⟨n, by omega⟩ ⟨s, h64⟩ hs ⟨k, h2⟩ h1)]
  exact cntB_le _ _
theorem ledBy_s {cs an : Nat → Int32} {c : Nat → Nat → Nat} {a : Nat → Nat} {S : List Nat} (hC : CsRep cs c S) {s k : Nat} (hs : s < 2 ^ S.length) (hk : k < S.length) (hb : s.testBit k = true) (ha : an (clr s k) = iZ (a (clr s k))) : f_X3_ledBy (iZ S.length) cs an (iZ s) (iZ k) = some (iZ (led c a S s k)) := by
  have h6 := hC.2.1
  have h64 : s < 64 := Nat.lt_of_lt_of_le hs (pow_le h6)
  have hp := pc_le h6 hs
  obtain ⟨hl, hq⟩ := clr_lt h64 (show k < 6 by omega) hb
  unfold f_X3_ledBy led
  rw [bitc_s h64, bd1_s, show (6 : Int32) = iZ 6 from rfl, z_mul, z_sub, z_add, show (k : Int) * 6 + ((S.length : Int) - (pc s : Int)) = ((k * 6 + (S.length - pc s) : Nat) : Int) by omega, at_n (by omega) (by omega), bd1_s, without_s h64 (by omega), bd1_s, at_n (by omega) (by omega), bd1_s, hC.2.2.2.2 k _ hk (by omega), ha, z_add]
  rfl
theorem fewest_s {cs an : Nat → Int32} {c : Nat → Nat → Nat} {a : Nat → Nat} {S : List Nat} (hC : CsRep cs c S) {s : Nat} (hs : s < 2 ^ S.length) (h0 : 0 < s) (ha : ∀ t, t < s → an t = iZ (a t) ∧ a t ≤ 100) :
    ∃ m, f_X3_fewestOf (iZ S.length) cs an (iZ s) = some (iZ ((m : Nat) : Int)) ∧ (∃ k, k < S.length ∧ s.testBit k = true ∧ led c a S s k = m) ∧ ∀ k, k < S.length → s.testBit k = true → m ≤ led c a S s k := by
  have h6 := hC.2.1
  have h64 : s < 64 := Nat.lt_of_lt_of_le hs (pow_le h6)
  have e1 : ∀ n : Nat, iZ (n : Int) + 1 = iZ ((n + 1 : Nat) : Int) := by intro n; rw [show (1 : Int32) = iZ 1 from rfl, z_add]; rfl
  have hled : ∀ k, k < S.length → s.testBit k = true → led c a S s k ≤ 200 := by
    intro k hk hb
    obtain ⟨hl, hq⟩ := clr_lt h64 (show k < 6 by omega) hb
    have h1 := hC.1 (S.length - pc s) (S.getD k 0)
    have h2 := (ha _ hl).2
    unfold led
    omega
  obtain ⟨⟨q1, q2⟩, g1, g2⟩ := loop_inv (body := fun (q : Int32 × Int32) => f_X3_fewestOf_b5 (iZ S.length) cs an (iZ s) q.1 q.2) (s := ((-6), 0)) (P := fun q => (q.1 = iZ (-6) ∧ ∀ j, j < S.length → s.testBit j = false) ∨ ∃ m : Nat, q.1 = iZ m ∧ (∃ j, j < S.length ∧ s.testBit j = true ∧ led c a S s j = m) ∧ ∀ j, j < S.length → s.testBit j = true → m ≤ led c a S s j)
    (fun k st => ∃ fz, st = (iZ fz, iZ k) ∧ ((fz = -6 ∧ ∀ j, j < k → s.testBit j = false) ∨ ∃ m : Nat, fz = m ∧ (∃ j, j < k ∧ s.testBit j = true ∧ led c a S s j = m) ∧ ∀ j, j < k → s.testBit j = true → m ≤ led c a S s j)) S.length
    ⟨-6, rfl, Or.inl ⟨rfl, fun j h => absurd h (Nat.not_lt_zero j)⟩⟩
    (by
      rintro k hk st ⟨fz, rfl, hI⟩
      dsimp only
      unfold f_X3_fewestOf_b5 f_X3_fewestOf_j46
      rw [if_neg (by rw [z_le] <;> omega), holds_s h64 (by omega), bd1_s, e1]
      by_cases hb : s.testBit k = true
      · have hl := (clr_lt h64 (show k < 6 by omega) hb).1
        have hle := hled k hk hb
        rw [hb, if_pos rfl, if_neg (show ¬ iZ 1 = 0 by decide), ledBy_s hC hs hk hb (ha _ hl).1, bd1_s]
        rcases hI with ⟨rfl, hI⟩ | ⟨m, rfl, ⟨j, j1, j2, j3⟩, hI⟩
        · rw [if_pos (show iZ (-6) = (-6 : Int32) from rfl)]
          refine ⟨_, rfl, _, rfl, Or.inr ⟨_, rfl, ⟨k, by omega, hb, rfl⟩, fun j h1 h2 => ?_⟩⟩
          by_cases hjk : j = k
          · rw [hjk]; exact Nat.le_refl _
          · rw [hI j (by omega)] at h2; cases h2
        · have hm := hled j (by omega) j2
          rw [if_neg (by rw [show (-6 : Int32) = iZ (-6) from rfl, z_eq] <;> omega)]
          by_cases hc : led c a S s k < m
          · rw [if_pos (by rw [z_lt] <;> omega)]
            refine ⟨_, rfl, _, rfl, Or.inr ⟨_, rfl, ⟨k, by omega, hb, rfl⟩, fun i h1 h2 => ?_⟩⟩
            by_cases hjk : i = k
            · rw [hjk]; exact Nat.le_refl _
            · have := hI i (by omega) h2
              omega
          · rw [if_neg (by rw [z_lt] <;> omega)]
            refine ⟨_, rfl, _, rfl, Or.inr ⟨m, rfl, ⟨j, by omega, j2, j3⟩, fun i h1 h2 => ?_⟩⟩
            by_cases hjk : i = k
            · rw [hjk]; omega
            · exact hI i (by omega) h2
      · rw [Bool.not_eq_true] at hb
        rw [hb, if_neg (show ¬ false = true by decide), if_pos (show iZ 0 = 0 from rfl)]
        refine ⟨_, rfl, fz, rfl, ?_⟩
        rcases hI with ⟨rfl, hI⟩ | ⟨m, rfl, ⟨j, j1, j2, j3⟩, hI⟩
        · refine Or.inl ⟨rfl, fun j hj => ?_⟩
          by_cases hjk : j = k
          · rw [hjk]; exact hb
          · exact hI j (by omega)
        · refine Or.inr ⟨m, rfl, ⟨j, by omega, j2, j3⟩, fun i h1 h2 => ?_⟩
          by_cases hjk : i = k
          · rw [hjk, hb] at h2; cases h2
          · exact hI i (by omega) h2)
    (by
      rintro st ⟨fz, rfl, hI⟩
      dsimp only
      unfold f_X3_fewestOf_b5
      rw [if_pos (Int32.le_refl _)]
      refine ⟨_, rfl, ?_⟩
      rcases hI with ⟨rfl, hI⟩ | ⟨m, rfl, hI⟩
      · exact Or.inl ⟨rfl, hI⟩
      · exact Or.inr ⟨m, rfl, hI⟩)
    (by omega)
  unfold f_X3_fewestOf
  dsimp only at g2
  rcases g2 with ⟨-, hI⟩ | ⟨m, rfl, hI⟩
  · have hp := mk_pos ⟨s, h64⟩ h0
    have hz : pc s = 0 := by
      unfold pc
      rw [cntB_congr (q := fun _ => false) 6 (fun k hk => ?_), cntB_false]
      rcases Nat.lt_or_ge k S.length with h | h
      · exact hI k h
      · exact mk_hi ⟨S.length, by omega⟩ ⟨s, h64⟩ hs ⟨k, hk⟩ h
    rw [hz] at hp
    exact absurd hp (Nat.lt_irrefl 0)
  · rw [g1, bd2_s]
    exact ⟨m, rfl, hI⟩
/-- what the class holds for each set: the fewest clashes of its orders in the last places -/
def AnRep (an : Nat → Int32) (a : Nat → Nat) (c : Nat → Nat → Nat) (S : List Nat) (n : Nat) : Prop := ∀ t, t < n → an t = iZ (a t) ∧ IsMin c (S.length - pc t) (ml S t) (a t)
theorem IsMin.le {c : Nat → Nat → Nat} (hc : ∀ i x, c i x ≤ 10) {i : Nat} {S : List Nat} {m : Nat} (h : IsMin c i S m) : m ≤ 10 * S.length := by
  obtain ⟨⟨p, hp, rfl⟩, -⟩ := h
  rw [← hp.length_eq]
  exact tcost_le hc p i
theorem dp_step {cs an : Nat → Int32} {c : Nat → Nat → Nat} {a : Nat → Nat} {S : List Nat} (hC : CsRep cs c S) {s : Nat} (hs : s < 2 ^ S.length) (h0 : 0 < s) (hA : AnRep an a c S s) :
    ∃ m, f_X3_fewestOf (iZ S.length) cs an (iZ s) = some (iZ ((m : Nat) : Int)) ∧ IsMin c (S.length - pc s) (ml S s) m := by
  have h6 := hC.2.1
  have hN := hC.2.2.1
  have h64 : s < 64 := Nat.lt_of_lt_of_le hs (pow_le h6)
  have hle : ∀ t, t < s → an t = iZ (a t) ∧ a t ≤ 100 := by
    intro t ht
    obtain ⟨h1, h2⟩ := hA t ht
    refine ⟨h1, ?_⟩
    have h3 := h2.le hC.1
    rw [len_ml h6 (by omega)] at h3
    have h4 := pc_le h6 (show t < 2 ^ S.length by omega)
    omega
  obtain ⟨m, h1, ⟨k, k1, k2, k3⟩, h3⟩ := fewest_s hC hs h0 hle
  refine ⟨m, h1, ?_⟩
  have hix : ∀ k, k < S.length → S.idxOf (S.getD k 0) = k := fun k hk => idx_of hN (getD_get hk)
  have hp := pc_le h6 hs
  refine IsMin.step (f := fun x => a (clr s (S.idxOf x))) ?_ ⟨S.getD k 0, mem_ml.mpr ⟨k, k1, k2, rfl⟩, ?_⟩ ?_
  · intro x hx
    obtain ⟨j, j1, j2, rfl⟩ := mem_ml.mp hx
    rw [hix j j1]
    obtain ⟨hl, hq⟩ := clr_lt h64 (show j < 6 by omega) j2
    have h4 := ((hA _ hl).2).perm (ml_clr hN h6 h64 j1)
    rw [show S.length - pc s + 1 = S.length - pc (clr s j) by omega]
    exact h4
  · rw [hix k k1]
    exact k3
  · intro x hx
    obtain ⟨j, j1, j2, rfl⟩ := mem_ml.mp hx
    rw [hix j j1]
    exact h3 j j1 j2
theorem countClashes_s {w c d ro pl : Nat → Int32} {W C D : Nat → Nat} {A B S : List Nat} (hT : TownRep w c d W C D) (hR : RowsRep ro pl A B) (hW : Wf A B) {r : Nat} (hr : r < 2) (h6 : S.length ≤ 6) (hN : S.Nodup) (hS : ∀ x, x ∈ S → x < 10) {cr : Nat → Int32} (hcr : ∀ i, i < S.length → cr i = iZ (S.getD i 0)) (cs an : Nat → Int32) :
    ∃ cs' an' a, f_X3_countClashes (iZ S.length) cr cs an w c d ro pl (iZ r) = some (cs', an') ∧ CsRep cs' (cst C W (D 0) (D 1) (rowL A B (1 - r)) r) S ∧ AnRep an' a (cst C W (D 0) (D 1) (rowL A B (1 - r)) r) S (2 ^ S.length) := by
  have e1 : ∀ n : Nat, iZ (n : Int) + 1 = iZ ((n + 1 : Nat) : Int) := by intro n; rw [show (1 : Int32) = iZ 1 from rfl, z_add]; rfl
  obtain ⟨l, cs', h1, h2⟩ := costs_s (C := C) hT hR hW hr h6 hS hcr cs
  have hC : CsRep cs' (cst C W (D 0) (D 1) (rowL A B (1 - r)) r) S := ⟨fun i x => cst_le _ _ _ _ _ _ _ _, h6, hN, hS, h2⟩
  have hp64 := pow_le h6
  have hpos : 0 < 2 ^ S.length := Nat.pow_pos (by omega)
  obtain ⟨⟨q1, q2⟩, g1, a, g2⟩ := loop_inv (body := fun (q : Int32 × (Nat → Int32)) => f_X3_countClashes_b85 (iZ S.length) cs' (iZ ((2 ^ S.length - 1 : Nat) : Int)) q.1 q.2) (s := (1, upd an 0 (iZ ((0 : Nat) : Int)))) (P := fun q => ∃ a, AnRep q.2 a (cst C W (D 0) (D 1) (rowL A B (1 - r)) r) S (2 ^ S.length))
    (fun t st => ∃ an2 a, st = (iZ ((t + 1 : Nat) : Int), an2) ∧ AnRep an2 a (cst C W (D 0) (D 1) (rowL A B (1 - r)) r) S (t + 1)) (2 ^ S.length - 1)
    ⟨_, fun _ => 0, rfl, fun t ht => by
      have : t = 0 := by omega
      subst this
      refine ⟨upd_at _ _ _, ?_⟩
      rw [ml_0]
      exact IsMin.nil _ _⟩
    (by
      rintro t ht st ⟨an2, a, rfl, hA⟩
      dsimp only
      obtain ⟨m, m1, m2⟩ := dp_step hC (s := t + 1) (by omega) (by omega) hA
      unfold f_X3_countClashes_b85
      rw [if_neg (by rw [z_lt] <;> omega), m1, bd1_s, put_n (by omega) (by omega), bd1_s, e1]
      refine ⟨_, rfl, _, fun i => if i = t + 1 then m else a i, rfl, fun i hi => ?_⟩
      by_cases hk : i = t + 1
      · subst hk
        dsimp only
        rw [upd_at, if_pos rfl]
        exact ⟨rfl, m2⟩
      · dsimp only
        rw [upd_ne _ _ hk, if_neg hk]
        exact hA i (by omega))
    (by
      rintro st ⟨an2, a, rfl, hA⟩
      dsimp only
      unfold f_X3_countClashes_b85
      rw [if_pos (by rw [z_lt] <;> omega)]
      rw [show 2 ^ S.length - 1 + 1 = 2 ^ S.length by omega] at hA
      exact ⟨_, rfl, a, hA⟩)
    (by omega)
  refine ⟨cs', q2, a, ?_, hC, g2⟩
  unfold f_X3_countClashes
  rw [h1, bd2_s, all_s h6, bd1_s, show (0 : Int32) = iZ ((0 : Nat) : Int) from rfl, put_n (by omega) (by omega), bd1_s, g1, bd2_s]
theorem answer_s {an : Nat → Int32} {v : Nat} {n : Nat} (hn : n ≤ 6) (h : an (2 ^ n - 1) = iZ v) : f_X3_answerForAll (iZ n) an = some (iZ v) := by
  have := pow_le hn
  unfold f_X3_answerForAll
  rw [all_s hn, bd1_s, at_n (by omega) (by omega), bd1_s, h]
