theorem leader_s {body : Int32 × Int32 → Option ((Int32 × Int32) ⊕ (Int32 × Int32))} {P : Nat → Bool} {n : Nat} (hn : n ≤ 6) (hs : ∀ (k : Nat) (l : Int32), k < n → body (l, iZ k) = some (.inl (if P k = true then iZ k else l, iZ ((k : Int) - 1)))) (he : ∀ l : Int32, body (l, iZ (-1)) = some (.inr (l, iZ (-1)))) (hex : ∃ k, k < n ∧ P k = true) :
    ∃ k, k < n ∧ P k = true ∧ (∀ j, j < k → P j = false) ∧ loopN body FU (0, iZ ((n : Int) - 1)) = some (iZ k, iZ (-1)) := by
  obtain ⟨⟨q1, q2⟩, g1, g2⟩ := loop_inv (body := body) (s := (0, iZ ((n : Int) - 1))) (P := fun q => q.2 = iZ (-1) ∧ ((∀ k, k < n → P k = false) ∨ ∃ k, k < n ∧ P k = true ∧ (∀ j, j < k → P j = false) ∧ q.1 = iZ k))
    (fun t st => ∃ l, st = (l, iZ ((n : Int) - 1 - t)) ∧ ((∀ k, n ≤ k + t → k < n → P k = false) ∨ ∃ k, n ≤ k + t ∧ k < n ∧ P k = true ∧ (∀ j, n ≤ j + t → j < k → P j = false) ∧ l = iZ k)) n
    ⟨0, by rw [show ((n : Int) - 1 - ((0 : Nat) : Int)) = (n : Int) - 1 by omega], Or.inl (fun k h1 h2 => by omega)⟩
    (by
      rintro t ht st ⟨l, rfl, hI⟩
      have ek : (n : Int) - 1 - (t : Int) = ((n - 1 - t : Nat) : Int) := by omega
      rw [ek, hs (n - 1 - t) l (by omega)]
      refine ⟨_, rfl, _, Prod.ext rfl (by dsimp only; congr 1; omega), ?_⟩
      by_cases hp : P (n - 1 - t) = true
      · refine Or.inr ⟨n - 1 - t, by omega, by omega, hp, fun j h1 h2 => by omega, if_pos hp⟩
      · rw [if_neg hp]
        rw [Bool.not_eq_true] at hp
        rcases hI with hI | ⟨k, k1, k2, k3, k4, k5⟩
        · refine Or.inl (fun k h1 h2 => ?_)
          by_cases hk : k = n - 1 - t
          · rw [hk]; exact hp
          · exact hI k (by omega) h2
        · refine Or.inr ⟨k, by omega, k2, k3, fun j h1 h2 => ?_, k5⟩
          by_cases hk : j = n - 1 - t
          · rw [hk]; exact hp
          · exact k4 j (by omega) h2)
    (by
      rintro st ⟨l, rfl, hI⟩
      rw [show ((n : Int) - 1 - (n : Int)) = -1 by omega, he]
      refine ⟨_, rfl, rfl, ?_⟩
      rcases hI with hI | ⟨k, k1, k2, k3, k4, k5⟩
      · exact Or.inl (fun k h => hI k (by omega) h)
      · exact Or.inr ⟨k, k2, k3, fun j h => k4 j (by omega) h, k5⟩)
    (by omega)
  obtain ⟨g2, g3⟩ := g2
  dsimp only at g2 g3
  subst g2
  obtain ⟨k, k1, k2⟩ := hex
  rcases g3 with g3 | ⟨k, k1, k2, k3, rfl⟩
  · rw [g3 k k1] at k2; cases k2
  · exact ⟨k, k1, k2, k3, g1⟩
/-- an order that takes the first of a set that may lead, each time -/
def Tr (P : Nat → Nat → Bool) (S : List Nat) : Nat → List Nat → Prop
  | s, [] => pc s = 0
  | s, x :: v => ∃ k, k < S.length ∧ S.getD k 0 = x ∧ s.testBit k = true ∧ P s k = true ∧ (∀ j, j < k → s.testBit j = true → P s j = false) ∧ Tr P S (clr s k) v
theorem numOf_snoc (u : List Nat) (x : Nat) : numOf (u ++ [x]) = 10 * numOf u + x := by
  unfold numOf
  rw [List.foldl_append]
  rfl
theorem greedy_s {body : Int32 × Int32 × Int32 → Option ((Int32 × Int32 × Int32) ⊕ (Int32 × Int32 × Int32))} {P : Nat → Nat → Bool} {S : List Nat} {H : Nat → Prop} (h6 : S.length ≤ 6)
    (hs : ∀ (s m i : Nat), s < 2 ^ S.length → pc s + i = S.length → i < S.length → H s → ∃ k, k < S.length ∧ s.testBit k = true ∧ P s k = true ∧ (∀ j, j < k → s.testBit j = true → P s j = false) ∧ H (clr s k) ∧ body (iZ s, iZ m, iZ i) = some (.inl (iZ (clr s k), iZ ((10 * m + S.getD k 0 : Nat) : Int), iZ ((i + 1 : Nat) : Int))))
    (he : ∀ x y : Int32, body (x, y, iZ S.length) = some (.inr (x, y, iZ S.length))) (hH : H (2 ^ S.length - 1)) :
    ∃ p l, loopN body FU (iZ ((2 ^ S.length - 1 : Nat) : Int), 0, 0) = some (l, iZ (numOf p), iZ S.length) ∧ Tr P S (2 ^ S.length - 1) p := by
  have hfull := mk_full ⟨S.length, by omega⟩
  have hpos : 0 < 2 ^ S.length := Nat.pow_pos (by omega)
  have hp64 := pow_le h6
  obtain ⟨⟨q1, q2, q3⟩, g1, p, g2, g3, g4⟩ := loop_inv (body := body) (s := (iZ ((2 ^ S.length - 1 : Nat) : Int), 0, 0)) (P := fun q => ∃ p, q.2.1 = iZ (numOf p) ∧ q.2.2 = iZ S.length ∧ Tr P S (2 ^ S.length - 1) p)
    (fun i st => ∃ s u, st = (iZ ((s : Nat) : Int), iZ (numOf u), iZ i) ∧ s < 2 ^ S.length ∧ pc s + i = S.length ∧ H s ∧ ∀ v, Tr P S s v → Tr P S (2 ^ S.length - 1) (u ++ v)) S.length
    ⟨2 ^ S.length - 1, [], rfl, by omega, by rw [Nat.add_zero]; exact hfull.2.1, hH, fun v hv => hv⟩
    (by
      rintro i hi st ⟨s, u, rfl, s1, s2, s3, s4⟩
      obtain ⟨k, k1, k2, k3, k4, k5, k6⟩ := hs s (numOf u) i s1 s2 hi s3
      rw [k6]
      obtain ⟨c1, c2⟩ := clr_lt (show s < 64 by omega) (show k < 6 by omega) k2
      refine ⟨_, rfl, clr s k, u ++ [S.getD k 0], by rw [numOf_snoc], by omega, by omega, k5, fun v hv => ?_⟩
      rw [List.append_assoc]
      exact s4 _ ⟨k, k1, rfl, k2, k3, k4, hv⟩)
    (by
      rintro st ⟨s, u, rfl, s1, s2, s3, s4⟩
      rw [he]
      refine ⟨_, rfl, u, rfl, rfl, ?_⟩
      have := s4 [] (show pc s = 0 by omega)
      rwa [List.append_nil] at this)
    (by omega)
  dsimp only at g2 g3
  subst g2 g3
  exact ⟨p, q1, g1, g4⟩
theorem tr_perm {P : Nat → Nat → Bool} {S : List Nat} (h6 : S.length ≤ 6) (hN : S.Nodup) : ∀ (p : List Nat) (s : Nat), s < 2 ^ S.length → Tr P S s p → p.Perm (ml S s) := by
  intro p
  induction p with
  | nil =>
    intro s hs h
    have : (ml S s).length = 0 := by rw [len_ml h6 hs]; exact h
    rw [List.length_eq_zero_iff.mp this]
  | cons x v ih =>
    rintro s hs ⟨k, k1, rfl, k2, k3, k4, k5⟩
    have h64 : s < 64 := Nat.lt_of_lt_of_le hs (pow_le h6)
    have hc := (clr_lt h64 (show k < 6 by omega) k2).1
    have h1 := ih (clr s k) (by omega) k5
    exact (List.Perm.cons _ (h1.trans (ml_clr hN h6 h64 k1))).trans (List.perm_cons_erase (mem_ml.mpr ⟨k, k1, k2, rfl⟩)).symm
theorem tr_first {P : Nat → Nat → Bool} {S : List Nat} (h6 : S.length ≤ 6) (hN : S.Nodup) (hS : ∀ x, x ∈ S → x < 10) (hsort : S.Pairwise (fun x y => x < y)) {Q : Nat → List Nat → Prop}
    (h1 : ∀ (s j : Nat) (w : List Nat), s < 2 ^ S.length → j < S.length → s.testBit j = true → w.Perm (ml S (clr s j)) → Q s (S.getD j 0 :: w) → P s j = true)
    (h2 : ∀ (s k : Nat) (w : List Nat), s < 2 ^ S.length → k < S.length → s.testBit k = true → P s k = true → Q s (S.getD k 0 :: w) → Q (clr s k) w) :
    ∀ (p : List Nat) (s : Nat), s < 2 ^ S.length → Tr P S s p → ∀ q : List Nat, q.Perm (ml S s) → Q s q → numOf p ≤ numOf q := by
  intro p
  induction p with
  | nil =>
    intro s hs h q _ _
    exact Nat.zero_le _
  | cons x v ih =>
    rintro s hs ⟨k, k1, rfl, k2, k3, k4, k5⟩ q hq hQ
    have h64 : s < 64 := Nat.lt_of_lt_of_le hs (pow_le h6)
    have hc := (clr_lt h64 (show k < 6 by omega) k2).1
    have hvp := tr_perm h6 hN v (clr s k) (by omega) k5
    have hlt : ∀ (t : Nat) (u : List Nat), u.Perm (ml S t) → ∀ z, z ∈ u → z < 10 := by
      intro t u hu z hz
      obtain ⟨m, m1, m2, rfl⟩ := mem_ml.mp (hu.mem_iff.mp hz)
      exact hS _ (List.mem_of_getElem? (getD_get m1))
    cases q with
    | nil =>
      have h3 := hq.symm.mem_iff.mp (mem_ml.mpr ⟨k, k1, k2, rfl⟩)
      cases h3
    | cons y w =>
      obtain ⟨j, j1, j2, rfl⟩ := mem_ml.mp (hq.mem_iff.mp List.mem_cons_self)
      have hw : w.Perm (ml S (clr s j)) := ((List.cons_perm_iff_perm_erase.mp hq).2).trans (ml_clr hN h6 h64 j1).symm
      have hlen : w.length = v.length := by
        rw [hw.length_eq, hvp.length_eq]
        have q1 := (clr_lt h64 (show j < 6 by omega) j2)
        have q2 := (clr_lt h64 (show k < 6 by omega) k2)
        rw [len_ml h6 (by omega), len_ml h6 (by omega)]
        omega
      by_cases hjk : j = k
      · subst hjk
        have h3 := ih (clr s j) (by omega) k5 w hw (h2 s j w hs j1 j2 k3 hQ)
        rw [numOf_cons, numOf_cons, hlen]
        omega
      · have hP := h1 s j w hs j1 j2 hw hQ
        have hkj : k < j := by
          rcases Nat.lt_or_ge j k with h | h
          · rw [k4 j h j2] at hP; cases hP
          · omega
        have hlt2 : S.getD k 0 < S.getD j 0 := by
          have := List.pairwise_iff_getElem.mp hsort k j k1 j1 hkj
          rw [List.getD_eq_getElem?_getD, List.getD_eq_getElem?_getD, List.getElem?_eq_getElem k1, List.getElem?_eq_getElem j1]
          exact this
        rw [numOf_cons, numOf_cons, hlen]
        have h5 := numOf_lt v (hlt _ v hvp)
        have h6 : (S.getD k 0 + 1) * 10 ^ v.length ≤ S.getD j 0 * 10 ^ v.length := Nat.mul_le_mul_right _ (by omega)
        rw [Nat.add_mul, Nat.one_mul] at h6
        omega
theorem firstOf_s {cs an cr : Nat → Int32} {c : Nat → Nat → Nat} {a : Nat → Nat} {S : List Nat} (hC : CsRep cs c S) (hA : AnRep an a c S (2 ^ S.length)) (hsort : S.Pairwise (fun x y => x < y)) (hcr : ∀ i, i < S.length → cr i = iZ (S.getD i 0)) :
    ∃ p, f_X3_firstOfFewest (iZ S.length) cr cs an = some (iZ (numOf p)) ∧ p.Perm S ∧ tcost c 0 p = a (2 ^ S.length - 1) ∧ ∀ q : List Nat, q.Perm S → tcost c 0 q ≤ a (2 ^ S.length - 1) → numOf p ≤ numOf q := by
  have h6 := hC.2.1
  have hN := hC.2.2.1
  have hp64 := pow_le h6
  have hpos : 0 < 2 ^ S.length := Nat.pow_pos (by omega)
  have hfull := mk_full ⟨S.length, by omega⟩
  have hix : ∀ k, k < S.length → S.idxOf (S.getD k 0) = k := fun k hk => idx_of hN (getD_get hk)
  have hale : ∀ t, t < 2 ^ S.length → a t ≤ 60 := by
    intro t ht
    have h3 := ((hA t ht).2).le hC.1
    rw [len_ml h6 ht] at h3
    have h4 := pc_le h6 ht
    omega
  have hmin : ∀ s j, s < 2 ^ S.length → j < S.length → s.testBit j = true → a s ≤ led c a S s j := by
    intro s j hs hj hb
    have h64 : s < 64 := by omega
    obtain ⟨c1, c2⟩ := clr_lt h64 (show j < 6 by omega) hb
    obtain ⟨⟨p, p1, p2⟩, -⟩ := (hA (clr s j) (by omega)).2
    have hm := (hA s hs).2.2 (S.getD j 0 :: p) ((List.Perm.cons _ (p1.trans (ml_clr hN h6 h64 hj))).trans (List.perm_cons_erase (mem_ml.mpr ⟨j, hj, hb, rfl⟩)).symm)
    have hp := pc_le h6 hs
    rw [tcost, show S.length - pc s + 1 = S.length - pc (clr s j) by omega, p2] at hm
    exact hm
  have hmex : ∀ s, s < 2 ^ S.length → 0 < pc s → ∃ k, k < S.length ∧ s.testBit k = true ∧ led c a S s k = a s := by
    intro s hs h0
    have h64 : s < 64 := by omega
    obtain ⟨⟨p, p1, p2⟩, -⟩ := (hA s hs).2
    cases p with
    | nil =>
      have := p1.length_eq
      rw [len_ml h6 hs] at this
      simp at this
      omega
    | cons x v =>
      obtain ⟨j, j1, j2, rfl⟩ := mem_ml.mp (p1.mem_iff.mp List.mem_cons_self)
      have hw : v.Perm (ml S (clr s j)) := ((List.cons_perm_iff_perm_erase.mp p1).2).trans (ml_clr hN h6 h64 j1).symm
      obtain ⟨c1, c2⟩ := clr_lt h64 (show j < 6 by omega) j2
      have hm := (hA (clr s j) (by omega)).2.2 v hw
      have hp := pc_le h6 hs
      rw [tcost, show S.length - pc s + 1 = S.length - pc (clr s j) by omega] at p2
      have h1 := hmin s j hs j1 j2
      refine ⟨j, j1, j2, ?_⟩
      unfold led at h1 ⊢
      omega
  obtain ⟨p, l, g1, g2⟩ := greedy_s (body := fun (q : Int32 × Int32 × Int32) => f_X3_firstOfFewest_b9 (iZ S.length) cr cs an q.1 q.2.1 q.2.2) (P := fun s k => decide (led c a S s k = a s)) (H := fun _ => True) h6
    (by
      intro s m i hs hp hi _
      have h64 : s < 64 := by omega
      obtain ⟨k0, k01, k02, k03⟩ := hmex s hs (by omega)
      obtain ⟨k, k1, k2, k3, k4⟩ := leader_s (body := fun (q : Int32 × Int32) => f_X3_firstOfFewest_b28 (iZ S.length) cs an (iZ s) q.1 q.2) (P := fun k => s.testBit k && decide (led c a S s k = a s)) h6
        (by
          intro k l hk
          dsimp only
          have em : iZ (k : Int) + (-1) = iZ ((k : Int) - 1) := by rw [show (-1 : Int32) = iZ (-1) from rfl, z_add]; rfl
          unfold f_X3_firstOfFewest_b28
          rw [if_neg (by rw [show (0 : Int32) = iZ 0 from rfl, z_lt] <;> omega), holds_s h64 (by omega), bd1_s, em]
          by_cases hb : s.testBit k = true
          · obtain ⟨c1, c2⟩ := clr_lt h64 (show k < 6 by omega) hb
            have hl1 := hale (clr s k) (by omega)
            have hl2 := hale s hs
            have hl3 := hC.1 (S.length - pc s) (S.getD k 0)
            have hl4 : led c a S s k ≤ 100 := by unfold led; omega
            rw [hb, if_pos rfl, if_neg (show ¬ iZ 1 = 0 by decide), ledBy_s hC hs hk hb (hA _ (by omega)).1, bd1_s, at_n (by omega) (by omega), bd1_s, (hA s hs).1]
            by_cases he : led c a S s k = a s
            · rw [if_pos (by rw [he]), if_pos (by rw [decide_eq_true he]; rfl)]
            · rw [if_neg (by rw [z_eq] <;> omega), if_neg (by rw [decide_eq_false he]; decide)]
          · rw [Bool.not_eq_true] at hb
            rw [hb, if_neg (show ¬ false = true by decide), if_pos (show iZ 0 = 0 from rfl), if_neg (by rw [Bool.false_and]; decide)])
        (by
          intro l
          dsimp only
          unfold f_X3_firstOfFewest_b28
          rw [if_pos (by decide)])
        ⟨k0, k01, by rw [k02, decide_eq_true k03]; rfl⟩
      rw [Bool.and_eq_true] at k2
      refine ⟨k, k1, k2.1, k2.2, fun j hj hb => ?_, trivial, ?_⟩
      · have := k3 j hj
        rw [hb, Bool.true_and] at this
        exact this
      · dsimp only
        unfold f_X3_firstOfFewest_b9
        rw [if_neg (by rw [z_le] <;> omega), show (1 : Int32) = iZ 1 from rfl, z_sub, k4, bd2_s, at_n (show k < 6 by omega) (by omega), bd1_s, hcr k k1, without_s h64 (by omega), bd1_s, show (10 : Int32) = iZ 10 from rfl, z_mul, z_add, z_add]
        rfl)
    (by
      intro x y
      dsimp only
      unfold f_X3_firstOfFewest_b9
      rw [if_pos (Int32.le_refl _)])
    trivial
  have hpm := tr_perm h6 hN p _ (by omega) g2
  rw [ml_full h6] at hpm
  have hcost : ∀ (p : List Nat) (s : Nat), s < 2 ^ S.length → Tr (fun s k => decide (led c a S s k = a s)) S s p → tcost c (S.length - pc s) p = a s := by
    intro p
    induction p with
    | nil =>
      intro s hs h
      have h0 : (ml S s).length = 0 := by rw [len_ml h6 hs]; exact h
      have h1 := (hA s hs).2
      rw [List.length_eq_zero_iff.mp h0] at h1
      exact (h1.eq (IsMin.nil _ _)).symm
    | cons x v ih =>
      rintro s hs ⟨k, k1, rfl, k2, k3, k4, k5⟩
      obtain ⟨c1, c2⟩ := clr_lt (show s < 64 by omega) (show k < 6 by omega) k2
      have h1 := ih (clr s k) (by omega) k5
      have hp := pc_le h6 hs
      have h3 := of_decide_eq_true k3
      rw [tcost, show S.length - pc s + 1 = S.length - pc (clr s k) by omega, h1]
      exact h3
  have hc0 := hcost p _ (by omega) g2
  have e0 : S.length - pc (2 ^ S.length - 1) = 0 := by
    have : pc (2 ^ S.length - 1) = S.length := hfull.2.1
    omega
  rw [e0] at hc0
  refine ⟨p, ?_, hpm, hc0, ?_⟩
  · unfold f_X3_firstOfFewest
    rw [all_s h6, bd1_s, g1, bd3_s]
  · intro q hq hle
    refine tr_first h6 hN hC.2.2.2.1 hsort (Q := fun s q => tcost c (S.length - pc s) q ≤ a s) ?_ ?_ p _ (by omega) g2 q (by rw [ml_full h6]; exact hq) (by rw [e0]; exact hle)
    · intro s j w hs hj hb hw hQ
      obtain ⟨c1, c2⟩ := clr_lt (show s < 64 by omega) (show j < 6 by omega) hb
      have hp := pc_le h6 hs
      rw [tcost, show S.length - pc s + 1 = S.length - pc (clr s j) by omega] at hQ
      have h1 := (hA (clr s j) (by omega)).2.2 w hw
      have h2 := hmin s j hs hj hb
      rw [decide_eq_true_iff]
      unfold led at h2 ⊢
      omega
    · intro s k w hs hk hb hP hQ
      obtain ⟨c1, c2⟩ := clr_lt (show s < 64 by omega) (show k < 6 by omega) hb
      have hp := pc_le h6 hs
      rw [tcost, show S.length - pc s + 1 = S.length - pc (clr s k) by omega] at hQ
      have h3 := of_decide_eq_true hP
      unfold led at h3
      omega
