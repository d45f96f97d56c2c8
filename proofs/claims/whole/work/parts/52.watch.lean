/-- the cell at a beat, of one of row r that sets out at s; 17: not in the street -/
def cellN (r s t : Nat) : Nat := if s ≤ t ∧ t ≤ s + 16 then (if r = 0 then t - s else 16 - (t - s)) else 17
theorem cellN_le (r s t : Nat) : cellN r s t ≤ 17 := by unfold cellN; split; split <;> omega; omega
theorem cellAt_s {r s t : Nat} (hr : r < 2) (hs : s ≤ 1000) (ht : t ≤ 1000) : f_X9_cellAt (iZ r) (iZ s) (iZ t) = some (iZ (cellN r s t)) := by
  have hw : f_X10_within (iZ ((t : Int) - (s : Int))) (iZ 0) (iZ 16) = some (bz (0 ≤ (t : Int) - (s : Int) ∧ (t : Int) - (s : Int) ≤ 16)) := within_z (by omega) (by omega) (by omega) (by omega) (by omega) (by omega)
  unfold f_X9_cellAt cellN
  rw [z_sub, show f_X10_within (iZ ((t : Int) - (s : Int))) 0 16 = _ from hw, bd1_s]
  by_cases h : 0 ≤ (t : Int) - (s : Int) ∧ (t : Int) - (s : Int) ≤ 16
  · rw [if_neg (show ¬ bz (0 ≤ (t : Int) - (s : Int) ∧ (t : Int) - (s : Int) ≤ 16) = 0 from bzN h), if_pos (show s ≤ t ∧ t ≤ s + 16 by omega)]
    by_cases h0 : r = 0
    · rw [if_pos (by rw [h0]; rfl), if_pos h0]
      exact congrArg (fun n : Int => some (iZ n)) (by omega)
    · rw [if_neg (by rw [show (0 : Int32) = iZ 0 from rfl, z_eq] <;> omega), if_neg h0, show (16 : Int32) = iZ 16 from rfl, z_sub]
      exact congrArg (fun n : Int => some (iZ n)) (by omega)
  · rw [if_pos (show bz (0 ≤ (t : Int) - (s : Int) ∧ (t : Int) - (s : Int) ≤ 16) = 0 from bzP h), if_neg (show ¬ (s ≤ t ∧ t ≤ s + 16) by omega)]
    rfl
def soB (N : Nat) (F S : Nat → Nat) (r s : Nat) : Bool := allB (fun j => decide (cellN r s (S j) = F j)) N
theorem allSo_s {N : Nat} {sf ss q : Nat → Int32} {F S : Nat → Nat} (hG : SightsRep N sf ss q F S) {r s : Nat} (hr : r < 2) (hs : s ≤ 1000) : f_X9_allAreSo 8 (iZ N) sf ss (iZ r) (iZ s) = some (if soB N F S r s = true then iZ 1 else iZ 0) := by
  have e1 : ∀ n : Nat, iZ (n : Int) + 1 = iZ ((n + 1 : Nat) : Int) := by intro n; rw [show (1 : Int32) = iZ 1 from rfl, z_add]; rfl
  have hN := hG.1
  obtain ⟨v, g1, g2⟩ := loop_ex (body := fun (q : Int32) => f_X9_allAreSo_b8 8 (iZ N) sf ss (iZ r) (iZ s) q) (s := 0) (P := fun v => (v = .inr 0 ∧ ∃ j, j < N ∧ cellN r s (S j) ≠ F j) ∨ ((∃ x, v = .inl x) ∧ ∀ j, j < N → cellN r s (S j) = F j))
    (fun i st => st = iZ i ∧ ∀ j, j < i → cellN r s (S j) = F j) N
    ⟨rfl, fun j h => absurd h (Nat.not_lt_zero j)⟩
    (by
      rintro i hi st ⟨rfl, hI⟩
      obtain ⟨r1, r2, r3, r4, r5, r6⟩ := hG.2 i hi
      have hc := cellN_le r s (S i)
      unfold f_X9_allAreSo_b8
      rw [if_neg (by rw [z_le] <;> omega), at_n (show i < 8 by omega) (by omega), bd1_s, r2, cellAt_s hr hs (by omega), bd1_s, at_n (show i < 8 by omega) (by omega), bd1_s, r1, e1]
      by_cases h : cellN r s (S i) = F i
      · rw [if_pos (by rw [h])]
        refine Or.inl ⟨_, rfl, rfl, fun j hj => ?_⟩
        by_cases hji : j = i
        · rw [hji]; exact h
        · exact hI j (by omega)
      · rw [if_neg (by rw [z_eq] <;> omega)]
        exact Or.inr ⟨_, rfl, Or.inl ⟨rfl, i, hi, h⟩⟩)
    (by
      rintro st ⟨rfl, hI⟩
      unfold f_X9_allAreSo_b8
      rw [if_pos (Int32.le_refl _)]
      exact ⟨_, rfl, Or.inr ⟨⟨_, rfl⟩, hI⟩⟩)
    (by omega)
  have hso : soB N F S r s = true ↔ ∀ j, j < N → cellN r s (S j) = F j := by
    unfold soB
    rw [allB_iff]
    constructor
    · intro h j hj; exact of_decide_eq_true (h j hj)
    · intro h j hj; exact decide_eq_true (h j hj)
  unfold f_X9_allAreSo
  rw [g1]
  rcases g2 with ⟨rfl, j, h1, h2⟩ | ⟨⟨x, rfl⟩, h⟩
  · rw [if_neg (fun h => h2 (hso.mp h j h1))]; rfl
  · rw [if_pos (hso.mpr h)]; rfl
theorem mk_or10 : ∀ s : Fin 1024, ∀ k : Fin 10, iZ (s.val : Int) ||| ((1 : Int32) <<< (iZ (k.val : Int) &&& 31)) = iZ ((s.val ||| 2 ^ k.val : Nat) : Int) ∧ s.val ||| 2 ^ k.val < 1024 := by decide +kernel
theorem mk_st10 (s k j : Nat) : (s ||| 2 ^ k).testBit j = (s.testBit j || decide (j = k)) := by
  rw [Nat.testBit_or, Nat.testBit_two_pow]
  by_cases h : k = j
  · rw [decide_eq_true h, decide_eq_true h.symm]
  · rw [decide_eq_false h, decide_eq_false (fun e => h e.symm)]
/-- a mask of at most ten bits: those that f says of L -/
def MB {α : Type} (L : List α) (f : α → Nat) (x : Int32) : Prop := ∃ M : Nat, x = iZ M ∧ M < 1024 ∧ ∀ k, k < 10 → (M.testBit k = true ↔ ∃ p, p ∈ L ∧ f p = k)
theorem MB.nil {α : Type} (f : α → Nat) : MB ([] : List α) f 0 := ⟨0, rfl, by omega, fun k _ => ⟨fun h => (by rw [Nat.zero_testBit] at h; cases h), fun ⟨p, hp, _⟩ => (by cases hp)⟩⟩
theorem MB.push {α : Type} {L : List α} {f : α → Nat} {x : Int32} (h : MB L f x) {p : α} (hp : f p < 10) : MB (L ++ [p]) f (x ||| ((1 : Int32) <<< (iZ (f p) &&& 31))) := by
  obtain ⟨M, rfl, h2, h3⟩ := h
  obtain ⟨o1, o2⟩ := mk_or10 ⟨M, h2⟩ ⟨f p, hp⟩
  refine ⟨M ||| 2 ^ f p, o1, o2, fun k hk => ?_⟩
  rw [mk_st10, Bool.or_eq_true, decide_eq_true_iff, h3 k hk]
  constructor
  · rintro (⟨q, q1, q2⟩ | e)
    · exact ⟨q, List.mem_append_left _ q1, q2⟩
    · exact ⟨p, List.mem_append_right _ (List.mem_singleton.mpr rfl), e.symm⟩
  · rintro ⟨q, q1, q2⟩
    rcases List.mem_append.mp q1 with q1 | q1
    · exact Or.inl ⟨q, q1, q2⟩
    · rw [List.mem_singleton.mp q1] at q2
      exact Or.inr q2.symm
theorem MB.uniq {α β : Type} {L : List α} {L' : List β} {f : α → Nat} {g : β → Nat} {x y : Int32} (h : MB L f x) (h' : MB L' g y) (he : ∀ k, k < 10 → ((∃ p, p ∈ L ∧ f p = k) ↔ ∃ p, p ∈ L' ∧ g p = k)) : x = y := by
  obtain ⟨M, rfl, h2, h3⟩ := h
  obtain ⟨M', rfl, h2', h3'⟩ := h'
  have : M = M' := by
    apply Nat.eq_of_testBit_eq
    intro k
    rcases Nat.lt_or_ge k 10 with hk | hk
    · rw [Bool.eq_iff_iff, h3 k hk, h3' k hk]
      exact he k hk
    · have hp : 1024 ≤ 2 ^ k := by
        have := Nat.pow_le_pow_right (n := 2) (by omega) hk
        exact Nat.le_trans (by decide) this
      rw [Nat.testBit_lt_two_pow (by omega), Nat.testBit_lt_two_pow (by omega)]
  rw [this]
def bgC (D : Nat → Nat) (A B : List Nat) (m l : Nat) : Nat := D (rowNo A B m) + (rowL A B (rowNo A B m)).idxOf m + l
def fitC (N : Nat) (F S D : Nat → Nat) (A B : List Nat) (p : Nat × Nat) : Bool := decide (rowNo A B p.1 < 2) && soB N F S (rowNo A B p.1) (bgC D A B p.1 p.2)
def CI (D : Nat → Nat) (A B : List Nat) (L : List (Nat × Nat)) (cn mb lb : Int32) (ra sa : Nat → Int32) : Prop := cn = iZ L.length ∧ MB L (fun p => p.1) mb ∧ MB L (fun p => p.2) lb ∧ ∀ (i : Nat) (p : Nat × Nat), L[i]? = some p → ra i = iZ (rowNo A B p.1) ∧ sa i = iZ (bgC D A B p.1 p.2)
theorem fit_s {d ro pl sf ss q : Nat → Int32} {D : Nat → Nat} {A B : List Nat} {N : Nat} {F S : Nat → Nat} (hd : ∀ r, r < 2 → d r = iZ (D r) ∧ D r ≤ 20) (hR : RowsRep ro pl A B) (hW : Wf A B) (hG : SightsRep N sf ss q F S) (ra sa : Nat → Int32) :
    ∃ cn mb lb ra' sa', f_X9_fit ra sa d ro pl (iZ N) sf ss = some (cn, mb, lb, ra', sa') ∧ CI D A B ((prsM 10).filter (fitC N F S D A B)) cn mb lb ra' sa' := by
  have e1 : ∀ n : Nat, iZ (n : Int) + 1 = iZ ((n + 1 : Nat) : Int) := by intro n; rw [show (1 : Int32) = iZ 1 from rfl, z_add]; rfl
  have hdD : ∀ r, r < 2 → d r = iZ (D r) := fun r hr => (hd r hr).1
  obtain ⟨⟨q0, q1, q2, q3, q4, q5⟩, g1, g2⟩ := loop_inv (body := fun (q : Int32 × Int32 × Int32 × Int32 × (Nat → Int32) × (Nat → Int32)) => f_X9_fit_b22 d ro pl (iZ N) sf ss q.1 q.2.1 q.2.2.1 q.2.2.2.1 q.2.2.2.2.1 q.2.2.2.2.2) (s := (0, 0, 0, 0, ra, sa)) (P := fun q => CI D A B ((prsM 10).filter (fitC N F S D A B)) q.2.1 q.2.2.1 q.2.2.2.1 q.2.2.2.2.1 q.2.2.2.2.2)
    (fun m s => ∃ cn mb lb ra sa, s = (iZ ((m : Nat) : Int), cn, mb, lb, ra, sa) ∧ CI D A B ((prsM m).filter (fitC N F S D A B)) cn mb lb ra sa) 10
    ⟨0, 0, 0, ra, sa, rfl, rfl, MB.nil _, MB.nil _, fun i p h => by cases i <;> cases h⟩
    (by
      rintro m hm s ⟨cn, mb, lb, ra, sa, rfl, hI⟩
      dsimp only
      have hrn := rowNo_le A B m
      have hrow := (hR m hm).1
      unfold f_X9_fit_b22
      rw [show (10 : Int32) = iZ 10 from rfl, if_neg (by rw [z_le] <;> omega), at_n hm (by omega), bd1_s, hrow, prsM_succ, List.filter_append]
      obtain ⟨⟨p0, p1, p2, p3, p4, p5⟩, w1, w2⟩ := loop_ex (body := fun (q : Int32 × Int32 × Int32 × Int32 × (Nat → Int32) × (Nat → Int32)) => f_X9_fit_b43 d ro pl (iZ N) sf ss (iZ m) (iZ (rowNo A B m)) q.1 q.2.1 q.2.2.1 q.2.2.2.1 q.2.2.2.2.1 q.2.2.2.2.2) (s := (0, cn, mb, lb, ra, sa)) (P := fun q => CI D A B ((prsM m).filter (fitC N F S D A B) ++ ((List.range 10).map (fun u => (m, u))).filter (fitC N F S D A B)) q.2.1 q.2.2.1 q.2.2.2.1 q.2.2.2.2.1 q.2.2.2.2.2)
        (fun l s => ∃ cn mb lb ra sa, s = (iZ ((l : Nat) : Int), cn, mb, lb, ra, sa) ∧ CI D A B ((prsM m).filter (fitC N F S D A B) ++ ((List.range l).map (fun u => (m, u))).filter (fitC N F S D A B)) cn mb lb ra sa) 10
        ⟨cn, mb, lb, ra, sa, rfl, by rw [List.range_zero, List.map_nil, List.filter_nil, List.append_nil]; exact hI⟩
        (by
          rintro l hl s ⟨cn, mb, lb, ra, sa, rfl, hI⟩
          dsimp only
          unfold f_X9_fit_b43
          by_cases h2 : rowNo A B m = 2
          · rw [if_pos (by rw [h2]; rfl)]
            refine Or.inr ⟨_, rfl, ?_⟩
            have hno : ∀ n : Nat, ((List.range n).map (fun u => (m, u))).filter (fitC N F S D A B) = [] := by
              intro n
              rw [List.filter_eq_nil_iff]
              intro p hp
              obtain ⟨u, -, rfl⟩ := List.mem_map.mp hp
              unfold fitC
              simp [h2]
            rw [hno] at hI ⊢
            exact hI
          · refine Or.inl ?_
            have hr : rowNo A B m < 2 := by omega
            have hmr := (rowNo_iff hW hr).mp rfl
            have hst := start_s hR hW hdD hr hmr
            have hix := List.idxOf_lt_length_iff.mpr hmr
            have hlr := hW.len (rowNo A B m)
            have hDr := (hd _ hr).2
            have hlen : ((prsM m).filter (fitC N F S D A B) ++ ((List.range l).map (fun u => (m, u))).filter (fitC N F S D A B)).length < 100 := by
              rw [List.length_append]
              have h3 := List.length_filter_le (fitC N F S D A B) (prsM m)
              have h4 := List.length_filter_le (fitC N F S D A B) ((List.range l).map (fun u => (m, u)))
              rw [List.length_map, List.length_range] at h4
              rw [prsM_len] at h3
              omega
            rw [if_neg (by rw [show (2 : Int32) = iZ 2 from rfl, z_eq] <;> omega), if_neg (by rw [show (10 : Int32) = iZ 10 from rfl, z_le] <;> omega), hst, bd1_s, z_add, show ((D (rowNo A B m) + List.idxOf m (rowL A B (rowNo A B m)) : Nat) : Int) + (l : Int) = ((bgC D A B m l : Nat) : Int) from by unfold bgC; omega, allSo_s hG hr (by unfold bgC; omega), bd1_s, e1, List.range_succ, List.map_append, List.filter_append, ← List.append_assoc]
            generalize hL : ((prsM m).filter (fitC N F S D A B) ++ ((List.range l).map (fun u => (m, u))).filter (fitC N F S D A B)) = L at hI hlen ⊢
            obtain ⟨i1, i2, i3, i4⟩ := hI
            by_cases hso : soB N F S (rowNo A B m) (bgC D A B m l) = true
            · have hfit : fitC N F S D A B (m, l) = true := by unfold fitC; rw [decide_eq_true hr, hso]; rfl
              have hone : (List.map (fun u => (m, u)) [l]).filter (fitC N F S D A B) = [(m, l)] := by
                show [(m, l)].filter _ = _
                rw [List.filter_cons_of_pos hfit]
                rfl
              rw [if_pos hso, if_neg (show ¬ iZ 1 = 0 by decide), i1, put_n hlen (by omega), bd1_s, put_n hlen (by omega), bd1_s, e1, hone]
              refine ⟨_, rfl, _, _, _, _, _, rfl, by rw [List.length_append]; rfl, MB.push (p := (m, l)) i2 hm, MB.push (p := (m, l)) i3 hl, fun i p hp => ?_⟩
              rcases Nat.lt_or_ge i L.length with h | h
              · rw [upd_ne _ _ (by omega), upd_ne _ _ (by omega)]
                rw [List.getElem?_append_left h] at hp
                exact i4 i p hp
              · rw [List.getElem?_append_right h] at hp
                obtain ⟨hi1, hi2⟩ := List.getElem?_eq_some_iff.mp hp
                rw [List.length_singleton] at hi1
                have hi3 : i = L.length := by omega
                subst hi3
                rw [upd_at, upd_at]
                simp at hi2
                rw [← hi2]
                exact ⟨rfl, rfl⟩
            · have hfit : ¬ fitC N F S D A B (m, l) = true := by
                intro h
                unfold fitC at h
                rw [Bool.and_eq_true] at h
                exact hso h.2
              have hone : (List.map (fun u => (m, u)) [l]).filter (fitC N F S D A B) = [] := by
                show [(m, l)].filter _ = _
                rw [List.filter_cons_of_neg hfit]
                rfl
              rw [if_neg hso, if_pos (show iZ 0 = 0 from rfl), hone, List.append_nil]
              exact ⟨_, rfl, _, _, _, _, _, rfl, i1, i2, i3, i4⟩)
        (by
          rintro s ⟨cn, mb, lb, ra, sa, rfl, hI⟩
          dsimp only
          unfold f_X9_fit_b43
          by_cases h2 : iZ (rowNo A B m : Int) = 2
          · rw [if_pos h2]
            exact ⟨_, rfl, hI⟩
          · rw [if_neg h2, if_pos (by decide)]
            exact ⟨_, rfl, hI⟩)
        (by omega)
      rw [w1, bd6_s, e1]
      exact ⟨_, rfl, _, _, _, _, _, rfl, w2⟩)
    (by
      rintro s ⟨cn, mb, lb, ra, sa, rfl, hI⟩
      dsimp only
      unfold f_X9_fit_b22
      rw [if_pos (by decide)]
      exact ⟨_, rfl, hI⟩)
    (by omega)
  unfold f_X9_fit
  rw [g1, bd6_s]
  exact ⟨_, _, _, _, _, rfl, g2⟩
