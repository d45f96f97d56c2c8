theorem nodup_len : ∀ (l L : List Nat), l.Nodup → (∀ x, x ∈ l → x ∈ L) → l.length ≤ L.length := by
  intro l
  induction l with
  | nil => intro L _ _; exact Nat.zero_le _
  | cons a l ih =>
    intro L h1 h2
    have h3 := List.nodup_cons.mp h1
    have ha := h2 a List.mem_cons_self
    have h4 := ih (L.erase a) h3.2 (fun x hx => (List.mem_erase_of_ne (fun e : x = a => h3.1 (by rw [← e]; exact hx))).mpr (h2 x (List.mem_cons_of_mem _ hx)))
    rw [List.length_erase_of_mem ha] at h4
    have h5 := List.length_pos_of_mem ha
    rw [List.length_cons]
    omega
def sumF (g : Nat → Nat) : Nat → Nat
  | 0 => 0
  | n + 1 => sumF g n + g n
theorem sumF_congr {g h : Nat → Nat} : ∀ n : Nat, (∀ i, i < n → g i = h i) → sumF g n = sumF h n := by
  intro n
  induction n with
  | zero => intro _; rfl
  | succ n ih => intro e; rw [sumF, sumF, ih (fun i hi => e i (by omega)), e n (by omega)]
theorem sumF_add (g h : Nat → Nat) : ∀ n : Nat, sumF (fun i => g i + h i) n = sumF g n + sumF h n := by
  intro n
  induction n with
  | zero => rfl
  | succ n ih => rw [sumF, sumF, sumF, ih]; omega
theorem sumF_one (x v : Nat) : ∀ n : Nat, sumF (fun i => if i = x then v else 0) n = if x < n then v else 0 := by
  intro n
  induction n with
  | zero => rfl
  | succ n ih =>
    rw [sumF, ih]
    by_cases h : n = x
    · rw [if_pos h, if_neg (by omega), if_pos (by omega), Nat.zero_add]
    · rw [if_neg h, Nat.add_zero]
      by_cases h2 : x < n
      · rw [if_pos h2, if_pos (by omega)]
      · rw [if_neg h2, if_neg (by omega)]
theorem sumF_zero : ∀ n : Nat, sumF (fun _ => 0) n = 0 := by
  intro n
  induction n with
  | zero => rfl
  | succ n ih => rw [sumF, ih]
theorem sum_mem : ∀ (A : List Nat) (h : Nat → Nat), A.Nodup → (∀ a, a ∈ A → a < 10) → sumF (fun a => if a ∈ A then h a else 0) 10 = (A.map h).sum := by
  intro A
  induction A with
  | nil =>
    intro h _ _
    rw [sumF_congr (h := fun _ => 0) 10 (fun i _ => if_neg (List.not_mem_nil)), sumF_zero]
    rfl
  | cons x v ih =>
    intro h hN hL
    have h1 := List.nodup_cons.mp hN
    rw [sumF_congr (h := fun a => (if a = x then h x else 0) + (if a ∈ v then h a else 0)) 10 ?_, sumF_add, sumF_one, if_pos (hL x List.mem_cons_self), ih h h1.2 (fun a ha => hL a (List.mem_cons_of_mem _ ha)), List.map_cons, List.sum_cons]
    intro i _
    by_cases e : i = x
    · subst e
      rw [if_pos List.mem_cons_self, if_pos rfl, if_neg h1.1, Nat.add_zero]
    · rw [if_neg e, Nat.zero_add]
      by_cases e2 : i ∈ v
      · rw [if_pos (List.mem_cons_of_mem _ e2), if_pos e2]
      · rw [if_neg (fun h => (List.mem_cons.mp h).elim e e2), if_neg e2]
theorem tcost_sum (c : Nat → Nat → Nat) : ∀ (A : List Nat) (i : Nat), A.Nodup → tcost c i A = (A.map (fun a => c (i + A.idxOf a) a)).sum := by
  intro A
  induction A with
  | nil => intro i _; rfl
  | cons x v ih =>
    intro i hN
    have h1 := List.nodup_cons.mp hN
    rw [tcost, ih (i + 1) h1.2, List.map_cons, List.sum_cons, List.idxOf_cons_self, Nat.add_zero]
    congr 2
    refine List.map_congr_left (fun a ha => ?_)
    have hne : x ≠ a := fun e => h1.1 (e ▸ ha)
    have e : List.idxOf a (x :: v) = List.idxOf a v + 1 := by rw [List.idxOf_cons, beq_false_of_ne hne]; rfl
    rw [e, show i + 1 + List.idxOf a v = i + (List.idxOf a v + 1) by omega]
theorem prsM_sum (f : Nat × Nat → Bool) : ∀ n : Nat, (prsM n).countP f = sumF (fun a => cntB (fun u => f (a, u)) 10) n := by
  intro n
  induction n with
  | zero => rfl
  | succ n ih => rw [prsM_succ, List.countP_append, countP_pairs, sumF, ih]
theorem prsM_swap (f : Nat × Nat → Bool) : (prsM 10).countP f = (prsM 10).countP (fun p => f (p.2, p.1)) := by
  have h : ((prsM 10).map (fun p => (p.2, p.1))).Perm (prsM 10) := by
    refine (List.perm_ext_iff_of_nodup (nodup_map_on nodup_prsM (fun x _ y _ e => Prod.ext (Prod.mk.inj e).2 (Prod.mk.inj e).1)) nodup_prsM).mpr (fun p => ?_)
    rw [List.mem_map, mem_prsM]
    constructor
    · rintro ⟨q, hq, rfl⟩
      have := mem_prsM.mp hq
      exact ⟨this.2, this.1⟩
    · rintro ⟨h1, h2⟩
      exact ⟨(p.2, p.1), mem_prsM.mpr ⟨h2, h1⟩, rfl⟩
  rw [← h.countP_eq f, List.countP_map]
  rfl
/-- with how many of the other row O it clashes in place i -/
def cst (C W : Nat → Nat) (D0 D1 : Nat) (O : List Nat) (r i x : Nat) : Nat := cntB (fun o => decide (o ∈ O) && (if r = 0 then mtB D0 D1 i (O.idxOf o) && nrB C (spI D0 D1 i (O.idxOf o)) (W x + W o) else mtB D0 D1 (O.idxOf o) i && nrB C (spI D0 D1 (O.idxOf o) i) (W x + W o))) 10
theorem cntB_congr {p q : Nat → Bool} : ∀ n : Nat, (∀ i, i < n → p i = q i) → cntB p n = cntB q n := by
  intro n
  induction n with
  | zero => intro _; rfl
  | succ n ih => intro e; rw [cntB, cntB, ih (fun i hi => e i (by omega)), e n (by omega)]
theorem cntB_false : ∀ n : Nat, cntB (fun _ => false) n = 0 := by
  intro n
  induction n with
  | zero => rfl
  | succ n ih => rw [cntB, ih, if_neg (by decide)]
theorem nCl_prs {C W : Nat → Nat} {D0 D1 : Nat} {A B : List Nat} (hW : Wf A B) : nCl C W D0 D1 A B = (prsM 10).countP (clM C W D0 D1 A B) := (cnt_eq hW (pc := clM C W D0 D1 A B) (pi := clI C W D0 D1 A B) cl_iff).symm
theorem nCl_A {C W : Nat → Nat} {D0 D1 : Nat} {A B : List Nat} (hW : Wf A B) : nCl C W D0 D1 A B = tcost (cst C W D0 D1 B 0) 0 A := by
  rw [nCl_prs hW, prsM_sum, tcost_sum _ _ _ hW.nA, ← sum_mem A _ hW.nA (fun a ha => hW.lt (r := 0) ha)]
  refine sumF_congr 10 (fun a _ => ?_)
  by_cases ha : a ∈ A
  · rw [if_pos ha, Nat.zero_add]
    unfold cst
    refine cntB_congr 10 (fun u _ => ?_)
    unfold clM mtM
    simp only [ha, decide_true, Bool.true_and, if_pos]
    rw [Bool.and_assoc]
  · rw [if_neg ha, cntB_congr (q := fun _ => false) 10 (fun u _ => by unfold clM mtM; simp [ha]), cntB_false]
theorem nCl_B {C W : Nat → Nat} {D0 D1 : Nat} {A B : List Nat} (hW : Wf A B) : nCl C W D0 D1 A B = tcost (cst C W D0 D1 A 1) 0 B := by
  rw [nCl_prs hW, prsM_swap, prsM_sum, tcost_sum _ _ _ hW.nB, ← sum_mem B _ hW.nB (fun a ha => hW.lt (r := 1) ha)]
  refine sumF_congr 10 (fun a _ => ?_)
  by_cases ha : a ∈ B
  · rw [if_pos ha, Nat.zero_add]
    unfold cst
    refine cntB_congr 10 (fun u _ => ?_)
    unfold clM mtM
    simp only [ha, decide_true, Bool.true_and, if_neg (show ¬ (1 : Nat) = 0 by omega)]
    rw [Bool.and_assoc, Nat.add_comm (W u) (W a)]
  · rw [if_neg ha, cntB_congr (q := fun _ => false) 10 (fun u _ => by unfold clM mtM; simp [ha]), cntB_false]
theorem cst_le (C W : Nat → Nat) (D0 D1 : Nat) (O : List Nat) (r i x : Nat) : cst C W D0 D1 O r i x ≤ 10 := cntB_le _ 10
theorem tcost_le {c : Nat → Nat → Nat} (hc : ∀ i x, c i x ≤ 10) : ∀ (p : List Nat) (i : Nat), tcost c i p ≤ 10 * p.length := by
  intro p
  induction p with
  | nil => intro i; exact Nat.zero_le _
  | cons x p ih =>
    intro i
    have h1 := ih (i + 1)
    have h2 := hc i x
    rw [tcost, List.length_cons]
    omega
theorem IsMin.perm {c : Nat → Nat → Nat} {i : Nat} {S T : List Nat} {m : Nat} (h : IsMin c i S m) (hp : S.Perm T) : IsMin c i T m := by
  obtain ⟨⟨p, h1, h2⟩, h3⟩ := h
  exact ⟨⟨p, h1.trans hp, h2⟩, fun q hq => h3 q (hq.trans hp.symm)⟩
/-- a row with its members in another order -/
def setR (A B : List Nat) (r : Nat) (p : List Nat) : List Nat × List Nat := if r = 0 then (p, B) else (A, p)
theorem setR_Wf {A B : List Nat} (hW : Wf A B) {r : Nat} {p : List Nat} (hp : p.Perm (rowL A B r)) : Wf (setR A B r p).1 (setR A B r p).2 := by
  unfold setR
  unfold rowL at hp
  by_cases h0 : r = 0
  · rw [if_pos h0] at hp ⊢
    dsimp only
    have h1 : (p ++ B).Perm (A ++ B) := hp.append_right B
    exact ⟨by rw [hp.length_eq]; exact hW.1, hW.2.1, h1.nodup_iff.mpr hW.2.2.1, fun m hm => hW.2.2.2 m (h1.mem_iff.mp hm)⟩
  · rw [if_neg h0] at hp ⊢
    dsimp only
    have h1 : (A ++ p).Perm (A ++ B) := hp.append_left A
    exact ⟨hW.1, by rw [hp.length_eq]; exact hW.2.1, h1.nodup_iff.mpr hW.2.2.1, fun m hm => hW.2.2.2 m (h1.mem_iff.mp hm)⟩
theorem nCl_set {C W : Nat → Nat} {D0 D1 : Nat} {A B : List Nat} (hW : Wf A B) {r : Nat} (hr : r < 2) {p : List Nat} (hp : p.Perm (rowL A B r)) : nCl C W D0 D1 (setR A B r p).1 (setR A B r p).2 = tcost (cst C W D0 D1 (rowL A B (1 - r)) r) 0 p := by
  have h := setR_Wf hW hp
  rcases (show r = 0 ∨ r = 1 by omega) with rfl | rfl
  · exact nCl_A (A := p) (B := B) h
  · exact nCl_B (A := A) (B := p) h
/-- no rule says that one of the later goes ahead of an earlier; bl x y: a rule says that y goes ahead of x -/
def kps (bl : Nat → Nat → Bool) (p : List Nat) : Prop := p.Pairwise (fun x y => bl x y = false)
theorem first_gen {G : List Nat → Prop} (hG : ∀ x q, G (x :: q) → G q) : ∀ p : List Nat, (∀ x, x ∈ p → x < 10) → (∀ (u : List Nat) (x : Nat) (v : List Nat), p = u ++ x :: v → ∀ y, y ∈ v → y < x → ∀ q : List Nat, q.Perm ((x :: v).erase y) → ¬ G (y :: q)) → ∀ q : List Nat, q.Perm p → G q → numOf p ≤ numOf q := by
  intro p
  induction p with
  | nil => intro _ _ q hq _; rw [List.perm_nil.mp hq]; exact Nat.le_refl _
  | cons x v ih =>
    intro hd h q hq hc
    cases q with
    | nil => have := hq.length_eq; simp at this
    | cons y w =>
      obtain ⟨hy, hw⟩ := List.cons_perm_iff_perm_erase.mp hq
      by_cases hxy : y = x
      · subst hxy
        rw [List.erase_cons_head] at hw
        rw [numOf_cons, numOf_cons, hw.length_eq]
        have h3 : numOf v ≤ numOf w := by
          refine ih (fun z hz => hd z (List.mem_cons_of_mem _ hz)) ?_ w hw (hG _ _ hc)
          intro u a b e z hz hza q2 hq2
          exact h (y :: u) a b (by rw [e]; rfl) z hz hza q2 hq2
        omega
      · have hyv : y ∈ v := by
          rcases List.mem_cons.mp hy with e | e
          · exact absurd e hxy
          · exact e
        rcases Nat.lt_or_ge y x with hlt | hge
        · exact absurd hc (h [] x v rfl y hyv hlt w hw)
        · rw [numOf_cons, numOf_cons]
          have hl : w.length = v.length := by
            have := hq.length_eq
            simp at this
            exact this
          rw [hl]
          have h5 := numOf_lt v (fun z hz => hd z (List.mem_cons_of_mem _ hz))
          have h6 : (x + 1) * 10 ^ v.length ≤ y * 10 ^ v.length := Nat.mul_le_mul_right _ (by omega)
          rw [Nat.add_mul, Nat.one_mul] at h6
          omega
