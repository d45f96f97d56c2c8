/-! all orders of a list's members, the sum of what its places cost, the least -/
def allP : Nat → List Nat → List (List Nat)
  | 0, _ => [[]]
  | n + 1, S => S.flatMap (fun x => (allP n (S.erase x)).map (fun p => x :: p))
theorem mem_allP : ∀ (n : Nat) (S : List Nat), S.length = n → ∀ p : List Nat, p ∈ allP n S ↔ p.Perm S := by
  intro n
  induction n with
  | zero =>
    intro S hS p
    have h0 : S = [] := List.length_eq_zero_iff.mp hS
    subst h0
    constructor
    · intro h
      have h1 : p = [] := by simpa [allP] using h
      subst h1
      exact List.Perm.refl _
    · intro h
      have h1 : p = [] := List.perm_nil.mp h
      subst h1
      simp [allP]
  | succ n ih =>
    intro S hS p
    unfold allP
    rw [List.mem_flatMap]
    constructor
    · rintro ⟨x, hx, h⟩
      obtain ⟨p', hp', rfl⟩ := List.mem_map.mp h
      have hl : (S.erase x).length = n := by rw [List.length_erase_of_mem hx]; omega
      exact (List.Perm.cons x ((ih _ hl p').mp hp')).trans (List.perm_cons_erase hx).symm
    · intro h
      cases p with
      | nil =>
        have := h.length_eq
        simp at this
        omega
      | cons x p' =>
        obtain ⟨hx, h2⟩ := List.cons_perm_iff_perm_erase.mp h
        have hl : (S.erase x).length = n := by rw [List.length_erase_of_mem hx]; omega
        exact ⟨x, hx, List.mem_map.mpr ⟨p', (ih _ hl p').mpr h2, rfl⟩⟩
theorem nodup_flat {α β : Type} (f : α → List β) : ∀ (S : List α), S.Nodup → (∀ x ∈ S, (f x).Nodup) → (∀ x ∈ S, ∀ y ∈ S, x ≠ y → ∀ b, b ∈ f x → b ∉ f y) → (S.flatMap f).Nodup := by
  intro S
  induction S with
  | nil => intro _ _ _; exact List.nodup_nil
  | cons a S ih =>
    intro h1 h2 h3
    rw [List.flatMap_cons, List.nodup_append]
    have h4 := List.nodup_cons.mp h1
    refine ⟨h2 a List.mem_cons_self, ih h4.2 (fun x hx => h2 x (List.mem_cons_of_mem _ hx)) (fun x hx y hy => h3 x (List.mem_cons_of_mem _ hx) y (List.mem_cons_of_mem _ hy)), ?_⟩
    intro b hb c hc e
    subst e
    obtain ⟨y, hy, hy2⟩ := List.mem_flatMap.mp hc
    exact h3 a List.mem_cons_self y (List.mem_cons_of_mem _ hy) (fun e => h4.1 (e ▸ hy)) b hb hy2
theorem nodup_map_cons (x : Nat) {l : List (List Nat)} (h : l.Nodup) : (l.map (fun p => x :: p)).Nodup := by
  induction l with
  | nil => exact List.nodup_nil
  | cons a l ih =>
    have h4 := List.nodup_cons.mp h
    rw [List.map_cons, List.nodup_cons]
    refine ⟨fun hm => ?_, ih h4.2⟩
    obtain ⟨b, hb, e⟩ := List.mem_map.mp hm
    have e2 : b = a := (List.cons.inj e).2
    exact h4.1 (e2 ▸ hb)
theorem nodup_allP : ∀ (n : Nat) (S : List Nat), S.length = n → S.Nodup → (allP n S).Nodup := by
  intro n
  induction n with
  | zero => intro S _ _; simp [allP]
  | succ n ih =>
    intro S hS hN
    unfold allP
    refine nodup_flat _ S hN (fun x hx => ?_) (fun x hx y hy hxy b hb hc => ?_)
    · exact nodup_map_cons x (ih _ (by rw [List.length_erase_of_mem hx]; omega) (hN.erase x))
    · obtain ⟨p, -, rfl⟩ := List.mem_map.mp hb
      obtain ⟨q, -, e⟩ := List.mem_map.mp hc
      exact hxy (List.cons.inj e).1.symm
theorem allP_perm {n : Nat} {S T : List Nat} (h : S.Perm T) (hn : S.length = n) (hN : S.Nodup) : (allP n S).Perm (allP n T) := by
  have hT : T.length = n := by rw [← h.length_eq]; exact hn
  refine (List.perm_ext_iff_of_nodup (nodup_allP n S hn hN) (nodup_allP n T hT (h.nodup_iff.mp hN))).mpr (fun p => ?_)
  rw [mem_allP n S hn, mem_allP n T hT]
  exact ⟨fun q => q.trans h, fun q => q.trans h.symm⟩
/-- what an order costs from place i on -/
def tcost (c : Nat → Nat → Nat) : Nat → List Nat → Nat
  | _, [] => 0
  | i, x :: p => c i x + tcost c (i + 1) p
/-- m is the least that an order of S costs from place i on -/
def IsMin (c : Nat → Nat → Nat) (i : Nat) (S : List Nat) (m : Nat) : Prop := (∃ p : List Nat, p.Perm S ∧ tcost c i p = m) ∧ ∀ p : List Nat, p.Perm S → m ≤ tcost c i p
theorem IsMin.nil (c : Nat → Nat → Nat) (i : Nat) : IsMin c i [] 0 := ⟨⟨[], List.Perm.refl _, rfl⟩, fun _ _ => Nat.zero_le _⟩
theorem IsMin.eq {c : Nat → Nat → Nat} {i : Nat} {S : List Nat} {m m' : Nat} (h : IsMin c i S m) (h' : IsMin c i S m') : m = m' := by
  obtain ⟨⟨p, hp, e⟩, hm⟩ := h
  obtain ⟨⟨p', hp', e'⟩, hm'⟩ := h'
  have h1 := hm p' hp'
  have h2 := hm' p hp
  omega
theorem IsMin.step {c : Nat → Nat → Nat} {i : Nat} {S : List Nat} {m : Nat} {f : Nat → Nat} (hf : ∀ x ∈ S, IsMin c (i + 1) (S.erase x) (f x)) (h1 : ∃ x ∈ S, c i x + f x = m) (h2 : ∀ x ∈ S, m ≤ c i x + f x) : IsMin c i S m := by
  constructor
  · obtain ⟨x, hx, e⟩ := h1
    obtain ⟨⟨p, hp, e2⟩, -⟩ := hf x hx
    exact ⟨x :: p, (List.Perm.cons x hp).trans (List.perm_cons_erase hx).symm, by rw [tcost, e2]; exact e⟩
  · intro p hp
    cases p with
    | nil =>
      obtain ⟨x, hx, -⟩ := h1
      have := hp.symm.subset hx
      cases this
    | cons x p' =>
      obtain ⟨hx, h3⟩ := List.cons_perm_iff_perm_erase.mp hp
      have h4 := (hf x hx).2 p' h3
      have h5 := h2 x hx
      rw [tcost]
      omega
/-- digits -/
def numOf (p : List Nat) : Nat := p.foldl (fun a x => 10 * a + x) 0
theorem numOf_foldl (p : List Nat) : ∀ a : Nat, p.foldl (fun a x => 10 * a + x) a = a * 10 ^ p.length + numOf p := by
  induction p with
  | nil => intro a; simp [numOf]
  | cons x p ih =>
    intro a
    unfold numOf
    rw [List.foldl_cons, List.foldl_cons, ih (10 * a + x), ih (10 * 0 + x), List.length_cons, Nat.pow_succ]
    have : (10 * a + x) * 10 ^ p.length = a * (10 ^ p.length * 10) + (10 * 0 + x) * 10 ^ p.length := by
      rw [Nat.add_mul, Nat.mul_comm 10 a, Nat.mul_assoc, Nat.mul_comm 10 (10 ^ p.length)]
      simp
    omega
theorem numOf_cons (x : Nat) (p : List Nat) : numOf (x :: p) = x * 10 ^ p.length + numOf p := by
  have h : numOf (x :: p) = p.foldl (fun a x => 10 * a + x) (10 * 0 + x) := rfl
  rw [h, numOf_foldl]
  simp
theorem numOf_lt : ∀ (p : List Nat), (∀ x ∈ p, x < 10) → numOf p < 10 ^ p.length := by
  intro p
  induction p with
  | nil => intro _; simp [numOf]
  | cons x p ih =>
    intro h
    rw [numOf_cons, List.length_cons, Nat.pow_succ]
    have h1 := ih (fun y hy => h y (List.mem_cons_of_mem _ hy))
    have h2 : x < 10 := h x List.mem_cons_self
    have h3 : x * 10 ^ p.length ≤ 9 * 10 ^ p.length := Nat.mul_le_mul_right _ (by omega)
    omega
/-- the first of the least: p costs m, and no order that costs m has a lesser number -/
theorem first_min {c : Nat → Nat → Nat} : ∀ (p : List Nat) (i : Nat), (∀ x ∈ p, x < 10) → (∀ (u : List Nat) (x : Nat) (v : List Nat), p = u ++ x :: v → ∀ y ∈ v, y < x → ∀ q : List Nat, q.Perm ((x :: v).erase y) → tcost c (i + u.length) (x :: v) < c (i + u.length) y + tcost c (i + u.length + 1) q) → ∀ q : List Nat, q.Perm p → tcost c i q ≤ tcost c i p → numOf p ≤ numOf q := by
  intro p
  induction p with
  | nil => intro i _ _ q hq _; rw [List.perm_nil.mp hq]; exact Nat.le_refl _
  | cons x v ih =>
    intro i hd h q hq hc
    cases q with
    | nil => have := hq.length_eq; simp at this
    | cons y w =>
      obtain ⟨hy, hw⟩ := List.cons_perm_iff_perm_erase.mp hq
      by_cases hxy : y = x
      · subst hxy
        rw [List.erase_cons_head] at hw
        rw [numOf_cons, numOf_cons, hw.length_eq]
        have h3 : numOf v ≤ numOf w := by
          refine ih (i + 1) (fun z hz => hd z (List.mem_cons_of_mem _ hz)) ?_ w hw ?_
          · intro u a b e z hz hza q2 hq2
            have h4 := h (y :: u) a b (by rw [e]; rfl) z hz hza q2 hq2
            rw [List.length_cons, show i + (u.length + 1) = i + 1 + u.length by omega] at h4
            exact h4
          · rw [tcost, tcost] at hc
            omega
        omega
      · have hyv : y ∈ v := by
          rcases List.mem_cons.mp hy with e | e
          · exact absurd e hxy
          · exact e
        rcases Nat.lt_or_ge y x with hlt | hge
        · have h4 := h [] x v rfl y hyv hlt w hw
          rw [List.length_nil, Nat.add_zero] at h4
          rw [tcost] at hc
          omega
        · rw [numOf_cons, numOf_cons]
          have hl : w.length = v.length := by
            have := hq.length_eq
            simp at this
            exact this
          rw [hl]
          have h5 := numOf_lt v (fun z hz => hd z (List.mem_cons_of_mem _ hz))
          have h6 : (x + 1) * 10 ^ v.length ≤ y * 10 ^ v.length := Nat.mul_le_mul_right _ (by omega)
          rw [Nat.add_mul, Nat.one_mul] at h6
          omega
