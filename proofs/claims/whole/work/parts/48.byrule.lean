theorem loop_ex {σ ρ : Type} {body : σ → Option (σ ⊕ ρ)} {P : ρ → Prop} (I : Nat → σ → Prop) (k : Nat) {s : σ} (h0 : I 0 s) (hs : ∀ i, i < k → ∀ s, I i s → (∃ s', body s = some (.inl s') ∧ I (i + 1) s') ∨ ∃ r, body s = some (.inr r) ∧ P r) (he : ∀ s, I k s → ∃ r, body s = some (.inr r) ∧ P r) (hk : k < 4611686018427387904) : ∃ r, loopN body FU s = some r ∧ P r := by
  have aux : ∀ m j n s, j + m = k → m < n → I j s → ∃ r, loopN body n s = some r ∧ P r := by
    intro m
    induction m with
    | zero =>
      intro j n s hj hn hI
      cases n with
      | zero => omega
      | succ n =>
        rw [Nat.add_zero] at hj
        subst hj
        obtain ⟨r, h1, h2⟩ := he s hI
        unfold loopN
        rw [h1]
        exact ⟨r, rfl, h2⟩
    | succ m ih =>
      intro j n s hj hn hI
      cases n with
      | zero => omega
      | succ n =>
        unfold loopN
        rcases hs j (by omega) s hI with ⟨s', h1, h2⟩ | ⟨r, h1, h2⟩
        · rw [h1]
          exact ih (j + 1) n s' (by omega) (by omega) h2
        · rw [h1]
          exact ⟨r, rfl, h2⟩
  exact aux k 0 FU s (by omega) hk h0
/-- a rule says that y goes ahead of x -/
def bl (N : Nat) (F Z : Nat → Nat) (x y : Nat) : Bool := (List.range N).any (fun i => decide (Z i = x ∧ F i = y))
theorem bl_iff {N : Nat} {F Z : Nat → Nat} {x y : Nat} : bl N F Z x y = true ↔ ∃ i, i < N ∧ Z i = x ∧ F i = y := by
  unfold bl
  rw [List.any_eq_true]
  constructor
  · rintro ⟨i, hi, h⟩; exact ⟨i, List.mem_range.mp hi, of_decide_eq_true h⟩
  · rintro ⟨i, hi, h⟩; exact ⟨i, List.mem_range.mpr hi, decide_eq_true h⟩
def mayB (N : Nat) (F Z : Nat → Nat) (S : List Nat) (s k : Nat) : Bool := (ml S s).all (fun y => !bl N F Z (S.getD k 0) y)
def kpB (N : Nat) (F Z : Nat → Nat) : List Nat → Bool
  | [] => true
  | x :: v => v.all (fun y => !bl N F Z x y) && kpB N F Z v
theorem kpB_iff {N : Nat} {F Z : Nat → Nat} : ∀ p : List Nat, kpB N F Z p = true ↔ p.Pairwise (fun x y => bl N F Z x y = false) := by
  intro p
  induction p with
  | nil => exact ⟨fun _ => List.Pairwise.nil, fun _ => rfl⟩
  | cons x v ih =>
    rw [kpB, Bool.and_eq_true, ih, List.pairwise_cons, List.all_eq_true]
    constructor
    · rintro ⟨h1, h2⟩
      exact ⟨fun y hy => by have := h1 y hy; simpa using this, h2⟩
    · rintro ⟨h1, h2⟩
      exact ⟨fun y hy => by rw [h1 y hy]; rfl, h2⟩
theorem holdsM_s {cr : Nat → Int32} {S : List Nat} (h6 : S.length ≤ 6) (hS : ∀ x, x ∈ S → x < 10) (hcr : ∀ i, i < S.length → cr i = iZ (S.getD i 0)) {s y : Nat} (hs : s < 64) (hy : y < 10) : f_X3_holdsMember (iZ S.length) cr (iZ s) (iZ y) = some (if y ∈ ml S s then iZ 1 else iZ 0) := by
  have e1 : ∀ n : Nat, iZ (n : Int) + 1 = iZ ((n + 1 : Nat) : Int) := by intro n; rw [show (1 : Int32) = iZ 1 from rfl, z_add]; rfl
  obtain ⟨r, g1, g2⟩ := loop_ex (body := fun (q : Int32) => f_X3_holdsMember_b2 (iZ S.length) cr (iZ s) (iZ y) q) (s := 0) (P := fun r => (r = .inr 1 ∧ y ∈ ml S s) ∨ ((∃ v, r = .inl v) ∧ y ∉ ml S s))
    (fun k st => st = iZ k ∧ ∀ j, j < k → s.testBit j = true → S.getD j 0 ≠ y) S.length
    ⟨rfl, fun j h => absurd h (Nat.not_lt_zero j)⟩
    (by
      rintro k hk st ⟨rfl, hI⟩
      have hx : S.getD k 0 < 10 := hS _ (List.mem_of_getElem? (getD_get hk))
      unfold f_X3_holdsMember_b2
      rw [if_neg (by rw [z_le] <;> omega), holds_s hs (by omega), bd1_s, e1, at_n (show k < 6 by omega) (by omega), bd1_s, hcr k hk]
      by_cases hb : s.testBit k = true
      · rw [hb, if_pos rfl, if_neg (show ¬ iZ 1 = 0 by decide)]
        by_cases he : S.getD k 0 = y
        · rw [if_pos (by rw [he])]
          exact Or.inr ⟨_, rfl, Or.inl ⟨rfl, mem_ml.mpr ⟨k, hk, hb, he⟩⟩⟩
        · rw [if_neg (by rw [z_eq] <;> omega)]
          refine Or.inl ⟨_, rfl, rfl, fun j h1 h2 => ?_⟩
          by_cases hjk : j = k
          · rw [hjk]; exact he
          · exact hI j (by omega) h2
      · rw [Bool.not_eq_true] at hb
        rw [hb, if_neg (show ¬ false = true by decide), if_pos (show iZ 0 = 0 from rfl)]
        refine Or.inl ⟨_, rfl, rfl, fun j h1 h2 => ?_⟩
        by_cases hjk : j = k
        · rw [hjk, hb] at h2; cases h2
        · exact hI j (by omega) h2)
    (by
      rintro st ⟨rfl, hI⟩
      unfold f_X3_holdsMember_b2
      rw [if_pos (Int32.le_refl _)]
      refine ⟨_, rfl, Or.inr ⟨⟨_, rfl⟩, fun hm => ?_⟩⟩
      obtain ⟨j, j1, j2, j3⟩ := mem_ml.mp hm
      exact hI j j1 j2 j3)
    (by omega)
  unfold f_X3_holdsMember
  rw [g1]
  rcases g2 with ⟨rfl, h⟩ | ⟨⟨v, rfl⟩, h⟩
  · rw [if_pos h]; rfl
  · rw [if_neg h]; rfl
/-- the rules, as the class holds them -/
def RuC (N : Nat) (rf rs : Nat → Int32) (F Z : Nat → Nat) : Prop := N ≤ 10 ∧ ∀ i, i < N → rf i = iZ (F i) ∧ rs i = iZ (Z i) ∧ F i < 10 ∧ Z i < 10 ∧ F i ≠ Z i
theorem bl_self {N : Nat} {rf rs : Nat → Int32} {F Z : Nat → Nat} (h : RuC N rf rs F Z) (x : Nat) : bl N F Z x x = false := by
  rw [← Bool.not_eq_true, bl_iff]
  rintro ⟨i, h1, h2, h3⟩
  exact (h.2 i h1).2.2.2.2 (by rw [h2, h3])
theorem may_s {cr rf rs : Nat → Int32} {S : List Nat} {N : Nat} {F Z : Nat → Nat} (hU : RuC N rf rs F Z) (h6 : S.length ≤ 6) (hS : ∀ x, x ∈ S → x < 10) (hcr : ∀ i, i < S.length → cr i = iZ (S.getD i 0)) {s k : Nat} (hs : s < 64) (hk : k < S.length) : f_X3_mayLead 10 (iZ S.length) cr (iZ N) rf rs (iZ s) (iZ k) = some (if mayB N F Z S s k = true then iZ 1 else iZ 0) := by
  have e1 : ∀ n : Nat, iZ (n : Int) + 1 = iZ ((n + 1 : Nat) : Int) := by intro n; rw [show (1 : Int32) = iZ 1 from rfl, z_add]; rfl
  have hN := hU.1
  have hx : S.getD k 0 < 10 := hS _ (List.mem_of_getElem? (getD_get hk))
  obtain ⟨r, g1, g2⟩ := loop_ex (body := fun (q : Int32) => f_X3_mayLead_b9 10 (iZ S.length) cr (iZ N) rf rs (iZ s) (iZ k) q) (s := 0) (P := fun r => (r = .inr 0 ∧ ∃ i, i < N ∧ Z i = S.getD k 0 ∧ F i ∈ ml S s) ∨ ((∃ v, r = .inl v) ∧ ∀ i, i < N → Z i = S.getD k 0 → F i ∉ ml S s))
    (fun i st => st = iZ i ∧ ∀ j, j < i → Z j = S.getD k 0 → F j ∉ ml S s) N
    ⟨rfl, fun j h => absurd h (Nat.not_lt_zero j)⟩
    (by
      rintro i hi st ⟨rfl, hI⟩
      obtain ⟨r1, r2, r3, r4, r5⟩ := hU.2 i hi
      unfold f_X3_mayLead_b9
      rw [if_neg (by rw [z_le] <;> omega), at_n (show i < 10 by omega) (by omega), bd1_s, at_n (show k < 6 by omega) (by omega), bd1_s, hcr k hk, r2, at_n (show i < 10 by omega) (by omega), bd1_s, r1, holdsM_s h6 hS hcr hs r3, bd1_s, e1]
      by_cases hz : Z i = S.getD k 0
      · rw [if_pos (by rw [hz])]
        by_cases hm : F i ∈ ml S s
        · rw [if_pos hm, if_neg (show ¬ iZ 1 = 0 by decide)]
          exact Or.inr ⟨_, rfl, Or.inl ⟨rfl, i, hi, hz, hm⟩⟩
        · rw [if_neg hm, if_pos (show iZ 0 = 0 from rfl)]
          refine Or.inl ⟨_, rfl, rfl, fun j h1 h2 => ?_⟩
          by_cases hji : j = i
          · rw [hji]; exact hm
          · exact hI j (by omega) h2
      · rw [if_neg (by rw [z_eq] <;> omega)]
        refine Or.inl ⟨_, rfl, rfl, fun j h1 h2 => ?_⟩
        by_cases hji : j = i
        · rw [hji] at h2; exact absurd h2 hz
        · exact hI j (by omega) h2)
    (by
      rintro st ⟨rfl, hI⟩
      unfold f_X3_mayLead_b9
      rw [if_pos (Int32.le_refl _)]
      exact ⟨_, rfl, Or.inr ⟨⟨_, rfl⟩, hI⟩⟩)
    (by omega)
  have hmay : mayB N F Z S s k = true ↔ ∀ i, i < N → Z i = S.getD k 0 → F i ∉ ml S s := by
    unfold mayB
    rw [List.all_eq_true]
    constructor
    · intro h i h1 h2 h3
      have := h _ h3
      rw [bl_iff.mpr ⟨i, h1, h2, rfl⟩] at this
      cases this
    · intro h y hy
      rw [Bool.not_eq_true']
      rw [← Bool.not_eq_true, bl_iff]
      rintro ⟨i, h1, h2, rfl⟩
      exact h i h1 h2 hy
  unfold f_X3_mayLead
  rw [g1]
  rcases g2 with ⟨rfl, i, h1, h2, h3⟩ | ⟨⟨v, rfl⟩, h⟩
  · rw [if_neg (fun h => hmay.mp h i h1 h2 h3)]; rfl
  · rw [if_pos (hmay.mpr h)]; rfl
/-- how many orders of L keep the rules -/
def nOr (N : Nat) (F Z : Nat → Nat) (L : List Nat) : Nat := (allP L.length L).countP (kpB N F Z)
theorem all_perm {L M : List Nat} (h : L.Perm M) (f : Nat → Bool) : L.all f = M.all f := by
  rw [Bool.eq_iff_iff, List.all_eq_true, List.all_eq_true]
  exact ⟨fun g x hx => g x (h.mem_iff.mpr hx), fun g x hx => g x (h.mem_iff.mp hx)⟩
theorem sum_le {g : Nat → Nat} {c : Nat} : ∀ l : List Nat, (∀ x, x ∈ l → g x ≤ c) → (l.map g).sum ≤ l.length * c := by
  intro l
  induction l with
  | nil => intro _; simp
  | cons a l ih =>
    intro h
    have h1 := ih (fun x hx => h x (List.mem_cons_of_mem _ hx))
    have h2 := h a List.mem_cons_self
    rw [List.map_cons, List.sum_cons, List.length_cons, Nat.succ_mul]
    omega
theorem allP_len : ∀ (n : Nat) (L : List Nat), n ≤ 6 → L.length = n → (allP n L).length ≤ 6 ^ n := by
  intro n
  induction n with
  | zero => intro L _ _; simp [allP]
  | succ n ih =>
    intro L hn hL
    rw [allP, List.length_flatMap]
    refine Nat.le_trans (sum_le (c := 6 ^ n) L (fun x hx => ?_)) ?_
    · rw [List.length_map]
      exact ih _ (by omega) (by rw [List.length_erase_of_mem hx]; omega)
    · rw [hL, Nat.pow_succ, Nat.mul_comm (6 ^ n) 6]
      exact Nat.mul_le_mul_right _ hn
theorem nOr_le (N : Nat) (F Z : Nat → Nat) {L : List Nat} (h : L.length ≤ 6) : nOr N F Z L ≤ 46656 := by
  unfold nOr
  refine Nat.le_trans List.countP_le_length (Nat.le_trans (allP_len _ L h rfl) ?_)
  exact Nat.le_trans (Nat.pow_le_pow_right (by omega) h) (by decide)
theorem nOr_perm {N : Nat} {F Z : Nat → Nat} {L M : List Nat} (h : L.Perm M) (hN : L.Nodup) : nOr N F Z L = nOr N F Z M := by
  unfold nOr
  rw [← h.length_eq]
  exact (allP_perm h rfl hN).countP_eq _
theorem nOr_step {N : Nat} {F Z : Nat → Nat} (hself : ∀ x, bl N F Z x x = false) {L : List Nat} (h0 : 0 < L.length) (hN : L.Nodup) : nOr N F Z L = (L.map (fun x => if (L.all (fun y => !bl N F Z x y)) = true then nOr N F Z (L.erase x) else 0)).sum := by
  obtain ⟨n, hn⟩ : ∃ n, L.length = n + 1 := ⟨L.length - 1, by omega⟩
  have h1 : nOr N F Z L = (allP (n + 1) L).countP (kpB N F Z) := by unfold nOr; rw [hn]
  rw [h1, allP, List.countP_flatMap]
  congr 1
  refine List.map_congr_left (fun x hx => ?_)
  have hl : (L.erase x).length = n := by rw [List.length_erase_of_mem hx]; omega
  rw [Function.comp, List.countP_map]
  have h2 : nOr N F Z (L.erase x) = (allP n (L.erase x)).countP (kpB N F Z) := by unfold nOr; rw [hl]
  rw [h2]
  have hall : ∀ q, q ∈ allP n (L.erase x) → ((kpB N F Z ∘ fun p => x :: p) q = true ↔ (L.all (fun y => !bl N F Z x y)) = true ∧ kpB N F Z q = true) := by
    intro q hq
    have hp := (mem_allP n (L.erase x) hl q).mp hq
    have ea : q.all (fun y => !bl N F Z x y) = (L.erase x).all (fun y => !bl N F Z x y) := all_perm hp _
    have eb : L.all (fun y => !bl N F Z x y) = (L.erase x).all (fun y => !bl N F Z x y) := by
      rw [all_perm (List.perm_cons_erase hx), List.all_cons, hself x]
      rfl
    show (kpB N F Z (x :: q)) = true ↔ _
    rw [kpB, ea, eb, Bool.and_eq_true]
  by_cases hc : (L.all (fun y => !bl N F Z x y)) = true
  · rw [if_pos hc]
    refine List.countP_congr (fun q hq => ?_)
    rw [hall q hq]
    exact ⟨fun h => h.2, fun h => ⟨hc, h⟩⟩
  · rw [if_neg hc, List.countP_eq_zero]
    intro q hq h
    exact hc ((hall q hq).mp h).1
theorem sum_filter (g : Nat → Nat) (f : Nat → Bool) : ∀ n : Nat, (((List.range n).filter f).map g).sum = sumF (fun k => if f k = true then g k else 0) n := by
  intro n
  induction n with
  | zero => rfl
  | succ n ih =>
    rw [List.range_succ, List.filter_append, List.map_append, List.sum_append, ih, sumF]
    congr 1
    by_cases h : f n = true
    · rw [if_pos h, List.filter_cons_of_pos h]
      simp
    · rw [if_neg h, List.filter_cons_of_neg h]
      simp
theorem nOr_ml {N : Nat} {F Z : Nat → Nat} (hself : ∀ x, bl N F Z x x = false) {S : List Nat} (h6 : S.length ≤ 6) (hN : S.Nodup) {s : Nat} (hs : s < 2 ^ S.length) (h0 : 0 < s) : nOr N F Z (ml S s) = sumF (fun k => if s.testBit k = true then (if mayB N F Z S s k = true then nOr N F Z (ml S (clr s k)) else 0) else 0) S.length := by
  have h64 : s < 64 := Nat.lt_of_lt_of_le hs (pow_le h6)
  have hp : 0 < (ml S s).length := by rw [len_ml h6 hs]; exact mk_pos ⟨s, h64⟩ h0
  rw [nOr_step hself hp (nodup_ml hN s)]
  have e : ∀ k, k < S.length → s.testBit k = true → (if ((ml S s).all (fun y => !bl N F Z (S.getD k 0) y)) = true then nOr N F Z ((ml S s).erase (S.getD k 0)) else 0) = (if mayB N F Z S s k = true then nOr N F Z (ml S (clr s k)) else 0) := by
    intro k hk hb
    unfold mayB
    rw [nOr_perm (ml_clr hN h6 h64 hk) (nodup_ml hN _)]
  show (List.map _ (((List.range S.length).filter (fun k => s.testBit k)).map (fun k => S.getD k 0))).sum = _
  rw [List.map_map, sum_filter]
  refine sumF_congr _ (fun k hk => ?_)
  by_cases hb : s.testBit k = true
  · rw [if_pos hb, if_pos hb]
    exact e k hk hb
  · rw [if_neg hb, if_neg hb]
def OrRep (an : Nat → Int32) (N : Nat) (F Z : Nat → Nat) (S : List Nat) (n : Nat) : Prop := ∀ t, t < n → an t = iZ (nOr N F Z (ml S t))
theorem countOrders_s {cr rf rs : Nat → Int32} {S : List Nat} {N : Nat} {F Z : Nat → Nat} (hU : RuC N rf rs F Z) (h6 : S.length ≤ 6) (hN : S.Nodup) (hS : ∀ x, x ∈ S → x < 10) (hcr : ∀ i, i < S.length → cr i = iZ (S.getD i 0)) (an : Nat → Int32) :
    ∃ an', f_X3_countOrders 10 (iZ S.length) cr an (iZ N) rf rs = some an' ∧ OrRep an' N F Z S (2 ^ S.length) := by
  have e1 : ∀ n : Nat, iZ (n : Int) + 1 = iZ ((n + 1 : Nat) : Int) := by intro n; rw [show (1 : Int32) = iZ 1 from rfl, z_add]; rfl
  have hp64 := pow_le h6
  have hpos : 0 < 2 ^ S.length := Nat.pow_pos (by omega)
  obtain ⟨⟨q1, q2⟩, g1, g2⟩ := loop_inv (body := fun (q : Int32 × (Nat → Int32)) => f_X3_countOrders_b16 10 (iZ S.length) cr (iZ N) rf rs (iZ ((2 ^ S.length - 1 : Nat) : Int)) q.1 q.2) (s := (1, upd an 0 (iZ 1))) (P := fun q => OrRep q.2 N F Z S (2 ^ S.length))
    (fun t st => ∃ an2, st = (iZ ((t + 1 : Nat) : Int), an2) ∧ OrRep an2 N F Z S (t + 1)) (2 ^ S.length - 1)
    ⟨_, rfl, fun t ht => by
      have : t = 0 := by omega
      subst this
      rw [upd_at, ml_0]
      rfl⟩
    (by
      rintro t ht st ⟨an2, rfl, hA⟩
      dsimp only
      have h64 : t + 1 < 64 := by omega
      have hsum : loopN (fun (q : Int32 × Int32) => f_X3_countOrders_b27 10 (iZ S.length) cr (iZ N) rf rs (iZ ((t + 1 : Nat) : Int)) an2 q.1 q.2) FU (0, 0) = some (iZ (nOr N F Z (ml S (t + 1))), iZ S.length) := by
        rw [nOr_ml (bl_self hU) h6 hN (by omega) (by omega)]
        refine loop_FU (fun i : Nat => ((iZ (sumF (fun k => if (t + 1).testBit k = true then (if mayB N F Z S (t + 1) k = true then nOr N F Z (ml S (clr (t + 1) k)) else 0) else 0) i) : Int32), (iZ i : Int32))) S.length rfl ?_ ?_ (by omega)
        · intro k hk
          dsimp only
          unfold f_X3_countOrders_b27
          rw [if_neg (by rw [z_le] <;> omega), holds_s h64 (by omega), bd1_s, e1, may_s hU h6 hS hcr h64 hk, bd1_s, sumF]
          by_cases hb : (t + 1).testBit k = true
          · obtain ⟨c1, c2⟩ := clr_lt h64 (show k < 6 by omega) hb
            rw [hb, if_pos rfl, if_neg (show ¬ iZ 1 = 0 by decide), if_pos rfl]
            by_cases hm : mayB N F Z S (t + 1) k = true
            · rw [if_pos hm, if_neg (show ¬ iZ 1 = 0 by decide), without_s h64 (by omega), bd1_s, at_n (by omega) (by omega), bd1_s, hA _ c1, z_add, if_pos hm]
              rfl
            · rw [if_neg hm, if_pos (show iZ 0 = 0 from rfl), if_neg hm]
              rfl
          · rw [Bool.not_eq_true] at hb
            rw [hb, if_neg (show ¬ false = true by decide), if_pos (show iZ 0 = 0 from rfl), if_neg (show ¬ false = true by decide)]
            rfl
        · dsimp only
          unfold f_X3_countOrders_b27
          rw [if_pos (Int32.le_refl _)]
      unfold f_X3_countOrders_b16
      rw [if_neg (by rw [z_lt] <;> omega), hsum, bd2_s, put_n (by omega) (by omega), bd1_s, e1]
      refine ⟨_, rfl, _, rfl, fun i hi => ?_⟩
      by_cases hk : i = t + 1
      · subst hk
        exact upd_at _ _ _
      · rw [upd_ne _ _ hk]
        exact hA i (by omega))
    (by
      rintro st ⟨an2, rfl, hA⟩
      dsimp only
      unfold f_X3_countOrders_b16
      rw [if_pos (by rw [z_lt] <;> omega)]
      rw [show 2 ^ S.length - 1 + 1 = 2 ^ S.length by omega] at hA
      exact ⟨_, rfl, hA⟩)
    (by omega)
  refine ⟨q2, ?_, g2⟩
  unfold f_X3_countOrders
  rw [all_s h6, bd1_s, show (0 : Int32) = iZ ((0 : Nat) : Int) from rfl, put_n (by omega) (by omega), bd1_s]
  rw [show loopN (fun (q : Int32 × (Nat → Int32)) => f_X3_countOrders_b16 10 (iZ S.length) cr (iZ N) rf rs (iZ ((2 ^ S.length - 1 : Nat) : Int)) q.1 q.2) FU (1, upd an 0 1) = _ from g1, bd2_s]
theorem nOr_pos {N : Nat} {F Z : Nat → Nat} {L : List Nat} : 0 < nOr N F Z L ↔ ∃ q : List Nat, q.Perm L ∧ kpB N F Z q = true := by
  unfold nOr
  rw [List.countP_pos_iff]
  constructor
  · rintro ⟨q, h1, h2⟩; exact ⟨q, (mem_allP _ L rfl q).mp h1, h2⟩
  · rintro ⟨q, h1, h2⟩; exact ⟨q, (mem_allP _ L rfl q).mpr h1, h2⟩
theorem firstBy_s {cr an rf rs : Nat → Int32} {S : List Nat} {N : Nat} {F Z : Nat → Nat} (hU : RuC N rf rs F Z) (h6 : S.length ≤ 6) (hN : S.Nodup) (hS : ∀ x, x ∈ S → x < 10) (hsort : S.Pairwise (fun x y => x < y)) (hcr : ∀ i, i < S.length → cr i = iZ (S.getD i 0)) (hA : OrRep an N F Z S (2 ^ S.length)) :
    (nOr N F Z S = 0 ∧ f_X3_firstByRules 10 (iZ S.length) cr an (iZ N) rf rs = some (iZ (-6))) ∨ (0 < nOr N F Z S ∧ ∃ p, f_X3_firstByRules 10 (iZ S.length) cr an (iZ N) rf rs = some (iZ (numOf p)) ∧ p.Perm S ∧ kpB N F Z p = true ∧ ∀ q : List Nat, q.Perm S → kpB N F Z q = true → numOf p ≤ numOf q) := by
  have hp64 := pow_le h6
  have hpos : 0 < 2 ^ S.length := Nat.pow_pos (by omega)
  have hans := answer_s h6 (hA (2 ^ S.length - 1) (by omega))
  rw [ml_full h6] at hans
  have hle := nOr_le N F Z h6
  unfold f_X3_firstByRules
  rw [hans, bd1_s]
  by_cases h0 : nOr N F Z S = 0
  · rw [if_pos (by rw [h0]; rfl)]
    exact Or.inl ⟨h0, rfl⟩
  · rw [if_neg (by rw [show (0 : Int32) = iZ 0 from rfl, z_eq] <;> omega), all_s h6, bd1_s]
    refine Or.inr ⟨by omega, ?_⟩
    have hlead : ∀ s j (w : List Nat), j < S.length → s.testBit j = true → (S.getD j 0 :: w).Perm (ml S s) → kpB N F Z (S.getD j 0 :: w) = true → mayB N F Z S s j = true := by
      intro s j w hj hb hp hk
      unfold mayB
      rw [kpB, Bool.and_eq_true] at hk
      rw [← all_perm hp, List.all_cons, bl_self hU, hk.1]
      rfl
    obtain ⟨p, l, g1, g2⟩ := greedy_s (body := fun (q : Int32 × Int32 × Int32) => f_X3_firstByRules_b20 10 (iZ S.length) cr (iZ N) rf rs q.1 q.2.1 q.2.2) (P := mayB N F Z S) (H := fun s => s < 2 ^ S.length → ∃ q : List Nat, q.Perm (ml S s) ∧ kpB N F Z q = true) h6
      (by
        intro s m i hs hp hi hH
        have h64 : s < 64 := by omega
        obtain ⟨q, q1, q2⟩ := hH hs
        have hex : ∃ k, k < S.length ∧ (s.testBit k && mayB N F Z S s k) = true := by
          cases q with
          | nil =>
            have := q1.length_eq
            rw [len_ml h6 hs] at this
            simp at this
            omega
          | cons y w =>
            obtain ⟨j, j1, j2, rfl⟩ := mem_ml.mp (q1.mem_iff.mp List.mem_cons_self)
            exact ⟨j, j1, by rw [j2, hlead s j w j1 j2 q1 q2]; rfl⟩
        obtain ⟨k, k1, k2, k3, k4⟩ := leader_s (body := fun (q : Int32 × Int32) => f_X3_firstByRules_b40 10 (iZ S.length) cr (iZ N) rf rs (iZ s) q.1 q.2) (P := fun k => s.testBit k && mayB N F Z S s k) h6
          (by
            intro k l hk
            dsimp only
            have em : iZ (k : Int) + (-1) = iZ ((k : Int) - 1) := by rw [show (-1 : Int32) = iZ (-1) from rfl, z_add]; rfl
            unfold f_X3_firstByRules_b40
            rw [if_neg (by rw [show (0 : Int32) = iZ 0 from rfl, z_lt] <;> omega), holds_s h64 (by omega), bd1_s, em, may_s hU h6 hS hcr h64 hk, bd1_s]
            by_cases hb : s.testBit k = true
            · rw [hb, if_pos rfl, if_neg (show ¬ iZ 1 = 0 by decide), Bool.true_and]
              by_cases hm : mayB N F Z S s k = true
              · rw [if_pos hm, if_neg (show ¬ iZ 1 = 0 by decide), if_pos hm]
              · rw [if_neg hm, if_pos (show iZ 0 = 0 from rfl), if_neg hm]
            · rw [Bool.not_eq_true] at hb
              rw [hb, if_neg (show ¬ false = true by decide), if_pos (show iZ 0 = 0 from rfl), if_neg (by rw [Bool.false_and]; decide)])
          (by
            intro l
            dsimp only
            unfold f_X3_firstByRules_b40
            rw [if_pos (by decide)])
          hex
        rw [Bool.and_eq_true] at k2
        refine ⟨k, k1, k2.1, k2.2, fun j hj hb => ?_, fun _ => ?_, ?_⟩
        · have := k3 j hj
          rw [hb, Bool.true_and] at this
          exact this
        · refine ⟨q.erase (S.getD k 0), (q1.erase _).trans (ml_clr hN h6 h64 k1).symm, ?_⟩
          rw [kpB_iff] at q2 ⊢
          exact q2.sublist List.erase_sublist
        · dsimp only
          unfold f_X3_firstByRules_b20
          rw [if_neg (by rw [z_le] <;> omega), show (1 : Int32) = iZ 1 from rfl, z_sub, k4, bd2_s, at_n (show k < 6 by omega) (by omega), bd1_s, hcr k k1, without_s h64 (by omega), bd1_s, show (10 : Int32) = iZ 10 from rfl, z_mul, z_add, z_add]
          rfl)
      (by
        intro x y
        dsimp only
        unfold f_X3_firstByRules_b20
        rw [if_pos (Int32.le_refl _)])
      (fun _ => by rw [ml_full h6]; exact nOr_pos.mp (by omega))
    have hpm := tr_perm h6 hN p _ (by omega) g2
    rw [ml_full h6] at hpm
    have hkp : ∀ (p : List Nat) (s : Nat), s < 2 ^ S.length → Tr (mayB N F Z S) S s p → kpB N F Z p = true := by
      intro p
      induction p with
      | nil => intro _ _ _; rfl
      | cons x v ih =>
        rintro s hs ht
        have hpp := tr_perm h6 hN _ s hs ht
        obtain ⟨k, k1, rfl, k2, k3, k4, k5⟩ := ht
        obtain ⟨c1, c2⟩ := clr_lt (show s < 64 by omega) (show k < 6 by omega) k2
        have h1 := ih (clr s k) (by omega) k5
        unfold mayB at k3
        rw [← all_perm hpp, List.all_cons, Bool.and_eq_true] at k3
        rw [kpB, k3.2, h1]
        rfl
    refine ⟨p, ?_, hpm, hkp p _ (by omega) g2, ?_⟩
    · rw [g1, bd3_s]
    · intro q hq hk
      refine tr_first h6 hN hS hsort (Q := fun s q => kpB N F Z q = true) ?_ ?_ p _ (by omega) g2 q (by rw [ml_full h6]; exact hq) hk
      · intro s j w hs hj hb hw hQ
        refine hlead s j w hj hb ?_ hQ
        exact (List.Perm.cons _ (hw.trans (ml_clr hN h6 (by omega) hj))).trans (List.perm_cons_erase (mem_ml.mpr ⟨j, hj, hb, rfl⟩)).symm
      · intro s k w hs hk hb hP hQ
        rw [kpB, Bool.and_eq_true] at hQ
        exact hQ.2
