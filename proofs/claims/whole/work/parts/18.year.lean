theorem loop_inv {σ ρ : Type} {body : σ → Option (σ ⊕ ρ)} {P : ρ → Prop} (I : Nat → σ → Prop) (k : Nat) {s : σ} (h0 : I 0 s) (hs : ∀ i, i < k → ∀ s, I i s → ∃ s', body s = some (.inl s') ∧ I (i + 1) s') (he : ∀ s, I k s → ∃ r, body s = some (.inr r) ∧ P r) (hk : k < 4611686018427387904) : ∃ r, loopN body FU s = some r ∧ P r := by
  have gen : ∀ (n d i : Nat) (s : σ), i + d = k → I i s → d < n → ∃ r, loopN body n s = some r ∧ P r := by
    intro n
    induction n with
    | zero => intro d i s _ _ h; omega
    | succ n ih =>
      intro d i s hd hI hn
      unfold loopN
      cases d with
      | zero =>
        have hik : i = k := by omega
        subst hik
        obtain ⟨r, h1, h2⟩ := he s hI
        rw [h1]
        exact ⟨r, rfl, h2⟩
      | succ d =>
        obtain ⟨s', h1, h2⟩ := hs i (by omega) s hI
        rw [h1]
        exact ih d (i + 1) s' (by omega) h2 (by omega)
  refine gen FU k 0 s (by omega) h0 ?_
  show k < 2 ^ 62
  omega
theorem join0M {bk : Nat → Int32} {A B : List Nat} {b : Nat} (h : BookRep bk A B b) (hW : Wf A B) {m : Nat} (hm : m < 10) (o : Nat) : ∃ bk', f_X11_join bk (iZ m) (iZ 0) = some (iZ (actWhy A B b 100 m o), bk') ∧ BookRep bk' (tryA A B b 100 m o) (tryB A B b 100 m o) (tryb A B b 100 m o) := by
  obtain ⟨bk', h1, h2, h3⟩ := joinM_s (r := 0) h hW (by omega) hm
  have hw : actWhy A B b 100 m o = (if m ∈ A ∨ m ∈ B then 1 else if (rowL A B 0).length < 6 then 0 else 2) := rfl
  refine ⟨bk', by rw [hw]; exact h1, ?_⟩
  unfold tryA tryB tryb
  rw [hw]
  by_cases hin : m ∈ A ∨ m ∈ B
  · rw [if_pos hin, if_neg (by decide), if_neg (by decide), if_neg (by decide), h2 (hin.elim Or.inl (fun h => Or.inr (Or.inl h)))]
    exact h
  · rw [if_neg hin]
    by_cases hl : (rowL A B 0).length < 6
    · rw [if_pos hl, if_pos rfl, if_pos rfl, if_pos rfl]
      exact h3 hin hl
    · rw [if_neg hl, if_neg (by decide), if_neg (by decide), if_neg (by decide), h2 (Or.inr (Or.inr hl))]
      exact h
theorem join1M {bk : Nat → Int32} {A B : List Nat} {b : Nat} (h : BookRep bk A B b) (hW : Wf A B) {m : Nat} (hm : m < 10) (o : Nat) : ∃ bk', f_X11_join bk (iZ m) (iZ 1) = some (iZ (actWhy A B b 117 m o), bk') ∧ BookRep bk' (tryA A B b 117 m o) (tryB A B b 117 m o) (tryb A B b 117 m o) := by
  obtain ⟨bk', h1, h2, h3⟩ := joinM_s (r := 1) h hW (by omega) hm
  have hw : actWhy A B b 117 m o = (if m ∈ A ∨ m ∈ B then 1 else if (rowL A B 1).length < 6 then 0 else 2) := rfl
  refine ⟨bk', by rw [hw]; exact h1, ?_⟩
  unfold tryA tryB tryb
  rw [hw]
  by_cases hin : m ∈ A ∨ m ∈ B
  · rw [if_pos hin, if_neg (by decide), if_neg (by decide), if_neg (by decide), h2 (hin.elim Or.inl (fun h => Or.inr (Or.inl h)))]
    exact h
  · rw [if_neg hin]
    by_cases hl : (rowL A B 1).length < 6
    · rw [if_pos hl, if_pos rfl, if_pos rfl, if_pos rfl]
      exact h3 hin hl
    · rw [if_neg hl, if_neg (by decide), if_neg (by decide), if_neg (by decide), h2 (Or.inr (Or.inr hl))]
      exact h
theorem homeM {bk : Nat → Int32} {A B : List Nat} {b : Nat} (h : BookRep bk A B b) (hW : Wf A B) {m : Nat} (hm : m < 10) (o : Nat) : ∃ bk', f_X11_goHome bk (iZ m) = some (iZ (actWhy A B b 45 m o), bk') ∧ BookRep bk' (tryA A B b 45 m o) (tryB A B b 45 m o) (tryb A B b 45 m o) := by
  obtain ⟨bk', h1, h2, h3⟩ := goHomeM_s h hW hm
  have hw : actWhy A B b 45 m o = (if m ∈ A ∨ m ∈ B then 0 else 1) := rfl
  refine ⟨bk', by rw [hw]; exact h1, ?_⟩
  unfold tryA tryB tryb
  rw [hw]
  by_cases hin : m ∈ A ∨ m ∈ B
  · rw [if_pos hin, if_pos rfl, if_pos rfl, if_pos rfl]
    exact h3 hin
  · rw [if_neg hin, if_neg (by decide), if_neg (by decide), if_neg (by decide), h2 hin]
    exact h
theorem swapM {bk : Nat → Int32} {A B : List Nat} {b : Nat} (h : BookRep bk A B b) (hW : Wf A B) {m o : Nat} (hm : m < 10) (ho : o < 10) : ∃ bk', f_X11_change bk (iZ m) (iZ o) = some (iZ (actWhy A B b 120 m o), bk') ∧ BookRep bk' (tryA A B b 120 m o) (tryB A B b 120 m o) (tryb A B b 120 m o) := by
  obtain ⟨bk', h1, h2, h3⟩ := changeM_s h hW hm ho
  have hw : actWhy A B b 120 m o = (if m ∈ A ∨ m ∈ B then (if o ∈ A ∨ o ∈ B then (if m = o then 3 else 0) else 1) else 1) := rfl
  refine ⟨bk', by rw [hw]; exact h1, ?_⟩
  unfold tryA tryB tryb
  rw [hw]
  by_cases hin : m ∈ A ∨ m ∈ B
  · rw [if_pos hin]
    by_cases hin2 : o ∈ A ∨ o ∈ B
    · rw [if_pos hin2]
      by_cases e : m = o
      · rw [if_pos e, if_neg (by decide), if_neg (by decide), if_neg (by decide), h2 (fun q => q.2.2 e)]
        exact h
      · rw [if_neg e, if_pos rfl, if_pos rfl, if_pos rfl]
        exact h3 hin hin2 e
    · rw [if_neg hin2, if_neg (by decide), if_neg (by decide), if_neg (by decide), h2 (fun q => hin2 q.2.1)]
      exact h
  · rw [if_neg hin, if_neg (by decide), if_neg (by decide), if_neg (by decide), h2 (fun q => hin q.1)]
    exact h
theorem bellM {bk : Nat → Int32} {A B : List Nat} {b : Nat} (h : BookRep bk A B b) (hW : Wf A B) (hb : b ≤ 99) (m o : Nat) : ∃ bk', f_X11_ring bk = some (iZ (actWhy A B b 33 m o), bk') ∧ BookRep bk' (tryA A B b 33 m o) (tryB A B b 33 m o) (tryb A B b 33 m o) := by
  obtain ⟨bk', h1, h2, h3⟩ := ringM_s h hW hb
  have hw : actWhy A B b 33 m o = (if b < 99 then 0 else 4) := rfl
  refine ⟨bk', by rw [hw]; exact h1, ?_⟩
  unfold tryA tryB tryb
  rw [hw]
  by_cases hl : b < 99
  · rw [if_pos hl, if_pos rfl, if_pos rfl, if_pos rfl]
    exact h3 hl
  · rw [if_neg hl, if_neg (by decide), if_neg (by decide), if_neg (by decide), h2 hl]
    exact h
/-! a year's draws -/
def nxD (x : Nat) : Nat := (75 * x + 74) % 65537
def kdD (x : Nat) : Nat := if x / 10 % 8 < 2 then 100 else if x / 10 % 8 < 4 then 117 else if x / 10 % 8 < 6 then 45 else if x / 10 % 8 = 6 then 120 else 33
def yrS : Nat → Nat → List Nat → List Nat → Nat → List Nat × List Nat × Nat
  | 0, _, A, B, b => (A, B, b)
  | n + 1, x, A, B, b => yrS n (nxD x) (tryA A B b (kdD (nxD x)) (nxD x % 10) (nxD x / 80 % 10)) (tryB A B b (kdD (nxD x)) (nxD x % 10) (nxD x / 80 % 10)) (tryb A B b (kdD (nxD x)) (nxD x % 10) (nxD x / 80 % 10))
theorem nxD_lt (x : Nat) : nxD x < 65537 := Nat.mod_lt _ (by omega)
theorem kdD_ok (x : Nat) : AOk (kdD x) (x % 10) (x / 80 % 10) (iZ ((x % 10 : Nat) : Int)) (iZ ((x / 80 % 10 : Nat) : Int)) := by
  refine ⟨?_, fun _ => ⟨rfl, Nat.mod_lt _ (by omega)⟩, fun _ => ⟨rfl, Nat.mod_lt _ (by omega)⟩⟩
  unfold kdD
  split
  · omega
  · split
    · omega
    · split
      · omega
      · split <;> omega
theorem nx_z {x : Nat} (hx : x < 65537) : ((75 : Int32) * iZ x + 74) - ((75 : Int32) * iZ x + 74) / 65537 * 65537 = iZ (nxD x) := by
  rw [show (75 : Int32) = iZ 75 from rfl, show (74 : Int32) = iZ 74 from rfl, show (65537 : Int32) = iZ 65537 from rfl, z_mul, z_add, z_div (by omega) (by omega) (by omega) (by omega), z_rem (by omega) (by omega) (by omega) (by omega)]
  unfold nxD
  congr 1
theorem rem_z {x : Nat} (hx : x < 100000) {d : Nat} (hd : 0 < d) (hd2 : d < 100000) : iZ x - iZ x / iZ d * iZ d = iZ ((x % d : Nat) : Int) := by
  rw [z_div (by omega) (by omega) (by omega) (by omega), z_rem (by omega) (by omega) (by omega) (by omega)]
  rfl
theorem div_z {x : Nat} (hx : x < 100000) {d : Nat} (hd : 0 < d) (hd2 : d < 100000) : iZ x / iZ d = iZ ((x / d : Nat) : Int) := by
  rw [z_div (by omega) (by omega) (by omega) (by omega)]
  rfl
theorem drawn_s {h : Nat} (hh : h < 8) : f_X7_drawnKind (iZ h) = some (iZ ((if h < 2 then 100 else if h < 4 then 117 else if h < 6 then 45 else if h = 6 then 120 else 33 : Nat) : Int)) := by
  have : ∀ h : Fin 8, f_X7_drawnKind (iZ (h.val : Int)) = some (iZ ((if h.val < 2 then 100 else if h.val < 4 then 117 else if h.val < 6 then 45 else if h.val = 6 then 120 else 33 : Nat) : Int)) := by decide +kernel
  exact this ⟨h, hh⟩
theorem drawYear_s {ro pl : Nat → Int32} {A B : List Nat} {b x m : Nat} (hR : RowsRep ro pl A B) (hW : Wf A B) (hb : b ≤ 99) (hx : x < 65537) (hm : m ≤ 99) : ∃ b' ro' pl', f_X7_drawYear (iZ b) ro pl (iZ x) (iZ m) = some (iZ ((yrS m x A B b).2.2 : Nat), ro', pl') ∧ (yrS m x A B b).2.2 = b' ∧ RowsRep ro' pl' (yrS m x A B b).1 (yrS m x A B b).2.1 ∧ Wf (yrS m x A B b).1 (yrS m x A B b).2.1 ∧ b' ≤ 99 := by
  obtain ⟨r, h1, ro', pl', h2, h3, h4, h5⟩ := loop_inv (body := fun (q : Int32 × Int32 × Int32 × (Nat → Int32) × (Nat → Int32)) => f_X7_drawYear_b5 (iZ m) q.1 q.2.1 q.2.2.1 q.2.2.2.1 q.2.2.2.2) (s := (iZ x, 0, iZ b, ro, pl))
    (P := fun r => ∃ ro' pl', (r.2.2 = (iZ ((yrS m x A B b).2.2 : Nat), ro', pl')) ∧ RowsRep ro' pl' (yrS m x A B b).1 (yrS m x A B b).2.1 ∧ Wf (yrS m x A B b).1 (yrS m x A B b).2.1 ∧ (yrS m x A B b).2.2 ≤ 99)
    (fun j s => ∃ (x1 b1 : Nat) (A1 B1 : List Nat) (ro1 pl1 : Nat → Int32), s = (iZ x1, iZ j, iZ b1, ro1, pl1) ∧ RowsRep ro1 pl1 A1 B1 ∧ Wf A1 B1 ∧ b1 ≤ 99 ∧ x1 < 65537 ∧ yrS (m - j) x1 A1 B1 b1 = yrS m x A B b) m
    ⟨x, b, A, B, ro, pl, rfl, hR, hW, hb, hx, rfl⟩
    (by
      rintro j hj s ⟨x1, b1, A1, B1, ro1, pl1, rfl, g1, g2, g3, g4, g5⟩
      dsimp only
      unfold f_X7_drawYear_b5
      have hn := nxD_lt x1
      have hok := kdD_ok (nxD x1)
      obtain ⟨ro2, pl2, h1, h2⟩ := attempt_s g1 g2 g3 hok
      refine ⟨_, ?_, nxD x1, tryb A1 B1 b1 (kdD (nxD x1)) (nxD x1 % 10) (nxD x1 / 80 % 10), _, _, ro2, pl2, rfl, h2, g2.try hok, tryb_le g3, hn, ?_⟩
      · rw [if_neg (by rw [z_le] <;> omega), nx_z g4, nmv_s, show (10 : Int32) = iZ ((10 : Nat) : Int) from rfl, show (8 : Int32) = iZ ((8 : Nat) : Int) from rfl, show (80 : Int32) = iZ ((80 : Nat) : Int) from rfl, div_z (x := nxD x1) (by omega) (by omega) (by omega), rem_z (x := nxD x1 / 10) (by omega) (by omega) (by omega), drawn_s (Nat.mod_lt _ (by omega)), bd1_s, show (iZ ((if nxD x1 / 10 % 8 < 2 then 100 else if nxD x1 / 10 % 8 < 4 then 117 else if nxD x1 / 10 % 8 < 6 then 45 else if nxD x1 / 10 % 8 = 6 then 120 else 33 : Nat) : Int)) = iZ (kdD (nxD x1)) from rfl, div_z (x := nxD x1) (by omega) (by omega) (by omega), rem_z (x := nxD x1 / 80) (by omega) (by omega) (by omega)]
        have e1 : iZ (nxD x1) - iZ ((nxD x1 / 10 : Nat) : Int) * iZ ((10 : Nat) : Int) = iZ ((nxD x1 % 10 : Nat) : Int) := by
          rw [← div_z (x := nxD x1) (d := 10) (by omega) (by omega) (by omega), rem_z (x := nxD x1) (by omega) (by omega) (by omega)]
        rw [e1, h1, bd4_s, show (1 : Int32) = iZ 1 from rfl, z_add]
        rfl
      · rw [← g5, show m - j = (m - (j + 1)) + 1 by omega]
        rfl)
    (by
      rintro s ⟨x1, b1, A1, B1, ro1, pl1, rfl, g1, g2, g3, g4, g5⟩
      dsimp only
      unfold f_X7_drawYear_b5
      rw [Nat.sub_self] at g5
      have g6 : yrS m x A B b = (A1, B1, b1) := g5.symm
      rw [g6]
      refine ⟨(iZ x1, iZ m, iZ b1, ro1, pl1), ?_, ro1, pl1, rfl, g1, g2, g3⟩
      rw [if_pos (by rw [z_le] <;> omega)])
    (by omega)
  refine ⟨_, ro', pl', ?_, rfl, h3, h4, h5⟩
  unfold f_X7_drawYear
  obtain ⟨r1, r2, r3, r4, r5⟩ := r
  have e := Prod.mk.inj h2
  have e2 := Prod.mk.inj e.2
  rw [h1, bd5_s]
  rw [e.1, e2.1, e2.2]
theorem yearLoopM {bk : Nat → Int32} {A B : List Nat} {b x m : Nat} (h : BookRep bk A B b) (hW : Wf A B) (hb : b ≤ 99) (hx : x < 65537) (hm : m ≤ 99) : ∃ x' bk', loopN (fun (q : Int32 × Int32 × (Nat → Int32)) => f_X11_year_b43 (iZ m) q.1 q.2.1 q.2.2) FU (iZ x, 0, bk) = some (x', iZ m, bk') ∧ BookRep bk' (yrS m x A B b).1 (yrS m x A B b).2.1 (yrS m x A B b).2.2 := by
  obtain ⟨r, h1, bk', h2, h3⟩ := loop_inv (body := fun (q : Int32 × Int32 × (Nat → Int32)) => f_X11_year_b43 (iZ m) q.1 q.2.1 q.2.2) (s := (iZ x, 0, bk))
    (P := fun r => ∃ bk', r.2 = (iZ m, bk') ∧ BookRep bk' (yrS m x A B b).1 (yrS m x A B b).2.1 (yrS m x A B b).2.2)
    (fun j s => ∃ (x1 b1 : Nat) (A1 B1 : List Nat) (bk1 : Nat → Int32), s = (iZ x1, iZ j, bk1) ∧ BookRep bk1 A1 B1 b1 ∧ Wf A1 B1 ∧ b1 ≤ 99 ∧ x1 < 65537 ∧ yrS (m - j) x1 A1 B1 b1 = yrS m x A B b) m
    ⟨x, b, A, B, bk, rfl, h, hW, hb, hx, rfl⟩
    (by
      rintro j hj s ⟨x1, b1, A1, B1, bk1, rfl, g1, g2, g3, g4, g5⟩
      dsimp only
      unfold f_X11_year_b43
      have hn := nxD_lt x1
      have hok := kdD_ok (nxD x1)
      have hm10 : nxD x1 % 10 < 10 := Nat.mod_lt _ (by omega)
      have hm10b : nxD x1 / 80 % 10 < 10 := Nat.mod_lt _ (by omega)
      have hh8 : nxD x1 / 10 % 8 < 8 := Nat.mod_lt _ (by omega)
      have fin : ∀ bk2, BookRep bk2 (tryA A1 B1 b1 (kdD (nxD x1)) (nxD x1 % 10) (nxD x1 / 80 % 10)) (tryB A1 B1 b1 (kdD (nxD x1)) (nxD x1 % 10) (nxD x1 / 80 % 10)) (tryb A1 B1 b1 (kdD (nxD x1)) (nxD x1 % 10) (nxD x1 / 80 % 10)) → ∃ (x2 b2 : Nat) (A2 B2 : List Nat) (bk3 : Nat → Int32), (iZ (nxD x1), iZ ((j + 1 : Nat) : Int), bk2) = (iZ x2, iZ ((j + 1 : Nat) : Int), bk3) ∧ BookRep bk3 A2 B2 b2 ∧ Wf A2 B2 ∧ b2 ≤ 99 ∧ x2 < 65537 ∧ yrS (m - (j + 1)) x2 A2 B2 b2 = yrS m x A B b := by
        intro bk2 hbk
        refine ⟨nxD x1, _, _, _, bk2, rfl, hbk, g2.try hok, tryb_le g3, hn, ?_⟩
        rw [← g5, show m - j = (m - (j + 1)) + 1 by omega]
        rfl
      have e1 : iZ (nxD x1) - iZ ((nxD x1 / 10 : Nat) : Int) * iZ ((10 : Nat) : Int) = iZ ((nxD x1 % 10 : Nat) : Int) := by
        rw [← div_z (x := nxD x1) (d := 10) (by omega) (by omega) (by omega), rem_z (x := nxD x1) (by omega) (by omega) (by omega)]
      rw [if_neg (by rw [z_le] <;> omega), nx_z g4, nmv_s, show (10 : Int32) = iZ ((10 : Nat) : Int) from rfl, show (8 : Int32) = iZ ((8 : Nat) : Int) from rfl, show (80 : Int32) = iZ ((80 : Nat) : Int) from rfl, div_z (x := nxD x1) (by omega) (by omega) (by omega), rem_z (x := nxD x1 / 10) (by omega) (by omega) (by omega), nmv_s, e1, div_z (x := nxD x1) (by omega) (by omega) (by omega), rem_z (x := nxD x1 / 80) (by omega) (by omega) (by omega), show (4 : Int32) = iZ 4 from rfl, show (6 : Int32) = iZ 6 from rfl, show (1 : Int32) = iZ 1 from rfl, z_add]
      by_cases c4 : 4 ≤ nxD x1 / 10 % 8
      · rw [if_pos (by rw [z_le] <;> omega)]
        by_cases c6 : 6 ≤ nxD x1 / 10 % 8
        · rw [if_pos (by rw [z_le] <;> omega)]
          by_cases c7 : nxD x1 / 10 % 8 = 6
          · have hk : kdD (nxD x1) = 120 := by unfold kdD; rw [if_neg (by omega), if_neg (by omega), if_neg (by omega), if_pos c7]
            obtain ⟨bk2, q1, q2⟩ := swapM g1 g2 hm10 hm10b
            rw [if_pos (by rw [c7]; rfl), q1, bd2_s]
            refine ⟨_, rfl, fin bk2 ?_⟩
            rw [hk]; exact q2
          · have hk : kdD (nxD x1) = 33 := by unfold kdD; rw [if_neg (by omega), if_neg (by omega), if_neg (by omega), if_neg c7]
            obtain ⟨bk2, q1, q2⟩ := bellM g1 g2 g3 (nxD x1 % 10) (nxD x1 / 80 % 10)
            rw [if_neg (by rw [z_eq] <;> omega), q1, bd2_s]
            refine ⟨_, rfl, fin bk2 ?_⟩
            rw [hk]; exact q2
        · have hk : kdD (nxD x1) = 45 := by unfold kdD; rw [if_neg (by omega), if_neg (by omega), if_pos (by omega)]
          obtain ⟨bk2, q1, q2⟩ := homeM g1 g2 hm10 (nxD x1 / 80 % 10)
          rw [if_neg (by rw [z_le] <;> omega), q1, bd2_s]
          refine ⟨_, rfl, fin bk2 ?_⟩
          rw [hk]; exact q2
      · rw [if_neg (by rw [z_le] <;> omega), show (2 : Int32) = iZ ((2 : Nat) : Int) from rfl, div_z (x := nxD x1 / 10 % 8) (by omega) (by omega) (by omega)]
        by_cases c2 : nxD x1 / 10 % 8 < 2
        · have hk : kdD (nxD x1) = 100 := by unfold kdD; rw [if_pos c2]
          obtain ⟨bk2, q1, q2⟩ := join0M g1 g2 hm10 (nxD x1 / 80 % 10)
          rw [show nxD x1 / 10 % 8 / 2 = 0 by omega, show (iZ ((0 : Nat) : Int)) = iZ 0 from rfl, q1, bd2_s]
          refine ⟨_, rfl, fin bk2 ?_⟩
          rw [hk]; exact q2
        · have hk : kdD (nxD x1) = 117 := by unfold kdD; rw [if_neg c2, if_pos (by omega)]
          obtain ⟨bk2, q1, q2⟩ := join1M g1 g2 hm10 (nxD x1 / 80 % 10)
          rw [show nxD x1 / 10 % 8 / 2 = 1 by omega, show (iZ ((1 : Nat) : Int)) = iZ 1 from rfl, q1, bd2_s]
          refine ⟨_, rfl, fin bk2 ?_⟩
          rw [hk]; exact q2)
    (by
      rintro s ⟨x1, b1, A1, B1, bk1, rfl, g1, g2, g3, g4, g5⟩
      dsimp only
      unfold f_X11_year_b43
      rw [Nat.sub_self] at g5
      have g6 : yrS m x A B b = (A1, B1, b1) := g5.symm
      rw [g6]
      refine ⟨(iZ x1, iZ m, bk1), ?_, bk1, rfl, g1⟩
      rw [if_pos (by rw [z_le] <;> omega)])
    (by omega)
  obtain ⟨r1, r2⟩ := r
  have e : r2 = (iZ m, bk') := h2
  subst e
  exact ⟨r1, bk', h1, h3⟩
