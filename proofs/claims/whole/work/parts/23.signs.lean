theorem loop_inv2 {σ ρ : Type} {body : σ → Option (σ ⊕ ρ)} {P : ρ → Prop} (I : Nat → σ → Prop) (k : Nat) {s : σ} (h0 : I 0 s) (hs : ∀ i, i < k → ∀ s, I i s → (∃ s', body s = some (.inl s') ∧ I (i + 1) s') ∨ (∃ r, body s = some (.inr r) ∧ P r)) (he : ∀ s, I k s → ∃ r, body s = some (.inr r) ∧ P r) (hk : k < 4611686018427387904) : ∃ r, loopN body FU s = some r ∧ P r := by
  have gen : ∀ (n d i : Nat) (s : σ), i + d = k → I i s → d < n → ∃ r, loopN body n s = some r ∧ P r := by
    intro n
    induction n with
    | zero => intro d i s _ _ h; omega
    | succ n ih =>
      intro d i s hd hI hn
      unfold loopN
      cases d with
      | zero =>
        have hik : i = k := by omega
        subst hik
        obtain ⟨r, h1, h2⟩ := he s hI
        rw [h1]
        exact ⟨r, rfl, h2⟩
      | succ d =>
        rcases hs i (by omega) s hI with ⟨s', h1, h2⟩ | ⟨r, h1, h2⟩
        · rw [h1]
          exact ih d (i + 1) s' (by omega) h2 (by omega)
        · rw [h1]
          exact ⟨r, rfl, h2⟩
  refine gen FU k 0 s (by omega) h0 ?_
  show k < 2 ^ 62
  omega
/-! the signs of days -/
def isL (s : Nat) : Bool := decide (65 ≤ s ∧ s ≤ 74)
/-- what is wanted behind a sign: 0 an act, 1 a verb, 2 another letter, 3 nothing: it can not stand there -/
def nxt (st s : Nat) : Nat := if st = 0 then (if s = 33 then 0 else if isL s = true then 1 else 3) else if st = 1 then (if s = 120 then 2 else if s = 100 ∨ s = 117 ∨ s = 45 then 0 else 3) else (if isL s = true then 0 else 3)
def fF (P : Nat → Nat) : Nat → Nat → Nat → Int
  | 0, i, st => if st = 0 then -6 else (i : Int)
  | r + 1, i, st => if nxt st (P i) = 3 then (i : Int) else fF P r (i + 1) (nxt st (P i))
theorem nxt_le (st s : Nat) : nxt st s ≤ 3 := by
  unfold nxt
  repeat' split
  all_goals omega
theorem isLetter_s {s : Nat} (hs : s ≤ 1000) : f_X4_isLetter (iZ s) = some (bz (isL s = true)) := by
  unfold f_X4_isLetter isL
  rw [show (65 : Int32) = iZ 65 from rfl, show (75 : Int32) = iZ 75 from rfl]
  by_cases h1 : s < 65
  · rw [if_pos (by rw [z_lt] <;> omega), bz_f (by simp; omega)]; rfl
  · rw [if_neg (by rw [z_lt] <;> omega)]
    by_cases h2 : 75 ≤ s
    · rw [if_pos (by rw [z_le] <;> omega), bz_f (by simp; omega)]; rfl
    · rw [if_neg (by rw [z_le] <;> omega), bz_t (by simp; omega)]; rfl
theorem isLetterM_s {s : Nat} (hs : s ≤ 1000) : f_X11_isLetter (iZ s) = some (bz (isL s = true)) := by
  unfold f_X11_isLetter isL
  rw [show (65 : Int32) = iZ 65 from rfl, show (74 : Int32) = iZ 74 from rfl, in_z (by omega) (by omega) (by omega) (by omega) (by omega) (by omega), bd1_s]
  by_cases h : 65 ≤ s ∧ s ≤ 74
  · rw [bz_t (by omega), bz_t (by simp; omega)]; rfl
  · rw [bz_f (by omega), bz_f (by simp; omega)]; rfl
theorem eqz {s k : Nat} (hs : s ≤ 1000) (hk : k ≤ 1000) : iZ s = iZ k ↔ s = k := by
  rw [z_eq] <;> omega
theorem verb_s {s : Nat} (hs : s ≤ 1000) : f_X4_endsAsVerb (iZ s) = some (bz (s = 100 ∨ s = 117 ∨ s = 45)) := by
  unfold f_X4_endsAsVerb f_X4_endsAsVerb_j18
  rw [show (100 : Int32) = iZ ((100 : Nat) : Int) from rfl, show (117 : Int32) = iZ ((117 : Nat) : Int) from rfl, show (45 : Int32) = iZ ((45 : Nat) : Int) from rfl]
  by_cases h1 : s = 100
  · rw [if_pos (by rw [h1]), bz_t (Or.inl h1)]; rfl
  · rw [if_neg (by rw [eqz hs (by omega)]; exact h1)]
    by_cases h2 : s = 117
    · rw [if_pos (by rw [h2]), bz_t (Or.inr (Or.inl h2))]; rfl
    · rw [if_neg (by rw [eqz hs (by omega)]; exact h2)]
      by_cases h3 : s = 45
      · rw [if_pos (by rw [h3]), bz_t (Or.inr (Or.inr h3))]; rfl
      · rw [if_neg (by rw [eqz hs (by omega)]; exact h3), bz_f (by omega)]; rfl
theorem bzn {p : Prop} [Decidable p] : bz p = iZ ((0 : Nat) : Int) ↔ ¬ p := bz_0
theorem wants_s {st s : Nat} (hst : st < 3) (hs : s ≤ 1000) : f_X4_wantsAfter (iZ st) (iZ s) = some (iZ (nxt st s)) := by
  unfold f_X4_wantsAfter nxt
  rw [show (0 : Int32) = iZ ((0 : Nat) : Int) from rfl, show (1 : Int32) = iZ ((1 : Nat) : Int) from rfl, show (33 : Int32) = iZ ((33 : Nat) : Int) from rfl, show (120 : Int32) = iZ ((120 : Nat) : Int) from rfl]
  by_cases h0 : st = 0
  · rw [if_pos (by rw [h0]), if_pos h0]
    by_cases h1 : s = 33
    · rw [if_pos (by rw [h1]), if_pos h1]
    · rw [if_neg (by rw [eqz hs (by omega)]; exact h1), if_neg h1, isLetter_s hs, bd1_s]
      by_cases h2 : isL s = true
      · rw [if_neg (fun e => (bzn.mp e) h2), if_pos h2]
      · rw [if_pos (bzn.mpr h2), if_neg h2]; rfl
  · rw [if_neg (by rw [eqz (by omega) (by omega)]; exact h0), if_neg h0]
    by_cases h3 : st = 1
    · rw [if_pos (by rw [h3]), if_pos h3]
      by_cases h1 : s = 120
      · rw [if_pos (by rw [h1]), if_pos h1]; rfl
      · rw [if_neg (by rw [eqz hs (by omega)]; exact h1), if_neg h1, verb_s hs, bd1_s]
        by_cases h2 : s = 100 ∨ s = 117 ∨ s = 45
        · rw [if_neg (fun e => (bzn.mp e) h2), if_pos h2]
        · rw [if_pos (bzn.mpr h2), if_neg h2]; rfl
    · rw [if_neg (by rw [eqz (by omega) (by omega)]; exact h3), if_neg h3, isLetter_s hs, bd1_s]
      by_cases h2 : isL s = true
      · rw [if_neg (fun e => (bzn.mp e) h2), if_pos h2]
      · rw [if_pos (bzn.mpr h2), if_neg h2]; rfl
theorem fault_s {sg : Nat → Int32} {P : Nat → Nat} {n : Nat} (hn : n ≤ 60) (hP : ∀ i, i < n → sg i = iZ (P i) ∧ P i ≤ 200) : f_X4_firstFault (iZ n) sg = some (iZ (fF P n 0 0)) := by
  obtain ⟨r, h1, h2⟩ := loop_inv2 (body := fun (q : Int32 × Int32) => f_X4_firstFault_b4 (iZ n) sg q.1 q.2) (s := (0, 0))
    (P := fun r => (∃ st : Nat, st < 3 ∧ r = .inl (iZ st, iZ n) ∧ fF P 0 n st = fF P n 0 0) ∨ r = .inr (iZ (fF P n 0 0)))
    (fun j s => ∃ st : Nat, st < 3 ∧ s = (iZ st, iZ j) ∧ fF P (n - j) j st = fF P n 0 0) n
    ⟨0, by omega, rfl, rfl⟩
    (by
      rintro j hj s ⟨st, hst, rfl, hf⟩
      obtain ⟨hp1, hp2⟩ := hP j hj
      dsimp only
      unfold f_X4_firstFault_b4
      have hle := nxt_le st (P j)
      rw [show n - j = (n - (j + 1)) + 1 by omega, fF] at hf
      rw [if_neg (by rw [z_le] <;> omega), at_n (by omega) (by omega), bd1_s, hp1, wants_s hst (by omega), bd1_s, show (3 : Int32) = iZ ((3 : Nat) : Int) from rfl]
      by_cases h3 : nxt st (P j) = 3
      · rw [if_pos h3] at hf
        rw [if_pos (by rw [h3])]
        exact Or.inr ⟨_, rfl, Or.inr (by rw [← hf])⟩
      · rw [if_neg h3] at hf
        rw [if_neg (by rw [eqz (by omega) (by omega)]; exact h3)]
        refine Or.inl ⟨_, rfl, nxt st (P j), by omega, ?_, hf⟩
        rw [show (1 : Int32) = iZ 1 from rfl, z_add]
        rfl)
    (by
      rintro s ⟨st, hst, rfl, hf⟩
      dsimp only
      unfold f_X4_firstFault_b4
      rw [Nat.sub_self] at hf
      refine ⟨.inl (iZ st, iZ n), ?_, Or.inl ⟨st, hst, rfl, hf⟩⟩
      rw [if_pos (by rw [z_le] <;> omega)])
    (by omega)
  unfold f_X4_firstFault
  rw [h1]
  rcases h2 with ⟨st, hst, rfl, hf⟩ | rfl
  · rw [bdr_l, ← hf, fF]
    dsimp only
    rw [show (0 : Int32) = iZ ((0 : Nat) : Int) from rfl]
    by_cases h0 : st = 0
    · rw [if_pos (by rw [h0]), if_pos h0]; rfl
    · rw [if_neg (by rw [eqz (by omega) (by omega)]; exact h0), if_neg h0]
  · rw [bdr_r]
theorem faultM_s {sg : Nat → Int32} {P : Nat → Nat} {n : Nat} (hn : n ≤ 60) (hP : ∀ i, i < n → sg i = iZ (P i) ∧ P i ≤ 200) : f_X11_faultOf (iZ n) sg = some (iZ (fF P n 0 0)) := by
  have step : ∀ j : Nat, j < n → ∀ st : Nat, st < 3 → f_X11_faultOf_b4 (iZ n) sg (iZ st) (iZ j) = if nxt st (P j) = 3 then some (.inr (.inr (iZ j))) else some (.inl (iZ (nxt st (P j)), iZ ((j + 1 : Nat) : Int))) := by
    intro j hj st hst
    obtain ⟨hp1, hp2⟩ := hP j hj
    have e1 : iZ (j : Int) + 1 = iZ ((j + 1 : Nat) : Int) := by rw [show (1 : Int32) = iZ 1 from rfl, z_add]; rfl
    unfold f_X11_faultOf_b4 f_X11_faultOf_j36 f_X11_faultOf_j80 f_X11_faultOf_j85 f_X11_faultOf_j127 f_X11_faultOf_j128
    rw [if_neg (by rw [z_le] <;> omega), gd_z (by omega) (by omega) (by omega), z_cl (by omega) (by omega), Int.toNat_natCast, hp1, e1, show (0 : Int32) = iZ ((0 : Nat) : Int) from rfl, show (1 : Int32) = iZ ((1 : Nat) : Int) from rfl, show (2 : Int32) = iZ ((2 : Nat) : Int) from rfl, show (33 : Int32) = iZ ((33 : Nat) : Int) from rfl, show (120 : Int32) = iZ ((120 : Nat) : Int) from rfl, show (100 : Int32) = iZ ((100 : Nat) : Int) from rfl, show (117 : Int32) = iZ ((117 : Nat) : Int) from rfl, show (45 : Int32) = iZ ((45 : Nat) : Int) from rfl, isLetterM_s (by omega), bd1_s]
    have kp : ∀ k : Nat, k ≤ 1000 → (iZ (P j : Int) = iZ (k : Int)) = (P j = k) := fun k hk => propext (eqz (by omega) hk)
    have ks : ∀ k : Nat, k ≤ 1000 → (iZ (st : Int) = iZ (k : Int)) = (st = k) := fun k hk => propext (eqz (by omega) hk)
    have k10 : (iZ ((1 : Nat) : Int) = iZ ((0 : Nat) : Int)) = (1 = 0) := propext (eqz (by omega) (by omega))
    simp only [ks 0 (by omega), ks 1 (by omega), ks 2 (by omega), kp 33 (by omega), kp 120 (by omega), kp 100 (by omega), kp 117 (by omega), kp 45 (by omega), bzn, k10]
    have hL : isL (P j) = true ↔ (65 ≤ P j ∧ P j ≤ 74) := by unfold isL; exact decide_eq_true_iff
    unfold nxt
    simp only [hL]
    generalize P j = x
    have hst3 : st = 0 ∨ st = 1 ∨ st = 2 := by omega
    by_cases c1 : x = 33
    · subst c1; rcases hst3 with rfl | rfl | rfl <;> rfl
    · by_cases c2 : x = 120
      · subst c2; rcases hst3 with rfl | rfl | rfl <;> rfl
      · by_cases c3 : x = 100
        · subst c3; rcases hst3 with rfl | rfl | rfl <;> rfl
        · by_cases c4 : x = 117
          · subst c4; rcases hst3 with rfl | rfl | rfl <;> rfl
          · by_cases c5 : x = 45
            · subst c5; rcases hst3 with rfl | rfl | rfl <;> rfl
            · by_cases c6 : 65 ≤ x ∧ x ≤ 74
              · rcases hst3 with rfl | rfl | rfl <;> first | (simp [c1, c2, c3, c4, c5, c6]; done) | (simp [c1, c2, c3, c4, c5, c6]; rw [bz_t trivial, bd1_s]; rfl)
              · rcases hst3 with rfl | rfl | rfl <;> first | (simp [c1, c2, c3, c4, c5, c6]; done) | (simp [c1, c2, c3, c4, c5, c6]; rw [bz_f not_false, bd1_s]; rfl)
  obtain ⟨r, h1, h2⟩ := loop_inv2 (body := fun (q : Int32 × Int32) => f_X11_faultOf_b4 (iZ n) sg q.1 q.2) (s := (0, 0))
    (P := fun r => (∃ st : Nat, st < 3 ∧ r = .inl (iZ st, iZ n) ∧ fF P 0 n st = fF P n 0 0) ∨ r = .inr (iZ (fF P n 0 0)))
    (fun j s => ∃ st : Nat, st < 3 ∧ s = (iZ st, iZ j) ∧ fF P (n - j) j st = fF P n 0 0) n
    ⟨0, by omega, rfl, rfl⟩
    (by
      rintro j hj s ⟨st, hst, rfl, hf⟩
      dsimp only
      have hle := nxt_le st (P j)
      rw [show n - j = (n - (j + 1)) + 1 by omega, fF] at hf
      rw [step j hj st hst]
      by_cases h3 : nxt st (P j) = 3
      · rw [if_pos h3] at hf
        rw [if_pos h3]
        exact Or.inr ⟨_, rfl, Or.inr (by rw [← hf])⟩
      · rw [if_neg h3] at hf
        rw [if_neg h3]
        exact Or.inl ⟨_, rfl, nxt st (P j), by omega, rfl, hf⟩)
    (by
      rintro s ⟨st, hst, rfl, hf⟩
      dsimp only
      unfold f_X11_faultOf_b4
      rw [Nat.sub_self] at hf
      refine ⟨.inl (iZ st, iZ n), ?_, Or.inl ⟨st, hst, rfl, hf⟩⟩
      rw [if_pos (by rw [z_le] <;> omega)])
    (by omega)
  unfold f_X11_faultOf
  rw [h1]
  rcases h2 with ⟨st, hst, rfl, hf⟩ | rfl
  · rw [bdr_l, ← hf, fF]
    dsimp only
    rw [show (0 : Int32) = iZ ((0 : Nat) : Int) from rfl]
    by_cases h0 : st = 0
    · rw [if_pos (by rw [h0]), if_pos h0]; rfl
    · rw [if_neg (by rw [eqz (by omega) (by omega)]; exact h0), if_neg h0]
  · rw [bdr_r]
