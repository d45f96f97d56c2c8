theorem fF_cases (P : Nat → Nat) : ∀ (k i st : Nat), fF P k i st = -6 ∨ ((0 : Int) ≤ fF P k i st ∧ fF P k i st ≤ i + k) := by
  intro k
  induction k with
  | zero =>
    intro i st
    unfold fF
    split <;> omega
  | succ k ih =>
    intro i st
    unfold fF
    have := ih (i + 1) (nxt st (P i))
    split <;> omega
theorem dS_acts (P : Nat → Nat) (n : Nat) : ∀ (f i : Nat) (A B : List Nat) (b c : Nat), (dS P n f i A B b c).1 ≤ c + f ∧ (dS P n f i A B b c).2.1 ≤ 4 := by
  intro f
  induction f with
  | zero => intro i A B b c; exact ⟨by simp [dS], by simp [dS]⟩
  | succ f ih =>
    intro i A B b c
    have key : ∀ (i2 kind m o : Nat), (if actWhy A B b kind m o = 0 then dS P n f i2 (tryA A B b kind m o) (tryB A B b kind m o) (tryb A B b kind m o) (c + 1) else (c, actWhy A B b kind m o, A, B, b)).1 ≤ c + (f + 1) ∧ (if actWhy A B b kind m o = 0 then dS P n f i2 (tryA A B b kind m o) (tryB A B b kind m o) (tryb A B b kind m o) (c + 1) else (c, actWhy A B b kind m o, A, B, b)).2.1 ≤ 4 := by
      intro i2 kind m o
      have hle := why_le A B b kind m o
      by_cases h0 : actWhy A B b kind m o = 0
      · rw [if_pos h0]
        have := ih i2 (tryA A B b kind m o) (tryB A B b kind m o) (tryb A B b kind m o) (c + 1)
        omega
      · rw [if_neg h0]
        exact ⟨by dsimp only; omega, by dsimp only; omega⟩
    rw [dS]
    by_cases h1 : n ≤ i
    · rw [if_pos h1]
      exact ⟨by dsimp only; omega, by dsimp only; omega⟩
    · rw [if_neg h1]
      by_cases h2 : P i = 33
      · rw [if_pos h2]; exact key _ _ _ _
      · rw [if_neg h2]
        by_cases h3 : P (i + 1) = 120
        · rw [if_pos h3]; exact key _ _ _ _
        · rw [if_neg h3]; exact key _ _ _ _
