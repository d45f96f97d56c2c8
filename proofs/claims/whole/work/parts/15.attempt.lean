/-! an act: why not (0: it can be), and what comes of it -/
theorem z99 : (99 : Int32) = iZ 99 := rfl
def actWhy (A B : List Nat) (b kind m o : Nat) : Nat :=
  if kind = 45 then (if m ∈ A ∨ m ∈ B then 0 else 1)
  else if kind = 100 then (if m ∈ A ∨ m ∈ B then 1 else if A.length < 6 then 0 else 2)
  else if kind = 117 then (if m ∈ A ∨ m ∈ B then 1 else if B.length < 6 then 0 else 2)
  else if kind = 120 then (if m ∈ A ∨ m ∈ B then (if o ∈ A ∨ o ∈ B then (if m = o then 3 else 0) else 1) else 1)
  else (if b < 99 then 0 else 4)
def actA (A : List Nat) (kind m o : Nat) : List Nat :=
  if kind = 45 then A.erase m else if kind = 100 then A ++ [m] else if kind = 117 then A else if kind = 120 then A.map (sw m o) else A
def actB (B : List Nat) (kind m o : Nat) : List Nat :=
  if kind = 45 then B.erase m else if kind = 100 then B else if kind = 117 then B ++ [m] else if kind = 120 then B.map (sw m o) else B
def actb (b kind : Nat) : Nat := if kind = 33 then b + 1 else b
def AOk (kind m o : Nat) (M O : Int32) : Prop := (kind = 33 ∨ kind = 45 ∨ kind = 100 ∨ kind = 117 ∨ kind = 120) ∧ (kind ≠ 33 → M = iZ m ∧ m < 10) ∧ (kind = 120 → O = iZ o ∧ o < 10)
theorem rn2 (A B : List Nat) (m : Nat) : rowNo A B m = 2 ↔ ¬ (m ∈ A ∨ m ∈ B) := by
  unfold rowNo
  by_cases h1 : m ∈ A
  · rw [if_pos h1]; simp [h1]
  · rw [if_neg h1]
    by_cases h2 : m ∈ B
    · rw [if_pos h2]; simp [h2]
    · rw [if_neg h2]; simp [h1, h2]
theorem rnZ (A B : List Nat) (m : Nat) : iZ (rowNo A B m) = 2 ↔ ¬ (m ∈ A ∨ m ∈ B) := by
  rw [← rn2 A B m, z_lit, z_eq]
  · omega
  · omega
  · have := rowNo_le A B m; omega
  · omega
  · omega
theorem at_row {ro pl : Nat → Int32} {A B : List Nat} (hR : RowsRep ro pl A B) {m : Nat} (hm : m < 10) : f_X10_at 10 ro (iZ m) = some (iZ (rowNo A B m)) := by
  rw [at_n hm (by omega), (hR m hm).1]
theorem rj_s {ro pl : Nat → Int32} {A B : List Nat} (hR : RowsRep ro pl A B) (hW : Wf A B) {m r : Nat} (hm : m < 10) (hr : r < 2) : f_X7_reasonAgainstJoining ro (iZ m) (iZ r) = some (iZ ((if m ∈ A ∨ m ∈ B then 1 else if (rowL A B r).length < 6 then 0 else 2 : Nat) : Int)) := by
  unfold f_X7_reasonAgainstJoining
  rw [at_row hR hm, bd1_s]
  by_cases h : m ∈ A ∨ m ∈ B
  · rw [if_neg (fun e => (rnZ A B m).mp e h), if_pos h]
    rfl
  · rw [if_pos ((rnZ A B m).mpr h), if_neg h, lengthOf_s hR hW hr, bd1_s]
    have hl := hW.len r
    by_cases h2 : (rowL A B r).length < 6
    · rw [z_lit, if_pos (by rw [z_lt] <;> omega), if_pos h2]
      rfl
    · rw [z_lit, if_neg (by rw [z_lt] <;> omega), if_neg h2]
      rfl
theorem reason_s {ro pl : Nat → Int32} {A B : List Nat} {b : Nat} (hR : RowsRep ro pl A B) (hW : Wf A B) (hb : b ≤ 99) {kind m o : Nat} {M O : Int32} (hk : AOk kind m o M O) : f_X7_reasonAgainst (iZ b) ro (iZ kind) M O = some (iZ (actWhy A B b kind m o)) := by
  obtain ⟨hk, hm, ho⟩ := hk
  unfold f_X7_reasonAgainst actWhy
  rcases hk with rfl | rfl | rfl | rfl | rfl
  · rw [show (iZ ((33 : Nat) : Int)) = 33 from rfl, if_neg (by decide), if_neg (by decide), if_neg (by decide), if_neg (by decide), if_neg (by decide : ¬ 33 = 45), if_neg (by decide : ¬ 33 = 100), if_neg (by decide : ¬ 33 = 117), if_neg (by decide : ¬ 33 = 120)]
    by_cases h : b < 99
    · rw [z99, if_pos (by rw [z_lt] <;> omega), if_pos h]; rfl
    · rw [z99, if_neg (by rw [z_lt] <;> omega), if_neg h]; rfl
  · obtain ⟨rfl, hm1⟩ := hm (by decide)
    rw [show (iZ ((45 : Nat) : Int)) = 45 from rfl, if_pos rfl, if_pos rfl, at_row hR hm1, bd1_s]
    by_cases h : m ∈ A ∨ m ∈ B
    · rw [if_neg (fun e => (rnZ A B m).mp e h), if_pos h]; rfl
    · rw [if_pos ((rnZ A B m).mpr h), if_neg h]; rfl
  · obtain ⟨rfl, hm1⟩ := hm (by decide)
    rw [show (iZ ((100 : Nat) : Int)) = 100 from rfl, if_neg (by decide), if_pos rfl, if_neg (by decide : ¬ 100 = 45), if_pos rfl, show (0 : Int32) = iZ ((0 : Nat) : Int) from rfl, rj_s hR hW hm1 (by omega), bd1_s]
    rfl
  · obtain ⟨rfl, hm1⟩ := hm (by decide)
    rw [show (iZ ((117 : Nat) : Int)) = 117 from rfl, if_neg (by decide), if_neg (by decide), if_pos rfl, if_neg (by decide : ¬ 117 = 45), if_neg (by decide : ¬ 117 = 100), if_pos rfl, show (1 : Int32) = iZ ((1 : Nat) : Int) from rfl, rj_s hR hW hm1 (by omega), bd1_s]
    rfl
  · obtain ⟨rfl, hm1⟩ := hm (by decide)
    obtain ⟨rfl, ho1⟩ := ho rfl
    rw [show (iZ ((120 : Nat) : Int)) = 120 from rfl, if_neg (by decide), if_neg (by decide), if_neg (by decide), if_pos rfl, if_neg (by decide : ¬ 120 = 45), if_neg (by decide : ¬ 120 = 100), if_neg (by decide : ¬ 120 = 117), if_pos rfl, at_row hR hm1, bd1_s]
    by_cases h : m ∈ A ∨ m ∈ B
    · rw [if_neg (fun e => (rnZ A B m).mp e h), if_pos h, at_row hR ho1, bd1_s]
      by_cases h2 : o ∈ A ∨ o ∈ B
      · rw [if_neg (fun e => (rnZ A B o).mp e h2), if_pos h2]
        by_cases h3 : m = o
        · rw [if_pos (by rw [h3]), if_pos h3]; rfl
        · rw [if_neg (by rw [z_eq] <;> omega), if_neg h3]; rfl
      · rw [if_pos ((rnZ A B o).mpr h2), if_neg h2]; rfl
    · rw [if_pos ((rnZ A B m).mpr h), if_neg h]; rfl
theorem Wf.act {A B : List Nat} {b kind m o : Nat} {M O : Int32} (hW : Wf A B) (hk : AOk kind m o M O) (h0 : actWhy A B b kind m o = 0) : Wf (actA A kind m o) (actB B kind m o) := by
  obtain ⟨hk, hm, ho⟩ := hk
  unfold actWhy at h0
  unfold actA actB
  rcases hk with rfl | rfl | rfl | rfl | rfl
  · exact hW
  · exact hW.erase m
  · have hm := (hm (by decide)).2
    rw [if_neg (by decide), if_pos rfl] at h0
    split at h0
    · omega
    · rename_i h1
      split at h0
      · rename_i h2
        exact hW.join0 (fun h => h1 (Or.inl h)) (fun h => h1 (Or.inr h)) hm h2
      · omega
  · have hm := (hm (by decide)).2
    rw [if_neg (by decide), if_neg (by decide), if_pos rfl] at h0
    split at h0
    · omega
    · rename_i h1
      split at h0
      · rename_i h2
        exact hW.join1 (fun h => h1 (Or.inl h)) (fun h => h1 (Or.inr h)) hm h2
      · omega
  · exact hW.swap (hm (by decide)).2 (ho rfl).2
theorem carry_s {ro pl : Nat → Int32} {A B : List Nat} {b : Nat} (hR : RowsRep ro pl A B) (hW : Wf A B) {kind m o : Nat} {M O : Int32} (hk : AOk kind m o M O) (h0 : actWhy A B b kind m o = 0) : ∃ ro' pl', f_X7_carryOut (iZ b) ro pl (iZ kind) M O = some (iZ (actb b kind), ro', pl') ∧ RowsRep ro' pl' (actA A kind m o) (actB B kind m o) := by
  obtain ⟨hk, hm, ho⟩ := hk
  unfold f_X7_carryOut
  unfold actWhy at h0
  rcases hk with rfl | rfl | rfl | rfl | rfl
  · refine ⟨ro, pl, ?_, hR⟩
    rw [show (iZ ((33 : Nat) : Int)) = 33 from rfl, if_neg (by decide), if_neg (by decide), if_neg (by decide), if_neg (by decide), z_lit, z_add]
    rfl
  · obtain ⟨rfl, hm1⟩ := hm (by decide)
    have hin : m ∈ A ∨ m ∈ B := by
      rw [if_pos rfl] at h0
      split at h0
      · assumption
      · omega
    obtain ⟨pl', h1, h2⟩ := leave_s hR hW hm1 hin
    refine ⟨_, pl', ?_, h2⟩
    rw [show (iZ ((45 : Nat) : Int)) = 45 from rfl, if_pos rfl, h1, bd2_s]
    rfl
  · obtain ⟨rfl, hm1⟩ := hm (by decide)
    have h1 : ¬ (m ∈ A ∨ m ∈ B) := by
      rw [if_neg (by decide), if_pos rfl] at h0
      intro h
      rw [if_pos h] at h0
      omega
    refine ⟨_, _, ?_, rep_join0 hR (fun h => h1 (Or.inl h))⟩
    rw [show (iZ ((100 : Nat) : Int)) = 100 from rfl, if_neg (by decide), if_pos rfl, show (0 : Int32) = iZ ((0 : Nat) : Int) from rfl, join_s hR hW (by omega) hm1, bd2_s]
    rfl
  · obtain ⟨rfl, hm1⟩ := hm (by decide)
    have h1 : ¬ (m ∈ A ∨ m ∈ B) := by
      rw [if_neg (by decide), if_neg (by decide), if_pos rfl] at h0
      intro h
      rw [if_pos h] at h0
      omega
    refine ⟨_, _, ?_, rep_join1 hR (fun h => h1 (Or.inl h)) (fun h => h1 (Or.inr h))⟩
    rw [show (iZ ((117 : Nat) : Int)) = 117 from rfl, if_neg (by decide), if_neg (by decide), if_pos rfl, show (1 : Int32) = iZ ((1 : Nat) : Int) from rfl, join_s hR hW (by omega) hm1, bd2_s]
    rfl
  · obtain ⟨rfl, hm1⟩ := hm (by decide)
    obtain ⟨rfl, ho1⟩ := ho rfl
    refine ⟨_, _, ?_, rep_swap hR hm1 ho1⟩
    rw [show (iZ ((120 : Nat) : Int)) = 120 from rfl, if_neg (by decide), if_neg (by decide), if_neg (by decide), if_pos rfl, swap_s (by omega) hm1 ho1, bd1_s, swap_s (by omega) hm1 ho1, bd1_s]
    rfl
theorem why_le (A B : List Nat) (b kind m o : Nat) : actWhy A B b kind m o ≤ 4 := by
  unfold actWhy
  repeat' split
  all_goals omega
/-- what a try leaves -/
def tryA (A B : List Nat) (b kind m o : Nat) : List Nat := if actWhy A B b kind m o = 0 then actA A kind m o else A
def tryB (A B : List Nat) (b kind m o : Nat) : List Nat := if actWhy A B b kind m o = 0 then actB B kind m o else B
def tryb (A B : List Nat) (b kind m o : Nat) : Nat := if actWhy A B b kind m o = 0 then actb b kind else b
theorem attempt_s {ro pl : Nat → Int32} {A B : List Nat} {b : Nat} (hR : RowsRep ro pl A B) (hW : Wf A B) (hb : b ≤ 99) {kind m o : Nat} {M O : Int32} (hk : AOk kind m o M O) : ∃ ro' pl', f_X7_attempt (iZ b) ro pl (iZ kind) M O = some (iZ (actWhy A B b kind m o), iZ (tryb A B b kind m o), ro', pl') ∧ RowsRep ro' pl' (tryA A B b kind m o) (tryB A B b kind m o) := by
  unfold f_X7_attempt tryA tryB tryb
  rw [reason_s hR hW hb hk, bd1_s]
  have h4 := why_le A B b kind m o
  by_cases h0 : actWhy A B b kind m o = 0
  · obtain ⟨ro', pl', h1, h2⟩ := carry_s hR hW hk h0
    refine ⟨ro', pl', ?_, ?_⟩
    · rw [if_pos (by rw [h0]; rfl), h1, bd3_s, if_pos h0]
    · rw [if_pos h0, if_pos h0]; exact h2
  · refine ⟨ro, pl, ?_, ?_⟩
    · rw [z_lit, if_neg (by rw [z_eq] <;> omega), if_neg h0]
    · rw [if_neg h0, if_neg h0]; exact hR
theorem Wf.try {A B : List Nat} {b kind m o : Nat} {M O : Int32} (hW : Wf A B) (hk : AOk kind m o M O) : Wf (tryA A B b kind m o) (tryB A B b kind m o) := by
  unfold tryA tryB
  by_cases h0 : actWhy A B b kind m o = 0
  · rw [if_pos h0, if_pos h0]; exact hW.act hk h0
  · rw [if_neg h0, if_neg h0]; exact hW
theorem tryb_le {A B : List Nat} {b kind m o : Nat} (hb : b ≤ 99) : tryb A B b kind m o ≤ 99 := by
  unfold tryb
  by_cases h : kind = 33
  · subst h
    have hw : actWhy A B b 33 m o = (if b < 99 then 0 else 4) := rfl
    have hv : actb b 33 = b + 1 := rfl
    rw [hw, hv]
    by_cases h1 : b < 99
    · rw [if_pos h1, if_pos rfl]; omega
    · rw [if_neg h1, if_neg (by decide)]; exact hb
  · have hv : actb b kind = b := by unfold actb; rw [if_neg h]
    rw [hv]
    split <;> exact hb
