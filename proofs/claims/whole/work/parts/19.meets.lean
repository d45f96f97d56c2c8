/-! meetings: by places i of row 0 and j of row 1 -/
def spI (D0 D1 i j : Nat) : Int := 16 + (D1 : Int) + (j : Int) - (D0 : Int) - (i : Int)
def mtB (D0 D1 i j : Nat) : Bool := decide (0 ≤ spI D0 D1 i j ∧ spI D0 D1 i j ≤ 32)
/-- too narrow for both there -/
def nrB (C : Nat → Nat) (s : Int) (w : Nat) : Bool := decide (C (s / 2).toNat < w) || decide (C ((s + 1) / 2).toNat < w)
def clB (C W : Nat → Nat) (D0 D1 : Nat) (A B : List Nat) (i j : Nat) : Bool := mtB D0 D1 i j && nrB C (spI D0 D1 i j) (W (A.getD i 0) + W (B.getD j 0))
/-- what is known of the pairs looked at so far -/
def PInv (mt cl : Nat × Nat → Bool) (tn : Nat × Nat → Nat) (v wv : Nat × Nat → Int) (L : List (Nat × Nat)) (tw cz fs wh tr : Int32) : Prop :=
  tw = iZ (L.countP mt) ∧ cz = iZ (L.countP cl) ∧ (L.countP cl = 0 → fs = iZ (-6) ∧ wh = iZ (-6)) ∧ (0 < L.countP cl → ∃ p, p ∈ L ∧ cl p = true ∧ fs = iZ (v p) ∧ wh = iZ (wv p) ∧ tr = iZ (tn p) ∧ ∀ q, q ∈ L → cl q = true → tn p ≤ tn q)
theorem PInv.nil (mt cl : Nat × Nat → Bool) (tn : Nat × Nat → Nat) (v wv : Nat × Nat → Int) (tr : Int32) : PInv mt cl tn v wv [] (iZ 0) (iZ 0) (iZ (-6)) (iZ (-6)) tr := ⟨rfl, rfl, fun _ => ⟨rfl, rfl⟩, fun h => absurd h (Nat.lt_irrefl 0)⟩
theorem cP_push (f : Nat × Nat → Bool) (L : List (Nat × Nat)) (p : Nat × Nat) : (L ++ [p]).countP f = L.countP f + (if f p = true then 1 else 0) := by
  rw [List.countP_append]
  simp [List.countP_cons]
theorem PInv.skip {mt cl : Nat × Nat → Bool} {tn : Nat × Nat → Nat} {v wv : Nat × Nat → Int} {L : List (Nat × Nat)} {tw cz fs wh tr : Int32} (h : PInv mt cl tn v wv L tw cz fs wh tr) {p : Nat × Nat} (hc : cl p = false) {tw' : Int32} (ht : tw' = iZ ((L ++ [p]).countP mt)) : PInv mt cl tn v wv (L ++ [p]) tw' cz fs wh tr := by
  have hcl : (L ++ [p]).countP cl = L.countP cl := by rw [cP_push, hc]; rfl
  refine ⟨ht, by rw [hcl]; exact h.2.1, by rw [hcl]; exact h.2.2.1, fun h0 => ?_⟩
  rw [hcl] at h0
  obtain ⟨p0, g1, g2, g3, g4, g5, g6⟩ := h.2.2.2 h0
  refine ⟨p0, List.mem_append_left _ g1, g2, g3, g4, g5, fun q hq hcq => ?_⟩
  rcases List.mem_append.mp hq with h1 | h1
  · exact g6 q h1 hcq
  · rw [List.mem_singleton.mp h1, hc] at hcq
    cases hcq
theorem note_s {mt cl : Nat × Nat → Bool} {tn : Nat × Nat → Nat} {v wv : Nat × Nat → Int} {L : List (Nat × Nat)} {tw cz fs wh tr : Int32} (h : PInv mt cl tn v wv L tw cz fs wh tr) {p : Nat × Nat} (hc : cl p = true) (hL : L.length ≤ 1000) (hb : ∀ q, q ∈ L → tn q ≤ 1000) (hbp : tn p ≤ 1000) {tw' : Int32} (ht : tw' = iZ ((L ++ [p]).countP mt)) : ∃ cz' fs' wh' tr', f_X1_noteClash cz fs wh tr (iZ (v p)) (iZ (wv p)) (iZ (tn p)) = some (cz', fs', wh', tr') ∧ PInv mt cl tn v wv (L ++ [p]) tw' cz' fs' wh' tr' := by
  have hcl : (L ++ [p]).countP cl = L.countP cl + 1 := by rw [cP_push, hc]; rfl
  have hle : L.countP cl ≤ L.length := List.countP_le_length
  have e1 : iZ (L.countP cl) + 1 = iZ ((L.countP cl + 1 : Nat) : Int) := by rw [show (1 : Int32) = iZ 1 from rfl, z_add]; rfl
  unfold f_X1_noteClash f_X1_noteClash_j15 f_X1_noteClash_j30
  rw [h.2.1, e1]
  have new : ∀ (hmin : ∀ q, q ∈ L → cl q = true → tn p ≤ tn q), PInv mt cl tn v wv (L ++ [p]) tw' (iZ ((L.countP cl + 1 : Nat) : Int)) (iZ (v p)) (iZ (wv p)) (iZ (tn p)) := by
    intro hmin
    refine ⟨ht, by rw [hcl], fun h0 => by omega, fun _ => ⟨p, List.mem_append_right _ List.mem_cons_self, hc, rfl, rfl, rfl, fun q hq hcq => ?_⟩⟩
    rcases List.mem_append.mp hq with h1 | h1
    · exact hmin q h1 hcq
    · rw [List.mem_singleton.mp h1]; exact Nat.le_refl _
  by_cases h0 : L.countP cl = 0
  · rw [if_pos (by rw [h0]; rfl)]
    refine ⟨_, _, _, _, rfl, new (fun q hq hcq => ?_)⟩
    exact absurd hcq (List.countP_eq_zero.mp h0 q hq)
  · obtain ⟨p0, g1, g2, g3, g4, g5, g6⟩ := h.2.2.2 (by omega)
    have hb0 := hb p0 g1
    rw [show (0 : Int32) = iZ 0 from rfl, if_neg (by rw [z_eq] <;> omega), g5]
    by_cases hlt : tn p0 ≤ tn p
    · rw [if_pos (by rw [z_le] <;> omega)]
      refine ⟨_, _, _, _, rfl, ht, by rw [hcl], fun h1 => by omega, fun _ => ⟨p0, List.mem_append_left _ g1, g2, g3, g4, rfl, fun q hq hcq => ?_⟩⟩
      rcases List.mem_append.mp hq with h1 | h1
      · exact g6 q h1 hcq
      · rw [List.mem_singleton.mp h1]; exact hlt
    · rw [if_neg (by rw [z_le] <;> omega)]
      refine ⟨_, _, _, _, rfl, new (fun q hq hcq => ?_)⟩
      have := g6 q hq hcq
      omega
/-! the class's meetings -/
theorem start_s {ro pl d : Nat → Int32} {A B : List Nat} (hR : RowsRep ro pl A B) (hW : Wf A B) {D : Nat → Nat} (hd : ∀ r, r < 2 → d r = iZ (D r)) {r m : Nat} (hr : r < 2) (hm : m ∈ rowL A B r) : f_X8_startOf d ro pl (iZ m) = some (iZ ((D r + (rowL A B r).idxOf m : Nat) : Int)) := by
  have h10 := hW.lt hm
  unfold f_X8_startOf
  rw [at_row hR h10, bd1_s, (rowNo_iff hW hr).mpr hm, at_n hr (by omega), bd1_s, at_n h10 (by omega), bd1_s, (hR m h10).2, plc_L hW hr hm, hd r hr, z_add]
  rfl
theorem spotOf_s {a b : Nat} (ha : a ≤ 1000) (hb : b ≤ 1000) : f_X8_spotOf (iZ a) (iZ b) = some (iZ (if 0 ≤ 16 + (b : Int) - (a : Int) ∧ 16 + (b : Int) - (a : Int) ≤ 32 then 16 + (b : Int) - (a : Int) else -6)) := by
  unfold f_X8_spotOf
  rw [show (16 : Int32) = iZ 16 from rfl, z_add, z_sub, show (0 : Int32) = iZ 0 from rfl, show (32 : Int32) = iZ 32 from rfl, within_z (by omega) (by omega) (by omega) (by omega) (by omega) (by omega), bd1_s]
  by_cases h : 0 ≤ 16 + (b : Int) - (a : Int) ∧ 16 + (b : Int) - (a : Int) ≤ 32
  · rw [if_neg (fun e => (bz_0.mp e) h), if_pos h]
  · rw [if_pos (bz_0.mpr h), if_neg h]
    rfl
theorem clash_none (w c : Nat → Int32) (m o : Int32) : f_X8_clash w c (iZ (-6)) m o = some (iZ 0) := by
  unfold f_X8_clash
  rw [show ((-6 : Int32)) = iZ (-6) from rfl, if_pos rfl]
  rfl
theorem clash_s {w c : Nat → Int32} {W C : Nat → Nat} (hw : ∀ m, m < 10 → w m = iZ (W m) ∧ W m ≤ 1000) (hc : ∀ k, k < 17 → c k = iZ (C k) ∧ C k ≤ 1000) {s : Int} (h0 : 0 ≤ s) (h1 : s ≤ 32) {m o : Nat} (hm : m < 10) (ho : o < 10) : f_X8_clash w c (iZ s) (iZ m) (iZ o) = some (bz (nrB C s (W m + W o) = true)) := by
  have k1 : (s / 2).toNat < 17 := by omega
  have k2 : ((s + 1) / 2).toNat < 17 := by omega
  have e1 : iZ (s / 2) = iZ (((s / 2).toNat : Nat) : Int) := by rw [show (((s / 2).toNat : Nat) : Int) = s / 2 by omega]
  have e2 : iZ ((s + 1) / 2) = iZ ((((s + 1) / 2).toNat : Nat) : Int) := by rw [show ((((s + 1) / 2).toNat : Nat) : Int) = (s + 1) / 2 by omega]
  obtain ⟨hw1, hw2⟩ := hw m hm
  obtain ⟨hw3, hw4⟩ := hw o ho
  obtain ⟨hc1, hc2⟩ := hc _ k1
  obtain ⟨hc3, hc4⟩ := hc _ k2
  unfold f_X8_clash
  rw [show ((-6 : Int32)) = iZ (-6) from rfl, if_neg (by rw [z_eq] <;> omega), show (2 : Int32) = iZ 2 from rfl, z_div (by omega) (by omega) (by omega) (by omega), e1, at_n k1 (by omega), bd1_s, show (1 : Int32) = iZ 1 from rfl, z_add, z_div (by omega) (by omega) (by omega) (by omega), e2, at_n k2 (by omega), bd1_s, at_n hm (by omega), bd1_s, at_n ho (by omega), bd1_s, hw1, hw3, hc1, hc3, z_add]
  have hmin : (if iZ (C ((s + 1) / 2).toNat) < iZ (C (s / 2).toNat) then iZ (C ((s + 1) / 2).toNat) else iZ (C (s / 2).toNat)) = iZ ((min (C ((s + 1) / 2).toNat) (C (s / 2).toNat) : Nat) : Int) := by
    by_cases hlt : C ((s + 1) / 2).toNat < C (s / 2).toNat
    · rw [if_pos (by rw [z_lt] <;> omega), Nat.min_eq_left (by omega)]
    · rw [if_neg (by rw [z_lt] <;> omega), Nat.min_eq_right (by omega)]
  rw [hmin]
  by_cases hn : nrB C s (W m + W o) = true
  · have hn2 : C (s / 2).toNat < W m + W o ∨ C ((s + 1) / 2).toNat < W m + W o := by simpa [nrB] using hn
    rw [if_neg (by rw [z_le] <;> omega), bz_t hn]
  · have hn2 : ¬ (C (s / 2).toNat < W m + W o ∨ C ((s + 1) / 2).toNat < W m + W o) := fun h => hn (by simpa [nrB] using h)
    rw [if_pos (by rw [z_le] <;> omega), bz_f hn]
    rfl
