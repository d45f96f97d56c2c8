theorem spot_row {A B : List Nat} (hW : Wf A B) {r k : Nat} (hr : r < 2) (hk : k ∈ rowL A B r) : spotM A B k = ((6 * r + (rowL A B r).idxOf k : Nat) : Int) := by
  unfold spotM
  rcases (show r = 0 ∨ r = 1 by omega) with rfl | rfl
  · have h : k ∈ A := hk
    rw [if_pos h]
    show (A.idxOf k : Int) = ((6 * 0 + A.idxOf k : Nat) : Int)
    omega
  · have h : k ∈ B := hk
    rw [if_neg (fun h2 => hW.dj h2 h), if_pos h]
    show 6 + (B.idxOf k : Int) = ((6 * 1 + B.idxOf k : Nat) : Int)
    omega
theorem spot_inv {A B : List Nat} (hW : Wf A B) {r k : Nat} (hr : r < 2) (h0 : 0 ≤ spotM A B k) (h1 : spotM A B k / 6 = (r : Int)) : k ∈ rowL A B r := by
  have hA := hW.1
  have hB := hW.2.1
  unfold spotM at h0 h1
  by_cases h : k ∈ A
  · rw [if_pos h] at h1
    have hi := List.idxOf_lt_length_iff.mpr h
    have : r = 0 := by omega
    subst this
    exact h
  · rw [if_neg h] at h0 h1
    by_cases h2 : k ∈ B
    · rw [if_pos h2] at h1
      have hi := List.idxOf_lt_length_iff.mpr h2
      have : r = 1 := by omega
      subst this
      exact h2
    · rw [if_neg h2] at h0
      omega
def okB (F Z : Nat → Nat) (L : List Nat) (j : Nat) : Bool := decide (¬ (F j ∈ L ∧ Z j ∈ L ∧ L.idxOf (Z j) < L.idxOf (F j)))
def allB (f : Nat → Bool) : Nat → Bool
  | 0 => true
  | n + 1 => allB f n && f n
theorem allB_iff {f : Nat → Bool} : ∀ n : Nat, allB f n = true ↔ ∀ j, j < n → f j = true := by
  intro n
  induction n with
  | zero => exact ⟨fun _ j h => absurd h (Nat.not_lt_zero j), fun _ => rfl⟩
  | succ n ih =>
    rw [allB, Bool.and_eq_true, ih]
    constructor
    · rintro ⟨h1, h2⟩ j hj
      by_cases e : j = n
      · rw [e]; exact h2
      · exact h1 j (by omega)
    · intro h
      exact ⟨fun j hj => h j (by omega), h n (by omega)⟩
theorem kp_ok {N : Nat} {F Z : Nat → Nat} {L : List Nat} (hN : L.Nodup) : kpB N F Z L = allB (okB F Z L) N := by
  rw [Bool.eq_iff_iff, kpB_iff, allB_iff]
  constructor
  · intro h j hj
    unfold okB
    rw [decide_eq_true_iff]
    rintro ⟨h1, h2, h3⟩
    have i1 := List.idxOf_lt_length_iff.mpr h1
    have i2 := List.idxOf_lt_length_iff.mpr h2
    have h4 := List.pairwise_iff_getElem.mp h _ _ i2 i1 h3
    rw [List.getElem_idxOf, List.getElem_idxOf, bl_iff.mpr ⟨j, hj, rfl, rfl⟩] at h4
    cases h4
  · intro h
    refine List.pairwise_iff_getElem.mpr (fun i i' hi hi' hlt => ?_)
    rw [← Bool.not_eq_true, bl_iff]
    rintro ⟨j, hj, h1, h2⟩
    have h3 := h j hj
    unfold okB at h3
    rw [decide_eq_true_iff] at h3
    have g1 : L.idxOf (Z j) = i := idx_of hN (by rw [h1]; exact List.getElem?_eq_getElem hi)
    have g2 : L.idxOf (F j) = i' := idx_of hN (by rw [h2]; exact List.getElem?_eq_getElem hi')
    exact h3 ⟨by rw [h2]; exact List.getElem_mem hi', by rw [h1]; exact List.getElem_mem hi, by omega⟩
def RuM (N : Nat) (ah af : Nat → Int32) (F Z : Nat → Nat) : Prop := N ≤ 10 ∧ ∀ i, i < N → ah i = iZ (F i) ∧ af i = iZ (Z i) ∧ F i < 10 ∧ Z i < 10
theorem keeps_s {nw ah af : Nat → Int32} {A B : List Nat} {b N : Nat} {F Z : Nat → Nat} (hU : RuM N ah af F Z) (hB : BookRep nw A B b) (hW : Wf A B) {r : Nat} (hr : r < 2) : f_X11_keepsRules (iZ N) nw ah af (iZ r) = some (if kpB N F Z (rowL A B r) = true then iZ 1 else iZ 0) := by
  have e1 : ∀ n : Nat, iZ (n : Int) + 1 = iZ ((n + 1 : Nat) : Int) := by intro n; rw [show (1 : Int32) = iZ 1 from rfl, z_add]; rfl
  have hN := hU.1
  rw [kp_ok (hW.nL r)]
  have hloop : loopN (fun (q : Int32 × Int32) => f_X11_keepsRules_b4 (iZ N) nw ah af (iZ r) q.1 q.2) FU (1, 0) = some ((if allB (okB F Z (rowL A B r)) N = true then iZ 1 else iZ 0), iZ N) := by
    refine loop_FU (fun i : Nat => ((if allB (okB F Z (rowL A B r)) i = true then iZ 1 else iZ 0 : Int32), (iZ i : Int32))) N rfl ?_ ?_ (by omega)
    · intro i hi
      dsimp only
      obtain ⟨r1, r2, r3, r4⟩ := hU.2 i hi
      have ha := spotM_le hW (F i)
      have hb := spotM_le hW (Z i)
      unfold f_X11_keepsRules_b4 f_X11_keepsRules_j79 f_X11_keepsRules_j75 f_X11_keepsRules_j80
      rw [if_neg (by rw [z_le] <;> omega), gd_z (by omega) (by omega) (by omega), z_cl (by omega) (by omega), Int.toNat_natCast, r1, spotM_s hB hW (by omega), bd1_s, gd_z (by omega) (by omega) (by omega), r2, spotM_s hB hW (by omega), bd1_s, e1, allB]
      by_cases hal : allB (okB F Z (rowL A B r)) i = true
      · rw [hal, if_pos rfl, if_neg (show ¬ iZ 1 = 0 by decide), Bool.true_and]
        have hyes : okB F Z (rowL A B r) i = true → (if okB F Z (rowL A B r) i = true then iZ 1 else iZ 0) = 1 := fun h => if_pos h
        have hnn : ∀ x : Int, -6 ≤ x → x ≤ 11 → (iZ x < 0 ↔ x < 0) := fun x h1 h2 => by rw [show (0 : Int32) = iZ 0 from rfl, z_lt] <;> omega
        by_cases ha0 : spotM A B (F i) < 0
        · rw [if_pos ((hnn _ ha.1 ha.2).mpr ha0), hyes]
          unfold okB
          rw [decide_eq_true_iff]
          rintro ⟨h1, -⟩
          rw [spot_row hW hr h1] at ha0
          omega
        · rw [if_neg (fun h => ha0 ((hnn _ ha.1 ha.2).mp h))]
          by_cases hb0 : spotM A B (Z i) < 0
          · rw [if_pos ((hnn _ hb.1 hb.2).mpr hb0), hyes]
            unfold okB
            rw [decide_eq_true_iff]
            rintro ⟨-, h1, -⟩
            rw [spot_row hW hr h1] at hb0
            omega
          · rw [if_neg (fun h => hb0 ((hnn _ hb.1 hb.2).mp h)), show (6 : Int32) = iZ 6 from rfl, z_div (by omega) (by omega) (by omega) (by omega), z_div (by omega) (by omega) (by omega) (by omega)]
            by_cases ha6 : spotM A B (F i) / 6 = (r : Int)
            · rw [if_pos (by rw [ha6])]
              have hFm := spot_inv hW hr (by omega) ha6
              by_cases hb6 : spotM A B (Z i) / 6 = (r : Int)
              · rw [if_pos (by rw [hb6])]
                have hZm := spot_inv hW hr (by omega) hb6
                have e2 := spot_row hW hr hFm
                have e3 := spot_row hW hr hZm
                by_cases hlt : spotM A B (Z i) < spotM A B (F i)
                · rw [if_pos (by rw [z_lt] <;> omega)]
                  have hno : ¬ okB F Z (rowL A B r) i = true := by
                    unfold okB
                    rw [decide_eq_true_iff]
                    exact fun h => h ⟨hFm, hZm, by omega⟩
                  rw [if_neg hno]
                  rfl
                · rw [if_neg (by rw [z_lt] <;> omega), hyes]
                  unfold okB
                  rw [decide_eq_true_iff]
                  rintro ⟨-, -, h3⟩
                  omega
              · rw [if_neg (by rw [z_eq] <;> omega), hyes]
                unfold okB
                rw [decide_eq_true_iff]
                rintro ⟨-, h1, -⟩
                have := spot_row hW hr h1
                have hl := hW.len r
                have hi2 := List.idxOf_lt_length_iff.mpr h1
                omega
            · rw [if_neg (by rw [z_eq] <;> omega), hyes]
              unfold okB
              rw [decide_eq_true_iff]
              rintro ⟨h1, -⟩
              have := spot_row hW hr h1
              have hl := hW.len r
              have hi2 := List.idxOf_lt_length_iff.mpr h1
              omega
      · rw [Bool.not_eq_true] at hal
        rw [hal, if_neg (show ¬ false = true by decide), if_pos (show iZ 0 = 0 from rfl), Bool.false_and, if_neg (show ¬ false = true by decide)]
        rfl
    · dsimp only
      unfold f_X11_keepsRules_b4
      rw [if_pos (Int32.le_refl _)]
  unfold f_X11_keepsRules
  rw [hloop, bd2_s]
  by_cases h : allB (okB F Z (rowL A B r)) N = true
  · rw [if_pos h]; rfl
  · rw [if_neg h]; rfl
/-- the least so far among codes for which V holds -/
def LInv (Np nm : Nat → Nat) (V : Nat → Prop) (c : Nat) (ls lo : Int32) : Prop := ((∀ e, e < c → ¬ V e) ∧ ls = 1000000 ∧ lo = 0) ∨ ∃ e, e < c ∧ V e ∧ ls = iZ (Np e) ∧ lo = iZ (nm e) ∧ ∀ f, f < c → V f → Np e < Np f ∨ (Np e = Np f ∧ nm e ≤ nm f)
theorem LInv.skip {Np nm : Nat → Nat} {V : Nat → Prop} {c : Nat} {ls lo : Int32} (h : LInv Np nm V c ls lo) (hv : ¬ V c) : LInv Np nm V (c + 1) ls lo := by
  rcases h with ⟨h1, h2, h3⟩ | ⟨e, e1, e2, e3, e4, e5⟩
  · refine Or.inl ⟨fun e he => ?_, h2, h3⟩
    by_cases hc : e = c
    · rw [hc]; exact hv
    · exact h1 e (by omega)
  · refine Or.inr ⟨e, by omega, e2, e3, e4, fun f hf hV => ?_⟩
    by_cases hc : f = c
    · rw [hc] at hV; exact absurd hV hv
    · exact e5 f (by omega) hV
theorem j121_s {w c d nw : Nat → Int32} {Np nm : Nat → Nat} {V : Nat → Prop} {e : Nat} {tw fs wh : Int32} (hl : f_X11_layMeetings (iZ (-6)) (iZ ((0 : Nat) : Int)) nw w c d = some (tw, iZ (Np e), fs, wh)) (hV : V e) (hb : ∀ f, V f → Np f ≤ 1000 ∧ nm f ≤ 1000000) {ls lo : Int32} (hI : LInv Np nm V e ls lo) (hn : e ≤ 100000) (of fo : Int32) :
    ∃ ls' lo', f_X11_layOrders_j121 w c d (iZ (-6)) (iZ ((0 : Nat) : Int)) (iZ e) (iZ (nm e)) of fo ls lo nw = some (.inl (iZ ((e + 1 : Nat) : Int), tw, iZ (Np e), fs, wh, of, fo, ls', lo', nw)) ∧ LInv Np nm V (e + 1) ls' lo' := by
  have e1 : ∀ n : Nat, iZ (n : Int) + 1 = iZ ((n + 1 : Nat) : Int) := by intro n; rw [show (1 : Int32) = iZ 1 from rfl, z_add]; rfl
  have hbe := hb e hV
  have h10 : ¬ (1 : Int32) = 0 := by decide
  have h00 : (0 : Int32) = 0 := rfl
  have new : (∀ f, f < e → V f → Np e < Np f ∨ (Np e = Np f ∧ nm e ≤ nm f)) → LInv Np nm V (e + 1) (iZ (Np e)) (iZ (nm e)) := by
    intro h
    refine Or.inr ⟨e, by omega, hV, rfl, rfl, fun f hf hVf => ?_⟩
    by_cases hc : f = e
    · rw [hc]; exact Or.inr ⟨rfl, Nat.le_refl _⟩
    · exact h f (by omega) hVf
  unfold f_X11_layOrders_j121 f_X11_layOrders_j156 f_X11_layOrders_j160 f_X11_layOrders_j161 f_X11_layOrders_j178 f_X11_layOrders_j198
  rw [hl, bd4_s, if_neg h10, if_neg h10, if_pos h00, if_pos h00, e1]
  rcases hI with ⟨h1, rfl, rfl⟩ | ⟨f, f1, f2, rfl, rfl, f5⟩
  · rw [if_pos (by rw [show (1000000 : Int32) = iZ 1000000 from rfl, z_lt] <;> omega)]
    exact ⟨_, _, rfl, new (fun f hf hVf => absurd hVf (h1 f hf))⟩
  · have hbf := hb f f2
    by_cases hlt : Np e < Np f
    · rw [if_pos (by rw [z_lt] <;> omega)]
      refine ⟨_, _, rfl, new (fun g hg hVg => ?_)⟩
      have := f5 g hg hVg
      omega
    · rw [if_neg (by rw [z_lt] <;> omega)]
      by_cases heq : Np e = Np f
      · rw [if_pos (by rw [heq])]
        by_cases hle : nm f ≤ nm e
        · rw [if_pos (by rw [z_le] <;> omega)]
          refine ⟨_, _, rfl, Or.inr ⟨f, by omega, f2, rfl, rfl, fun g hg hVg => ?_⟩⟩
          by_cases hc : g = e
          · rw [hc]; omega
          · exact f5 g (by omega) hVg
        · rw [if_neg (by rw [z_le] <;> omega)]
          refine ⟨_, _, rfl, new (fun g hg hVg => ?_)⟩
          have := f5 g hg hVg
          omega
      · rw [if_neg (by rw [z_eq] <;> omega)]
        refine ⟨_, _, rfl, Or.inr ⟨f, by omega, f2, rfl, rfl, fun g hg hVg => ?_⟩⟩
        by_cases hc : g = e
        · rw [hc]; omega
        · exact f5 g (by omega) hVg
/-- those so far for which V holds: how many, and the least number -/
def OInv (nm : Nat → Nat) (V : Nat → Prop) (c : Nat) (of fo : Int32) : Prop := ∃ vs : List Nat, vs.Nodup ∧ (∀ e, e ∈ vs ↔ e < c ∧ V e) ∧ of = iZ vs.length ∧ ((vs = [] ∧ fo = -6) ∨ ∃ e, e ∈ vs ∧ fo = iZ (nm e) ∧ ∀ f, f ∈ vs → nm e ≤ nm f)
theorem OInv.skip {nm : Nat → Nat} {V : Nat → Prop} {c : Nat} {of fo : Int32} (h : OInv nm V c of fo) (hv : ¬ V c) : OInv nm V (c + 1) of fo := by
  obtain ⟨vs, h1, h2, h3⟩ := h
  refine ⟨vs, h1, fun e => ?_, h3⟩
  rw [h2]
  constructor
  · rintro ⟨a, b⟩; exact ⟨by omega, b⟩
  · rintro ⟨a, b⟩
    refine ⟨?_, b⟩
    by_cases hc : e = c
    · rw [hc] at b; exact absurd b hv
    · omega
theorem OInv.len {nm : Nat → Nat} {V : Nat → Prop} {c : Nat} {vs : List Nat} (h1 : vs.Nodup) (h2 : ∀ e, e ∈ vs ↔ e < c ∧ V e) : vs.length ≤ c := by
  have := nodup_len vs (List.range c) h1 (fun x hx => List.mem_range.mpr ((h2 x).mp hx).1)
  rwa [List.length_range] at this
theorem OInv.push {nm : Nat → Nat} {V : Nat → Prop} {c : Nat} {of fo : Int32} (h : OInv nm V c of fo) (hv : V c) (hc : c ≤ 100000) (hb : ∀ e, V e → nm e ≤ 1000000) : OInv nm V (c + 1) (of + 1) (if of = 0 then iZ (nm c) else if fo ≤ iZ (nm c) then fo else iZ (nm c)) := by
  obtain ⟨vs, h1, h2, rfl, h4⟩ := h
  have hl := OInv.len (nm := nm) h1 h2
  have hnc := hb c hv
  have e1 : ∀ n : Nat, iZ (n : Int) + 1 = iZ ((n + 1 : Nat) : Int) := by intro n; rw [show (1 : Int32) = iZ 1 from rfl, z_add]; rfl
  refine ⟨c :: vs, List.nodup_cons.mpr ⟨fun hm => by have := ((h2 c).mp hm).1; omega, h1⟩, fun e => ?_, by rw [e1, List.length_cons], Or.inr ?_⟩
  · rw [List.mem_cons, h2]
    constructor
    · rintro (rfl | ⟨a, b⟩)
      · exact ⟨by omega, hv⟩
      · exact ⟨by omega, b⟩
    · rintro ⟨a, b⟩
      by_cases hc : e = c
      · exact Or.inl hc
      · exact Or.inr ⟨by omega, b⟩
  · rcases h4 with ⟨rfl, rfl⟩ | ⟨f, f1, rfl, f3⟩
    · rw [if_pos (show iZ (([] : List Nat).length : Int) = 0 from rfl)]
      refine ⟨c, List.mem_cons_self, rfl, fun g hg => ?_⟩
      rcases List.mem_cons.mp hg with rfl | hg
      · exact Nat.le_refl _
      · cases hg
    · have hlen := List.length_pos_of_mem f1
      have hnf := hb f ((h2 f).mp f1).2
      rw [if_neg (by rw [show (0 : Int32) = iZ 0 from rfl, z_eq] <;> omega)]
      by_cases hle : nm f ≤ nm c
      · rw [if_pos (by rw [z_le] <;> omega)]
        refine ⟨f, List.mem_cons_of_mem _ f1, rfl, fun g hg => ?_⟩
        rcases List.mem_cons.mp hg with rfl | hg
        · exact hle
        · exact f3 g hg
      · rw [if_neg (by rw [z_le] <;> omega)]
        refine ⟨c, List.mem_cons_self, rfl, fun g hg => ?_⟩
        rcases List.mem_cons.mp hg with rfl | hg
        · exact Nat.le_refl _
        · have := f3 g hg
          omega
