/-! the reference's meetings: by time, then by the place in row 0 -/
def MInv (mt cl : Nat × Nat → Bool) (v wv : Nat × Nat → Int) (L : List (Nat × Nat)) (tw cz fs wh : Int32) : Prop :=
  tw = iZ (L.countP mt) ∧ cz = iZ (L.countP cl) ∧ (L.countP cl = 0 → fs = iZ (-6) ∧ wh = iZ (-6)) ∧ (0 < L.countP cl → ∃ p, L.find? cl = some p ∧ fs = iZ (v p) ∧ wh = iZ (wv p))
theorem MInv.skip {mt cl : Nat × Nat → Bool} {v wv : Nat × Nat → Int} {L : List (Nat × Nat)} {tw cz fs wh : Int32} (h : MInv mt cl v wv L tw cz fs wh) {p : Nat × Nat} (hc : cl p = false) {tw' : Int32} (ht : tw' = iZ ((L ++ [p]).countP mt)) : MInv mt cl v wv (L ++ [p]) tw' cz fs wh := by
  have hcl : (L ++ [p]).countP cl = L.countP cl := by rw [cP_push, hc]; rfl
  refine ⟨ht, by rw [hcl]; exact h.2.1, by rw [hcl]; exact h.2.2.1, fun h0 => ?_⟩
  rw [hcl] at h0
  obtain ⟨p0, g1, g2, g3⟩ := h.2.2.2 h0
  exact ⟨p0, by rw [List.find?_append, g1]; rfl, g2, g3⟩
theorem find_none {cl : Nat × Nat → Bool} {L : List (Nat × Nat)} (h : L.countP cl = 0) : L.find? cl = none := by
  rw [List.find?_eq_none]
  exact List.countP_eq_zero.mp h
theorem MInv.first {mt cl : Nat × Nat → Bool} {v wv : Nat × Nat → Int} {L : List (Nat × Nat)} {tw cz fs wh : Int32} (h : MInv mt cl v wv L tw cz fs wh) {p : Nat × Nat} (hc : cl p = true) (h0 : L.countP cl = 0) {tw' : Int32} (ht : tw' = iZ ((L ++ [p]).countP mt)) : MInv mt cl v wv (L ++ [p]) tw' (cz + 1) (iZ (v p)) (iZ (wv p)) := by
  have hcl : (L ++ [p]).countP cl = L.countP cl + 1 := by rw [cP_push, hc]; rfl
  refine ⟨ht, ?_, fun h1 => by omega, fun _ => ⟨p, ?_, rfl, rfl⟩⟩
  · rw [hcl, h.2.1, show (1 : Int32) = iZ 1 from rfl, z_add]; rfl
  · rw [List.find?_append, find_none h0]
    simp [hc]
theorem MInv.later {mt cl : Nat × Nat → Bool} {v wv : Nat × Nat → Int} {L : List (Nat × Nat)} {tw cz fs wh : Int32} (h : MInv mt cl v wv L tw cz fs wh) {p : Nat × Nat} (hc : cl p = true) (h0 : L.countP cl ≠ 0) {tw' : Int32} (ht : tw' = iZ ((L ++ [p]).countP mt)) : MInv mt cl v wv (L ++ [p]) tw' (cz + 1) fs wh := by
  have hcl : (L ++ [p]).countP cl = L.countP cl + 1 := by rw [cP_push, hc]; rfl
  obtain ⟨p0, g1, g2, g3⟩ := h.2.2.2 (by omega)
  refine ⟨ht, ?_, fun h1 => by omega, fun _ => ⟨p0, ?_, g2, g3⟩⟩
  · rw [hcl, h.2.1, show (1 : Int32) = iZ 1 from rfl, z_add]; rfl
  · rw [List.find?_append, g1]; rfl
/-- the reference's town, as numbers; one cell may be wider by v -/
def MTown (w c d : Nat → Int32) (W C D : Nat → Nat) : Prop := (∀ m, m < 10 → w m = iZ (W m) ∧ W m ≤ 500) ∧ (∀ k, k < 17 → c k = iZ (C k) ∧ C k ≤ 500) ∧ (∀ r, r < 2 → d r = iZ (D r) ∧ D r ≤ 20)
def wider (C : Nat → Nat) (dz : Int) (v : Nat) (k : Nat) : Nat := C k + (if (k : Int) = dz then v else 0)
theorem widthOf_s {w c d : Nat → Int32} {W C D : Nat → Nat} (hM : MTown w c d W C D) {dz : Int} (hz1 : -6 ≤ dz) (hz2 : dz ≤ 16) {v : Nat} (hv : v ≤ 30) {k : Nat} (hk : k < 17) : f_X11_widthOf (iZ dz) (iZ v) c (iZ k) = some (iZ (wider C dz v k)) := by
  obtain ⟨h1, h2⟩ := hM.2.1 k hk
  unfold f_X11_widthOf wider
  rw [gd_z (by omega) (by omega) (by omega), z_cl (by omega) (by omega), Int.toNat_natCast, h1]
  by_cases e : (k : Int) = dz
  · rw [if_pos (by rw [e]), if_pos e, z_add]; rfl
  · rw [if_neg (by rw [z_eq] <;> omega), if_neg e, show (0 : Int32) = iZ 0 from rfl, z_add]; rfl
theorem spotX_s {w c d : Nat → Int32} {W C D : Nat → Nat} (hM : MTown w c d W C D) (i j : Int) : f_X11_spot d (iZ i) (iZ j) = some (iZ (16 + (D 1 : Int) + j - (D 0 : Int) - i)) := by
  obtain ⟨h1, -⟩ := hM.2.2 1 (by omega)
  obtain ⟨h0, -⟩ := hM.2.2 0 (by omega)
  unfold f_X11_spot
  rw [show (1 : Int32) = iZ 1 from rfl, gd_z (by omega) (by omega) (by omega), show (0 : Int32) = iZ 0 from rfl, gd_z (by omega) (by omega) (by omega), z_cl (by omega) (by omega), z_cl (by omega) (by omega), show (1 : Int).toNat = 1 from rfl, show (0 : Int).toNat = 0 from rfl, h1, h0, show (16 : Int32) = iZ 16 from rfl, z_add, z_add, z_sub, z_sub]
theorem doClear_s {w c d now : Nat → Int32} {W C D : Nat → Nat} {A B : List Nat} {b : Nat} (hM : MTown w c d W C D) (hB : BookRep now A B b) (hW : Wf A B) {dz : Int} (hz1 : -6 ≤ dz) (hz2 : dz ≤ 16) {v : Nat} (hv : v ≤ 30) {i j : Nat} (hi : i < A.length) (hj : j < B.length) (hs : mtB (D 0) (D 1) i j = true) : f_X11_doClear (iZ dz) (iZ v) now w c d (iZ i) (iZ j) = some (bz (clB (wider C dz v) W (D 0) (D 1) A B i j = false)) := by
  have hA6 := hW.1
  have hB6 := hW.2.1
  have hs2 : 0 ≤ spI (D 0) (D 1) i j ∧ spI (D 0) (D 1) i j ≤ 32 := by simpa [mtB] using hs
  have hai : A[i]? = some (A.getD i 0) := by rw [List.getD_eq_getElem?_getD, List.getElem?_eq_getElem hi]; rfl
  have hbj : B[j]? = some (B.getD j 0) := by rw [List.getD_eq_getElem?_getD, List.getElem?_eq_getElem hj]; rfl
  have ha10 : A.getD i 0 < 10 := hW.lt (r := 0) (List.mem_of_getElem? hai)
  have hb10 : B.getD j 0 < 10 := hW.lt (r := 1) (List.mem_of_getElem? hbj)
  have e6 : ((6 : Int) + (j : Int)).toNat = 6 + j := by omega
  obtain ⟨w1, w2⟩ := hM.1 _ ha10
  obtain ⟨w3, w4⟩ := hM.1 _ hb10
  have hk1 : (spI (D 0) (D 1) i j / 2).toNat < 17 := by omega
  have hk2 : ((spI (D 0) (D 1) i j + 1) / 2).toNat < 17 := by omega
  have ek1 : iZ (spI (D 0) (D 1) i j / 2) = iZ (((spI (D 0) (D 1) i j / 2).toNat : Nat) : Int) := by rw [show (((spI (D 0) (D 1) i j / 2).toNat : Nat) : Int) = spI (D 0) (D 1) i j / 2 by omega]
  have ek2 : iZ ((spI (D 0) (D 1) i j + 1) / 2) = iZ ((((spI (D 0) (D 1) i j + 1) / 2).toNat : Nat) : Int) := by rw [show ((((spI (D 0) (D 1) i j + 1) / 2).toNat : Nat) : Int) = (spI (D 0) (D 1) i j + 1) / 2 by omega]
  have hC1 : ∀ k, k < 17 → wider C dz v k ≤ 530 := by
    intro k hk
    have := (hM.2.1 k hk).2
    unfold wider
    split <;> omega
  have c1 := hC1 _ hk1
  have c2 := hC1 _ hk2
  have ecl : clB (wider C dz v) W (D 0) (D 1) A B i j = (decide (wider C dz v (spI (D 0) (D 1) i j / 2).toNat < W (A.getD i 0) + W (B.getD j 0)) || decide (wider C dz v ((spI (D 0) (D 1) i j + 1) / 2).toNat < W (A.getD i 0) + W (B.getD j 0))) := by
    unfold clB nrB
    rw [hs]
    rfl
  unfold f_X11_doClear
  rw [spotX_s hM, bd1_s, show (16 + (D 1 : Int) + (j : Int) - (D 0 : Int) - (i : Int)) = spI (D 0) (D 1) i j from rfl, gd_z (by omega) (by omega) (by omega), z_cl (by omega) (by omega), Int.toNat_natCast, hB.1 i _ hai, gd_z (by omega) (by omega) (by omega), show (6 : Int32) = iZ 6 from rfl, z_add, gd_z (by omega) (by omega) (by omega), z_cl (a := 6 + (j : Int)) (by omega) (by omega), e6, hB.2.1 j _ hbj, gd_z (by omega) (by omega) (by omega), nmv_s, z_cl (by omega) (by omega), z_cl (by omega) (by omega), Int.toNat_natCast, Int.toNat_natCast, w1, w3, z_add, show (2 : Int32) = iZ 2 from rfl, z_div (by omega) (by omega) (by omega) (by omega), ek1, widthOf_s hM hz1 hz2 hv hk1, bd1_s, ecl]
  by_cases q1 : wider C dz v (spI (D 0) (D 1) i j / 2).toNat < W (A.getD i 0) + W (B.getD j 0)
  · rw [if_pos (by rw [z_lt] <;> omega), bz_f (by rw [decide_eq_true q1]; simp)]
    rfl
  · rw [if_neg (by rw [z_lt] <;> omega), show (1 : Int32) = iZ 1 from rfl, z_add, z_div (by omega) (by omega) (by omega) (by omega), ek2, widthOf_s hM hz1 hz2 hv hk2, bd1_s]
    by_cases q2 : wider C dz v ((spI (D 0) (D 1) i j + 1) / 2).toNat < W (A.getD i 0) + W (B.getD j 0)
    · rw [if_pos (by rw [z_lt] <;> omega), bz_f (by rw [decide_eq_true q2]; simp)]
      rfl
    · rw [if_neg (by rw [z_lt] <;> omega), bz_t (by rw [decide_eq_false q1, decide_eq_false q2]; rfl)]
def mtI (D0 D1 : Nat) (p : Nat × Nat) : Bool := mtB D0 D1 p.1 p.2
def clI (C W : Nat → Nat) (D0 D1 : Nat) (A B : List Nat) (p : Nat × Nat) : Bool := clB C W D0 D1 A B p.1 p.2
def vI (A B : List Nat) (p : Nat × Nat) : Int := 10 * (A.getD p.1 0 : Int) + (B.getD p.2 0 : Int)
def wvI (D0 D1 : Nat) (p : Nat × Nat) : Int := spI D0 D1 p.1 p.2
/-- the pairs of one time whose place in row 0 is below n -/
def tmL (m t n : Nat) : List (Nat × Nat) := (List.range n).filterMap (fun i => if i ≤ t ∧ t - i < m then some (i, t - i) else none)
def tmA (n m t : Nat) : List (Nat × Nat) := (List.range t).flatMap (fun s => tmL m s n)
theorem tmL_succ (m t n : Nat) : tmL m t (n + 1) = tmL m t n ++ (if n ≤ t ∧ t - n < m then [(n, t - n)] else []) := by
  unfold tmL
  rw [List.range_succ, List.filterMap_append]
  by_cases h : n ≤ t ∧ t - n < m
  · rw [if_pos h]; simp [h]
  · rw [if_neg h]; simp [h]
theorem tmA_succ (n m t : Nat) : tmA n m (t + 1) = tmA n m t ++ tmL m t n := by
  unfold tmA
  rw [List.range_succ, List.flatMap_append]
  simp
theorem lay_in {w c d now : Nat → Int32} {W C D : Nat → Nat} {A B : List Nat} {b : Nat} (hM : MTown w c d W C D) (hB : BookRep now A B b) (hW : Wf A B) {dz : Int} (hz1 : -6 ≤ dz) (hz2 : dz ≤ 16) {v : Nat} (hv : v ≤ 30) {t : Nat} (ht : t < 11) {L : List (Nat × Nat)} (hL : L.length ≤ 500) {tw cz fs wh : Int32} (hI : MInv (mtI (D 0) (D 1)) (clI (wider C dz v) W (D 0) (D 1) A B) (vI A B) (wvI (D 0) (D 1)) L tw cz fs wh) :
    ∃ i' tw' cz' fs' wh', loopN (fun (q : Int32 × Int32 × Int32 × Int32 × Int32) => f_X11_layMeetings_b32 (iZ dz) (iZ v) now w c d (iZ t) q.1 q.2.1 q.2.2.1 q.2.2.2.1 q.2.2.2.2) FU (0, tw, cz, fs, wh) = some (i', tw', cz', fs', wh') ∧ MInv (mtI (D 0) (D 1)) (clI (wider C dz v) W (D 0) (D 1) A B) (vI A B) (wvI (D 0) (D 1)) (L ++ tmL B.length t A.length) tw' cz' fs' wh' := by
  have hA6 := hW.1
  have hB6 := hW.2.1
  have hD0 := (hM.2.2 0 (by omega)).2
  have hD1 := (hM.2.2 1 (by omega)).2
  obtain ⟨r, h1, h2⟩ := loop_inv (body := fun (q : Int32 × Int32 × Int32 × Int32 × Int32) => f_X11_layMeetings_b32 (iZ dz) (iZ v) now w c d (iZ t) q.1 q.2.1 q.2.2.1 q.2.2.2.1 q.2.2.2.2) (s := (0, tw, cz, fs, wh))
    (P := fun r => MInv (mtI (D 0) (D 1)) (clI (wider C dz v) W (D 0) (D 1) A B) (vI A B) (wvI (D 0) (D 1)) (L ++ tmL B.length t A.length) r.2.1 r.2.2.1 r.2.2.2.1 r.2.2.2.2)
    (fun i s => ∃ tw cz fs wh, s = (iZ i, tw, cz, fs, wh) ∧ MInv (mtI (D 0) (D 1)) (clI (wider C dz v) W (D 0) (D 1) A B) (vI A B) (wvI (D 0) (D 1)) (L ++ tmL B.length t i) tw cz fs wh) A.length
    ⟨tw, cz, fs, wh, rfl, by rw [show tmL B.length t 0 = [] from rfl, List.append_nil]; exact hI⟩
    (by
      rintro i hi s ⟨tw, cz, fs, wh, rfl, hP⟩
      dsimp only
      rw [tmL_succ, ← List.append_assoc]
      generalize hLe : L ++ tmL B.length t i = L1 at hP ⊢
      unfold f_X11_layMeetings_b32
      have e1 : iZ (i : Int) + 1 = iZ ((i + 1 : Nat) : Int) := by rw [show (1 : Int32) = iZ 1 from rfl, z_add]; rfl
      rw [e1, show (12 : Int32) = iZ 12 from rfl, gd_z (by omega) (by omega) (by omega), z_cl (by omega) (by omega), show (12 : Int).toNat = 12 from rfl, hB.2.2.1, if_neg (by rw [z_le] <;> omega), show (13 : Int32) = iZ 13 from rfl, gd_z (by omega) (by omega) (by omega), z_cl (by omega) (by omega), show (13 : Int).toNat = 13 from rfl, hB.2.2.2.1, z_sub, show iZ (B.length : Int) - 1 = iZ ((B.length : Int) - 1) from by rw [show (1 : Int32) = iZ 1 from rfl, z_sub], show (0 : Int32) = iZ 0 from rfl, in_z (by omega) (by omega) (by omega) (by omega) (by omega) (by omega), bd1_s]
      by_cases hr : i ≤ t ∧ t - i < B.length
      · have ej : iZ ((t : Int) - (i : Int)) = iZ ((t - i : Nat) : Int) := by rw [show ((t - i : Nat) : Int) = (t : Int) - (i : Int) by omega]
        have hai : A[i]? = some (A.getD i 0) := by rw [List.getD_eq_getElem?_getD, List.getElem?_eq_getElem hi]; rfl
        have hbj : B[t - i]? = some (B.getD (t - i) 0) := by rw [List.getD_eq_getElem?_getD, List.getElem?_eq_getElem hr.2]; rfl
        have etw1 : tw + 1 = iZ ((L1.countP (mtI (D 0) (D 1)) + 1 : Nat) : Int) := by rw [hP.1, show (1 : Int32) = iZ 1 from rfl, z_add]; rfl
        rw [if_neg (fun e => (bz_0.mp e) (by omega)), if_pos hr, ej, spotX_s hM, bd1_s, show (16 + (D 1 : Int) + ((t - i : Nat) : Int) - (D 0 : Int) - (i : Int)) = spI (D 0) (D 1) i (t - i) from rfl]
        have hsb : -2147483648 ≤ spI (D 0) (D 1) i (t - i) ∧ spI (D 0) (D 1) i (t - i) ≤ 2147483647 := by unfold spI; omega
        rw [show (32 : Int32) = iZ 32 from rfl, in_z hsb.1 hsb.2 (by omega) (by omega) (by omega) (by omega), bd1_s]
        by_cases hmt : 0 ≤ spI (D 0) (D 1) i (t - i) ∧ spI (D 0) (D 1) i (t - i) ≤ 32
        · have emt : mtI (D 0) (D 1) (i, t - i) = true := by unfold mtI mtB; simpa using hmt
          have etw : tw + 1 = iZ ((L1 ++ [(i, t - i)]).countP (mtI (D 0) (D 1))) := by rw [etw1, cP_push, if_pos emt]
          rw [if_neg (fun e => (bz_0.mp e) hmt), doClear_s hM hB hW hz1 hz2 hv hi hr.2 emt, bd1_s]
          by_cases hcl : clB (wider C dz v) W (D 0) (D 1) A B i (t - i) = false
          · rw [if_neg (fun e => (bz_0.mp e) hcl)]
            exact ⟨_, rfl, _, _, _, _, rfl, hP.skip (p := (i, t - i)) hcl etw⟩
          · have hcl2 : clI (wider C dz v) W (D 0) (D 1) A B (i, t - i) = true := by simpa [clI] using hcl
            rw [if_pos (bz_0.mpr hcl)]
            have hle : L1.countP (clI (wider C dz v) W (D 0) (D 1) A B) ≤ L1.length := List.countP_le_length
            have hlen : L1.length ≤ 600 := by
              rw [← hLe, List.length_append]
              have : (tmL B.length t i).length ≤ i := by
                unfold tmL
                have := List.length_filterMap_le (fun i => if i ≤ t ∧ t - i < B.length then some (i, t - i) else none) (List.range i)
                rw [List.length_range] at this
                exact this
              omega
            by_cases h0 : L1.countP (clI (wider C dz v) W (D 0) (D 1) A B) = 0
            · have ecz : cz = iZ 0 := by rw [hP.2.1, h0]; rfl
              rw [if_pos ecz, gd_z (by omega) (by omega) (by omega), show (6 : Int32) = iZ 6 from rfl, z_add, gd_z (by omega) (by omega) (by omega), z_cl (by omega) (by omega), z_cl (by omega) (by omega), Int.toNat_natCast, show ((6 : Int) + ((t - i : Nat) : Int)).toNat = 6 + (t - i) by omega, hB.1 i _ hai, hB.2.1 _ _ hbj, show (10 : Int32) = iZ 10 from rfl, z_mul, z_add]
              unfold f_X11_layMeetings_j132
              rw [if_pos (show cz = (0 : Int32) from ecz), spotX_s hM, bd1_s]
              unfold f_X11_layMeetings_j156
              rw [e1]
              exact ⟨_, rfl, _, _, _, _, rfl, hP.first hcl2 h0 etw⟩
            · have ecz : ¬ cz = iZ 0 := by
                rw [hP.2.1, z_eq] <;> omega
              rw [if_neg ecz]
              unfold f_X11_layMeetings_j132
              rw [if_neg (show ¬ cz = (0 : Int32) from ecz)]
              unfold f_X11_layMeetings_j156
              rw [e1]
              exact ⟨_, rfl, _, _, _, _, rfl, hP.later hcl2 h0 etw⟩
        · have emt : mtI (D 0) (D 1) (i, t - i) = false := by unfold mtI mtB; simpa using hmt
          rw [if_pos (bz_0.mpr hmt)]
          refine ⟨_, rfl, _, _, _, _, rfl, hP.skip ?_ ?_⟩
          · unfold clI clB
            have : mtB (D 0) (D 1) i (t - i) = false := emt
            simp [this]
          · rw [cP_push, emt, hP.1]; rfl
      · rw [if_pos (bz_0.mpr (by omega)), if_neg hr, List.append_nil]
        exact ⟨_, rfl, _, _, _, _, rfl, hP⟩)
    (by
      rintro s ⟨tw, cz, fs, wh, rfl, hP⟩
      dsimp only
      unfold f_X11_layMeetings_b32
      refine ⟨(iZ A.length, tw, cz, fs, wh), ?_, hP⟩
      rw [show (12 : Int32) = iZ 12 from rfl, gd_z (by omega) (by omega) (by omega), z_cl (by omega) (by omega), show (12 : Int).toNat = 12 from rfl, hB.2.2.1, if_pos (by rw [z_le] <;> omega)])
    (by omega)
  obtain ⟨r0, r1, r2, r3, r4⟩ := r
  exact ⟨r0, r1, r2, r3, r4, h1, h2⟩
