theorem ringM_s {bk : Nat → Int32} {A B : List Nat} {b : Nat} (h : BookRep bk A B b) (hW : Wf A B) (hb : b ≤ 99) : ∃ bk', f_X11_ring bk = some (iZ ((if b < 99 then 0 else 4 : Nat) : Int), bk') ∧ (¬ b < 99 → bk' = bk) ∧ (b < 99 → BookRep bk' A B (b + 1)) := by
  have hA := hW.1
  have hB := hW.2.1
  unfold f_X11_ring
  rw [show (14 : Int32) = iZ 14 from rfl, gd_z (by omega) (by omega) (by omega), z_cl (by omega) (by omega), show (14 : Int).toNat = 14 from rfl, h.2.2.2.2]
  by_cases h9 : b < 99
  · rw [show (99 : Int32) = iZ 99 from rfl, if_neg (by rw [z_eq] <;> omega), gd_z (by omega) (by omega) (by omega), gd_z (by omega) (by omega) (by omega), show (1 : Int32) = iZ 1 from rfl, z_add, if_pos h9]
    refine ⟨_, rfl, fun h1 => absurd h9 h1, fun _ => ⟨fun i m hi => ?_, fun i m hi => ?_, ?_, ?_, ?_⟩⟩
    · have := (List.getElem?_eq_some_iff.mp hi).1
      rw [upd_ne _ _ (by omega)]; exact h.1 i m hi
    · have := (List.getElem?_eq_some_iff.mp hi).1
      rw [upd_ne _ _ (by omega)]; exact h.2.1 i m hi
    · rw [upd_ne _ _ (by omega)]; exact h.2.2.1
    · rw [upd_ne _ _ (by omega)]; exact h.2.2.2.1
    · rw [upd_at]; rfl
  · rw [show (99 : Int32) = iZ 99 from rfl, if_pos (by rw [z_eq] <;> omega), if_neg h9]
    exact ⟨bk, rfl, fun _ => rfl, fun h1 => absurd h1 h9⟩
theorem spotM_of {A B : List Nat} (hW : Wf A B) {k : Nat} (hin : k ∈ A ∨ k ∈ B) : ∃ r, r < 2 ∧ k ∈ rowL A B r ∧ spotM A B k = ((6 * r + (rowL A B r).idxOf k : Nat) : Int) := by
  by_cases hA : k ∈ A
  · refine ⟨0, by omega, hA, ?_⟩
    unfold spotM
    rw [if_pos hA, show rowL A B 0 = A from rfl]
    omega
  · have hB := hin.resolve_left hA
    refine ⟨1, by omega, hB, ?_⟩
    unfold spotM
    rw [if_neg hA, if_pos hB, show rowL A B 1 = B from rfl]
    omega
theorem get_row {A B : List Nat} {r : Nat} (hr : r < 2) : (∀ (f : Nat → Int32), (∀ i m : Nat, (rowL A B r)[i]? = some m → f (6 * r + i) = iZ m) → (∀ i m : Nat, (rowL A B (1 - r))[i]? = some m → f (6 * (1 - r) + i) = iZ m) → (∀ i m : Nat, A[i]? = some m → f i = iZ m) ∧ (∀ i m : Nat, B[i]? = some m → f (6 + i) = iZ m)) := by
  intro f h1 h2
  have hr2 : r = 0 ∨ r = 1 := by omega
  rcases hr2 with rfl | rfl
  · refine ⟨fun i m hi => ?_, fun i m hi => ?_⟩
    · have := h1 i m hi; rwa [show 6 * 0 + i = i by omega] at this
    · exact h2 i m hi
  · refine ⟨fun i m hi => ?_, fun i m hi => ?_⟩
    · have := h2 i m hi; rwa [show 6 * (1 - 1) + i = i by omega] at this
    · exact h1 i m hi
theorem erase_row {A B : List Nat} (hW : Wf A B) {r k : Nat} (hr : r < 2) (hk : k ∈ rowL A B r) : rowL (A.erase k) (B.erase k) r = (rowL A B r).erase k ∧ rowL (A.erase k) (B.erase k) (1 - r) = rowL A B (1 - r) := by
  have hr2 : r = 0 ∨ r = 1 := by omega
  rcases hr2 with rfl | rfl
  · exact ⟨rfl, List.erase_of_not_mem (fun h => hW.dj hk h)⟩
  · exact ⟨rfl, List.erase_of_not_mem (fun h => hW.dj h hk)⟩
theorem goHomeM_s {bk : Nat → Int32} {A B : List Nat} {b : Nat} (h : BookRep bk A B b) (hW : Wf A B) {k : Nat} (hk : k < 10) : ∃ bk', f_X11_goHome bk (iZ k) = some (iZ ((if k ∈ A ∨ k ∈ B then 0 else 1 : Nat) : Int), bk') ∧ (¬ (k ∈ A ∨ k ∈ B) → bk' = bk) ∧ (k ∈ A ∨ k ∈ B → BookRep bk' (A.erase k) (B.erase k) b) := by
  unfold f_X11_goHome
  rw [spotM_s h hW (by omega), bd1_s]
  have hs := spotM_le hW k
  by_cases hin : k ∈ A ∨ k ∈ B
  · obtain ⟨r, hr, hm, es⟩ := spotM_of hW hin
    have hlen := hW.len r
    have hix := List.idxOf_lt_length_iff.mpr hm
    rw [es, show (0 : Int32) = iZ 0 from rfl, if_pos (by rw [z_le] <;> omega), show (6 : Int32) = iZ 6 from rfl, z_div (by omega) (by omega) (by omega) (by omega), z_rem (by omega) (by omega) (by omega) (by omega)]
    have e1 : ((6 * r + (rowL A B r).idxOf k : Nat) : Int) / 6 = (r : Int) := by omega
    have e2 : ((6 * r + (rowL A B r).idxOf k : Nat) : Int) % 6 = ((rowL A B r).idxOf k : Int) := by omega
    rw [e1, e2, show (12 : Int32) = iZ 12 from rfl, z_add, gd_z (by omega) (by omega) (by omega), gd_z (by omega) (by omega) (by omega), z_cl (by omega) (by omega), show ((12 : Int) + (r : Int)).toNat = 12 + r by omega, br_len h hr, show (1 : Int32) = iZ 1 from rfl, z_sub]
    generalize hL : (rowL A B r).length = L at *
    generalize hI : (rowL A B r).idxOf k = I at *
    have step : loopN (fun (q : Int32 × (Nat → Int32)) => f_X11_goHome_b36 q.1 q.2 (iZ r)) FU (iZ (I : Int), upd bk (12 + r) (iZ ((L : Int) - 1))) = some (iZ ((L - 1 : Nat) : Int), fun q => if 6 * r + I ≤ q ∧ q < 6 * r + I + (L - 1 - I) then bk (q + 1) else upd bk (12 + r) (iZ ((L : Int) - 1)) q) := by
      rw [loop_FU (fun j : Nat => ((iZ ((I + j : Nat) : Int) : Int32), ((fun q => if 6 * r + I ≤ q ∧ q < 6 * r + I + j then bk (q + 1) else upd bk (12 + r) (iZ ((L : Int) - 1)) q) : Nat → Int32))) (L - 1 - I) (r := (iZ ((L - 1 : Nat) : Int), fun q => if 6 * r + I ≤ q ∧ q < 6 * r + I + (L - 1 - I) then bk (q + 1) else upd bk (12 + r) (iZ ((L : Int) - 1)) q)) ?_ ?_ ?_ (by omega)]
      · refine Prod.ext rfl (funext fun q => ?_)
        dsimp only
        rw [if_neg (by omega)]
      · intro j hj
        dsimp only
        unfold f_X11_goHome_b36
        have eR : (if 6 * r + I ≤ 12 + r ∧ 12 + r < 6 * r + I + j then bk (12 + r + 1) else upd bk (12 + r) (iZ ((L : Int) - 1)) (12 + r)) = iZ ((L : Int) - 1) := by rw [if_neg (by omega), upd_at]
        have e3 : ((6 : Int) * (r : Int) + ((I + j : Nat) : Int) + 1).toNat = 6 * r + I + j + 1 := by omega
        have e4 : ((6 : Int) * (r : Int) + ((I + j : Nat) : Int)).toNat = 6 * r + I + j := by omega
        rw [show (12 : Int32) = iZ 12 from rfl, z_add, gd_z (by omega) (by omega) (by omega), z_cl (by omega) (by omega), show ((12 : Int) + (r : Int)).toNat = 12 + r by omega]
        simp only [eR]
        rw [if_neg (by rw [z_le] <;> omega), show (6 : Int32) = iZ 6 from rfl, z_mul, z_add, show (1 : Int32) = iZ 1 from rfl, z_add, gd_z (by omega) (by omega) (by omega), gd_z (by omega) (by omega) (by omega), z_cl (by omega) (by omega), z_cl (by omega) (by omega), e3, e4, z_add]
        refine congrArg some (congrArg Sum.inl (Prod.ext rfl (funext fun q => ?_)))
        dsimp only
        unfold upd
        by_cases hq : q = 6 * r + I + j
        · subst hq
          rw [if_pos rfl, if_neg (by omega), if_neg (by omega), if_pos (by omega)]
        · rw [if_neg hq]
          by_cases hq2 : 6 * r + I ≤ q ∧ q < 6 * r + I + j
          · dsimp only; rw [if_pos hq2, if_pos (by omega)]
          · dsimp only; rw [if_neg hq2, if_neg (show ¬ (6 * r + I ≤ q ∧ q < 6 * r + I + (j + 1)) by omega)]
      · dsimp only
        unfold f_X11_goHome_b36
        have eR : (if 6 * r + I ≤ 12 + r ∧ 12 + r < 6 * r + I + (L - 1 - I) then bk (12 + r + 1) else upd bk (12 + r) (iZ ((L : Int) - 1)) (12 + r)) = iZ ((L : Int) - 1) := by rw [if_neg (by omega), upd_at]
        rw [show (12 : Int32) = iZ 12 from rfl, z_add, gd_z (by omega) (by omega) (by omega), z_cl (by omega) (by omega), show ((12 : Int) + (r : Int)).toNat = 12 + r by omega]
        simp only [eR]
        rw [if_pos (by rw [z_le] <;> omega), show I + (L - 1 - I) = L - 1 by omega]
    rw [step, bd2_s, if_pos hin]
    refine ⟨_, rfl, fun h1 => absurd hin h1, fun _ => ?_⟩
    obtain ⟨q1, q2⟩ := erase_row hW hr hm
    have hlen2 := hW.len (1 - r)
    have hg := get_row (A := A.erase k) (B := B.erase k) hr (fun q => if 6 * r + I ≤ q ∧ q < 6 * r + I + (L - 1 - I) then bk (q + 1) else upd bk (12 + r) (iZ ((L : Int) - 1)) q) (fun i m hi => ?_) (fun i m hi => ?_)
    · have hlr : (rowL (A.erase k) (B.erase k) r).length = L - 1 := by rw [q1, List.length_erase_of_mem hm, hL]
      have hl2 : (rowL (A.erase k) (B.erase k) (1 - r)).length = (rowL A B (1 - r)).length := by rw [q2]
      have t12 : ∀ s : Nat, s < 2 → (if 6 * r + I ≤ 12 + s ∧ 12 + s < 6 * r + I + (L - 1 - I) then bk (12 + s + 1) else upd bk (12 + r) (iZ ((L : Int) - 1)) (12 + s)) = iZ (rowL (A.erase k) (B.erase k) s).length := by
        intro s hs2
        rw [if_neg (by omega)]
        by_cases hsr : s = r
        · subst hsr
          rw [upd_at, hlr]
          congr 1
          omega
        · rw [upd_ne _ _ (by omega), br_len h hs2]
          have : s = 1 - r := by omega
          rw [this, hl2]
      refine ⟨hg.1, hg.2, t12 0 (by omega), t12 1 (by omega), ?_⟩
      dsimp only
      rw [if_neg (by omega), upd_ne _ _ (by omega)]
      exact h.2.2.2.2
    · try dsimp only
      rw [q1] at hi
      have hil := (List.getElem?_eq_some_iff.mp hi).1
      rw [List.length_erase_of_mem hm, hL] at hil
      rw [List.erase_eq_eraseIdx_of_idxOf hI, List.getElem?_eraseIdx] at hi
      by_cases hiI : i < I
      · rw [if_pos hiI] at hi
        rw [if_neg (by omega), upd_ne _ _ (by omega)]
        exact br_at h hr hi
      · rw [if_neg hiI] at hi
        rw [if_pos (by omega), show 6 * r + i + 1 = 6 * r + (i + 1) by omega]
        exact br_at h hr hi
    · try dsimp only
      rw [q2] at hi
      have hil := (List.getElem?_eq_some_iff.mp hi).1
      rw [if_neg (by omega), upd_ne _ _ (by omega)]
      exact br_at h (by omega) hi
  · rw [show (0 : Int32) = iZ 0 from rfl, if_neg (by rw [z_le] <;> first | (have := (spotM_lt A B k).mpr hin; omega) | omega), if_neg hin]
    exact ⟨bk, rfl, fun _ => rfl, fun h1 => absurd h1 hin⟩
theorem changeM_s {bk : Nat → Int32} {A B : List Nat} {b : Nat} (h : BookRep bk A B b) (hW : Wf A B) {k x : Nat} (hk : k < 10) (hx : x < 10) : ∃ bk', f_X11_change bk (iZ k) (iZ x) = some (iZ ((if k ∈ A ∨ k ∈ B then (if x ∈ A ∨ x ∈ B then (if k = x then 3 else 0) else 1) else 1 : Nat) : Int), bk') ∧ (¬ ((k ∈ A ∨ k ∈ B) ∧ (x ∈ A ∨ x ∈ B) ∧ k ≠ x) → bk' = bk) ∧ ((k ∈ A ∨ k ∈ B) → (x ∈ A ∨ x ∈ B) → k ≠ x → BookRep bk' (A.map (sw k x)) (B.map (sw k x)) b) := by
  unfold f_X11_change
  rw [spotM_s h hW (by omega), bd1_s, spotM_s h hW (by omega), bd1_s]
  have hs1 := spotM_le hW k
  have hs2 := spotM_le hW x
  by_cases hin : k ∈ A ∨ k ∈ B
  · rw [show (0 : Int32) = iZ 0 from rfl, if_neg (by rw [z_lt, spotM_lt] <;> first | exact not_not_intro hin | omega), if_pos hin]
    by_cases hin2 : x ∈ A ∨ x ∈ B
    · rw [if_pos (by rw [z_le] <;> first | (have := mt (spotM_lt A B x).mp (not_not_intro hin2); omega) | omega), if_pos hin2]
      by_cases e : k = x
      · rw [if_pos (by rw [e]), if_pos e]
        exact ⟨bk, rfl, fun _ => rfl, fun _ _ h3 => absurd e h3⟩
      · rw [if_neg (by rw [z_eq] <;> omega), if_neg e]
        obtain ⟨r, hr, hm, es⟩ := spotM_of hW hin
        obtain ⟨r2, hr2, hm2, es2⟩ := spotM_of hW hin2
        have hlen := hW.len r
        have hix := List.idxOf_lt_length_iff.mpr hm
        have hlen2 := hW.len r2
        have hix2 := List.idxOf_lt_length_iff.mpr hm2
        rw [es, es2, gd_z (by omega) (by omega) (by omega), gd_z (by omega) (by omega) (by omega), z_cl (by omega) (by omega), z_cl (by omega) (by omega), Int.toNat_natCast, Int.toNat_natCast]
        refine ⟨_, rfl, fun h1 => absurd ⟨hin, hin2, e⟩ h1, fun _ _ _ => ?_⟩
        have key : ∀ s : Nat, s < 2 → ∀ i m : Nat, (rowL (A.map (sw k x)) (B.map (sw k x)) s)[i]? = some m → upd (upd bk (6 * r + (rowL A B r).idxOf k) (iZ x)) (6 * r2 + (rowL A B r2).idxOf x) (iZ k) (6 * s + i) = iZ m := by
          intro s hs i m hi
          have hmap : rowL (A.map (sw k x)) (B.map (sw k x)) s = (rowL A B s).map (sw k x) := by unfold rowL; split <;> rfl
          rw [hmap, List.getElem?_map] at hi
          cases h0 : (rowL A B s)[i]? with
          | none => rw [h0] at hi; cases hi
          | some m0 =>
            rw [h0] at hi
            have em : sw k x m0 = m := Option.some.inj hi
            have hil := (List.getElem?_eq_some_iff.mp h0).1
            have hls := hW.len s
            have hmem := List.mem_of_getElem? h0
            have hidx := idx_of (hW.nL s) h0
            have samerow : ∀ {y t : Nat}, t < 2 → y ∈ rowL A B t → y ∈ rowL A B s → t = s := by
              intro y t ht h1 h2
              have := (rowNo_iff hW ht).mpr h1
              have := (rowNo_iff hW hs).mpr h2
              omega
            by_cases e1 : m0 = k
            · subst e1
              have hrs := samerow hr hm hmem
              subst hrs
              have : sw m0 x m0 = x := by unfold sw; rw [if_pos rfl]
              rw [this] at em
              subst em
              have hne : 6 * r + i ≠ 6 * r2 + (rowL A B r2).idxOf x := by
                intro e3
                have hrr : r = r2 := by omega
                subst hrr
                have h7 : (rowL A B r).idxOf x = i := by omega
                have h8 := of_idx hm2
                rw [h7, h0] at h8
                exact e (Option.some.inj h8)
              rw [upd_ne _ _ hne, hidx, upd_at]
            · by_cases e2 : m0 = x
              · subst e2
                have hrs := samerow hr2 hm2 hmem
                subst hrs
                have : sw k m0 m0 = k := by unfold sw; rw [if_neg e1, if_pos rfl]
                rw [this] at em
                subst em
                rw [hidx, upd_at]
              · have : sw k x m0 = m0 := by unfold sw; rw [if_neg e1, if_neg e2]
                rw [this] at em
                subst em
                have hn1 : 6 * s + i ≠ 6 * r2 + (rowL A B r2).idxOf x := by
                  intro e3
                  have hrr : s = r2 := by omega
                  subst hrr
                  have h7 : (rowL A B s).idxOf x = i := by omega
                  have h8 := of_idx hm2
                  rw [h7, h0] at h8
                  exact e2 (Option.some.inj h8)
                have hn2 : 6 * s + i ≠ 6 * r + (rowL A B r).idxOf k := by
                  intro e3
                  have hrr : s = r := by omega
                  subst hrr
                  have h7 : (rowL A B s).idxOf k = i := by omega
                  have h8 := of_idx hm
                  rw [h7, h0] at h8
                  exact e1 (Option.some.inj h8)
                rw [upd_ne _ _ hn1, upd_ne _ _ hn2]
                exact br_at h hs h0
        refine ⟨fun i m hi => ?_, fun i m hi => ?_, ?_, ?_, ?_⟩
        · have := key 0 (by omega) i m hi
          rwa [show 6 * 0 + i = i by omega] at this
        · exact key 1 (by omega) i m hi
        · rw [upd_ne _ _ (by omega), upd_ne _ _ (by omega), List.length_map]; exact h.2.2.1
        · rw [upd_ne _ _ (by omega), upd_ne _ _ (by omega), List.length_map]; exact h.2.2.2.1
        · rw [upd_ne _ _ (by omega), upd_ne _ _ (by omega)]; exact h.2.2.2.2
    · rw [if_neg (by rw [z_le] <;> first | (have := (spotM_lt A B x).mpr hin2; omega) | omega), if_neg hin2]
      exact ⟨bk, rfl, fun _ => rfl, fun _ h2 => absurd h2 hin2⟩
  · rw [show (0 : Int32) = iZ 0 from rfl, if_pos (by rw [z_lt, spotM_lt] <;> first | exact hin | omega), if_neg hin]
    exact ⟨bk, rfl, fun _ => rfl, fun h1 => absurd h1 hin⟩
