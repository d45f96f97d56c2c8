abbrev TW : Type := (Nat → Int32) × (Nat → Int32) × (Nat → Int32) × (Nat → Int32) × (Int32) × (Nat → Int32) × (Nat → Int32) × (Int32) × (Nat → Int32) × (Nat → Int32) × (Int32) × (Nat → Int32) × (Nat → Int32)
abbrev TW.w (x : TW) : Nat → Int32 := x.1
abbrev TW.k (x : TW) : Nat → Int32 := x.2.1
abbrev TW.c (x : TW) : Nat → Int32 := x.2.2.1
abbrev TW.d (x : TW) : Nat → Int32 := x.2.2.2.1
abbrev TW.b (x : TW) : Int32 := x.2.2.2.2.1
abbrev TW.ro (x : TW) : Nat → Int32 := x.2.2.2.2.2.1
abbrev TW.pl (x : TW) : Nat → Int32 := x.2.2.2.2.2.2.1
abbrev TW.rc (x : TW) : Int32 := x.2.2.2.2.2.2.2.1
abbrev TW.rf (x : TW) : Nat → Int32 := x.2.2.2.2.2.2.2.2.1
abbrev TW.rs (x : TW) : Nat → Int32 := x.2.2.2.2.2.2.2.2.2.1
abbrev TW.sc (x : TW) : Int32 := x.2.2.2.2.2.2.2.2.2.2.1
abbrev TW.sf (x : TW) : Nat → Int32 := x.2.2.2.2.2.2.2.2.2.2.2.1
abbrev TW.ss (x : TW) : Nat → Int32 := x.2.2.2.2.2.2.2.2.2.2.2.2
abbrev BK : Type := (Nat → Int32) × (Nat → Int32) × (Nat → Int32) × (Nat → Int32) × (Nat → Int32) × (Int32) × (Nat → Int32) × (Nat → Int32) × (Int32) × (Nat → Int32)
abbrev BK.bk (x : BK) : Nat → Int32 := x.1
abbrev BK.wd (x : BK) : Nat → Int32 := x.2.1
abbrev BK.ky (x : BK) : Nat → Int32 := x.2.2.1
abbrev BK.wi (x : BK) : Nat → Int32 := x.2.2.2.1
abbrev BK.dl (x : BK) : Nat → Int32 := x.2.2.2.2.1
abbrev BK.rn (x : BK) : Int32 := x.2.2.2.2.2.1
abbrev BK.ah (x : BK) : Nat → Int32 := x.2.2.2.2.2.2.1
abbrev BK.af (x : BK) : Nat → Int32 := x.2.2.2.2.2.2.2.1
abbrev BK.sn (x : BK) : Int32 := x.2.2.2.2.2.2.2.2.1
abbrev BK.si (x : BK) : Nat → Int32 := x.2.2.2.2.2.2.2.2.2
abbrev TR (T : TW) (M : BK) (A B : List Nat) (b : Nat) (W K C D : Nat → Nat) (N : Nat) (F S : Nat → Nat) (N2 : Nat) (F2 S2 : Nat → Nat) : Prop := Wf A B ∧ b ≤ 99 ∧ T.b = iZ b ∧ RowsRep T.ro T.pl A B ∧ BookRep M.bk A B b ∧ Same 10 1 15 T.w M.wd W ∧ Same 10 0 12 T.k M.ky K ∧ Same 17 1 30 T.c M.wi C ∧ Same 2 0 20 T.d M.dl D ∧ T.rc = iZ N ∧ M.rn = iZ N ∧ RulesRep N T.rf T.rs M.ah M.af F S ∧ T.sc = iZ N2 ∧ M.sn = iZ N2 ∧ SightsRep N2 T.sf T.ss M.si F2 S2
theorem TR.hW {T : TW} {M : BK} {A B : List Nat} {b : Nat} {W K C D : Nat → Nat} {N : Nat} {F S : Nat → Nat} {N2 : Nat} {F2 S2 : Nat → Nat} (h : TR T M A B b W K C D N F S N2 F2 S2) : Wf A B := h.1
theorem TR.hb {T : TW} {M : BK} {A B : List Nat} {b : Nat} {W K C D : Nat → Nat} {N : Nat} {F S : Nat → Nat} {N2 : Nat} {F2 S2 : Nat → Nat} (h : TR T M A B b W K C D N F S N2 F2 S2) : b ≤ 99 := h.2.1
theorem TR.hbz {T : TW} {M : BK} {A B : List Nat} {b : Nat} {W K C D : Nat → Nat} {N : Nat} {F S : Nat → Nat} {N2 : Nat} {F2 S2 : Nat → Nat} (h : TR T M A B b W K C D N F S N2 F2 S2) : T.b = iZ b := h.2.2.1
theorem TR.hR {T : TW} {M : BK} {A B : List Nat} {b : Nat} {W K C D : Nat → Nat} {N : Nat} {F S : Nat → Nat} {N2 : Nat} {F2 S2 : Nat → Nat} (h : TR T M A B b W K C D N F S N2 F2 S2) : RowsRep T.ro T.pl A B := h.2.2.2.1
theorem TR.hB {T : TW} {M : BK} {A B : List Nat} {b : Nat} {W K C D : Nat → Nat} {N : Nat} {F S : Nat → Nat} {N2 : Nat} {F2 S2 : Nat → Nat} (h : TR T M A B b W K C D N F S N2 F2 S2) : BookRep M.bk A B b := h.2.2.2.2.1
theorem TR.h1 {T : TW} {M : BK} {A B : List Nat} {b : Nat} {W K C D : Nat → Nat} {N : Nat} {F S : Nat → Nat} {N2 : Nat} {F2 S2 : Nat → Nat} (h : TR T M A B b W K C D N F S N2 F2 S2) : Same 10 1 15 T.w M.wd W := h.2.2.2.2.2.1
theorem TR.h2 {T : TW} {M : BK} {A B : List Nat} {b : Nat} {W K C D : Nat → Nat} {N : Nat} {F S : Nat → Nat} {N2 : Nat} {F2 S2 : Nat → Nat} (h : TR T M A B b W K C D N F S N2 F2 S2) : Same 10 0 12 T.k M.ky K := h.2.2.2.2.2.2.1
theorem TR.h3 {T : TW} {M : BK} {A B : List Nat} {b : Nat} {W K C D : Nat → Nat} {N : Nat} {F S : Nat → Nat} {N2 : Nat} {F2 S2 : Nat → Nat} (h : TR T M A B b W K C D N F S N2 F2 S2) : Same 17 1 30 T.c M.wi C := h.2.2.2.2.2.2.2.1
theorem TR.h4 {T : TW} {M : BK} {A B : List Nat} {b : Nat} {W K C D : Nat → Nat} {N : Nat} {F S : Nat → Nat} {N2 : Nat} {F2 S2 : Nat → Nat} (h : TR T M A B b W K C D N F S N2 F2 S2) : Same 2 0 20 T.d M.dl D := h.2.2.2.2.2.2.2.2.1
theorem TR.hrc {T : TW} {M : BK} {A B : List Nat} {b : Nat} {W K C D : Nat → Nat} {N : Nat} {F S : Nat → Nat} {N2 : Nat} {F2 S2 : Nat → Nat} (h : TR T M A B b W K C D N F S N2 F2 S2) : T.rc = iZ N := h.2.2.2.2.2.2.2.2.2.1
theorem TR.hrn {T : TW} {M : BK} {A B : List Nat} {b : Nat} {W K C D : Nat → Nat} {N : Nat} {F S : Nat → Nat} {N2 : Nat} {F2 S2 : Nat → Nat} (h : TR T M A B b W K C D N F S N2 F2 S2) : M.rn = iZ N := h.2.2.2.2.2.2.2.2.2.2.1
theorem TR.h5 {T : TW} {M : BK} {A B : List Nat} {b : Nat} {W K C D : Nat → Nat} {N : Nat} {F S : Nat → Nat} {N2 : Nat} {F2 S2 : Nat → Nat} (h : TR T M A B b W K C D N F S N2 F2 S2) : RulesRep N T.rf T.rs M.ah M.af F S := h.2.2.2.2.2.2.2.2.2.2.2.1
theorem TR.hsc {T : TW} {M : BK} {A B : List Nat} {b : Nat} {W K C D : Nat → Nat} {N : Nat} {F S : Nat → Nat} {N2 : Nat} {F2 S2 : Nat → Nat} (h : TR T M A B b W K C D N F S N2 F2 S2) : T.sc = iZ N2 := h.2.2.2.2.2.2.2.2.2.2.2.2.1
theorem TR.hsn {T : TW} {M : BK} {A B : List Nat} {b : Nat} {W K C D : Nat → Nat} {N : Nat} {F S : Nat → Nat} {N2 : Nat} {F2 S2 : Nat → Nat} (h : TR T M A B b W K C D N F S N2 F2 S2) : M.sn = iZ N2 := h.2.2.2.2.2.2.2.2.2.2.2.2.2.1
theorem TR.h6 {T : TW} {M : BK} {A B : List Nat} {b : Nat} {W K C D : Nat → Nat} {N : Nat} {F S : Nat → Nat} {N2 : Nat} {F2 S2 : Nat → Nat} (h : TR T M A B b W K C D N F S N2 F2 S2) : SightsRep N2 T.sf T.ss M.si F2 S2 := h.2.2.2.2.2.2.2.2.2.2.2.2.2.2
def TRel (T : TW) (M : BK) : Prop := ∃ A B b W K C D N F S N2 F2 S2, TR T M A B b W K C D N F S N2 F2 S2
def AgT (T T' : TW) : Prop := (∀ i, i < 10 → T'.w i = T.w i) ∧ (∀ i, i < 10 → T'.k i = T.k i) ∧ (∀ i, i < 17 → T'.c i = T.c i) ∧ (∀ i, i < 2 → T'.d i = T.d i) ∧ T'.b = T.b ∧ (∀ i, i < 10 → T'.ro i = T.ro i) ∧ (∀ i, i < 10 → T'.pl i = T.pl i) ∧ T'.rc = T.rc ∧ (∀ i, i < 10 → T'.rf i = T.rf i) ∧ (∀ i, i < 10 → T'.rs i = T.rs i) ∧ T'.sc = T.sc ∧ (∀ i, i < 8 → T'.sf i = T.sf i) ∧ (∀ i, i < 8 → T'.ss i = T.ss i)
def AgM (M M' : BK) : Prop := (∀ i, i < 15 → M'.bk i = M.bk i) ∧ (∀ i, i < 10 → M'.wd i = M.wd i) ∧ (∀ i, i < 10 → M'.ky i = M.ky i) ∧ (∀ i, i < 17 → M'.wi i = M.wi i) ∧ (∀ i, i < 2 → M'.dl i = M.dl i) ∧ M'.rn = M.rn ∧ (∀ i, i < 10 → M'.ah i = M.ah i) ∧ (∀ i, i < 10 → M'.af i = M.af i) ∧ M'.sn = M.sn ∧ (∀ i, i < 16 → M'.si i = M.si i)
theorem Same.ag {n lo hi : Nat} {f g f' g' : Nat → Int32} {V : Nat → Nat} (h : Same n lo hi f g V) (hf : ∀ i, i < n → f' i = f i) (hg : ∀ i, i < n → g' i = g i) : Same n lo hi f' g' V := by
  intro i hi'
  rw [hf i hi', hg i hi']
  exact h i hi'
theorem BookRep.ag {bk bk' : Nat → Int32} {A B : List Nat} {b : Nat} (h : BookRep bk A B b) (hW : Wf A B) (hg : ∀ i, i < 15 → bk' i = bk i) : BookRep bk' A B b := by
  obtain ⟨h1, h2, h3, h4, h5⟩ := h
  refine ⟨fun i m hi => ?_, fun i m hi => ?_, ?_, ?_, ?_⟩
  · have := (List.getElem?_eq_some_iff.mp hi).1
    have := hW.1
    rw [hg _ (by omega)]
    exact h1 i m hi
  · have := (List.getElem?_eq_some_iff.mp hi).1
    have := hW.2.1
    rw [hg _ (by omega)]
    exact h2 i m hi
  · rw [hg _ (by omega)]; exact h3
  · rw [hg _ (by omega)]; exact h4
  · rw [hg _ (by omega)]; exact h5
theorem TRel.ag {T T' : TW} {M M' : BK} (h : TRel T M) (hT : AgT T T') (hM : AgM M M') : TRel T' M' := by
  obtain ⟨A, B, b, W, K, C, D, N, F, S, N2, F2, S2, h⟩ := h
  obtain ⟨t1, t2, t3, t4, t5, t6, t7, t8, t9, t10, t11, t12, t13⟩ := hT
  obtain ⟨m1, m2, m3, m4, m5, m6, m7, m8, m9, m10⟩ := hM
  refine ⟨A, B, b, W, K, C, D, N, F, S, N2, F2, S2, h.hW, h.hb, t5.trans h.hbz, ?_, h.hB.ag h.hW m1, h.h1.ag t1 m2, h.h2.ag t2 m3, h.h3.ag t3 m4, h.h4.ag t4 m5, t8.trans h.hrc, m6.trans h.hrn, ⟨h.h5.1, ?_⟩, t11.trans h.hsc, m9.trans h.hsn, ⟨h.h6.1, ?_⟩⟩
  · intro m hm
    rw [t6 m hm, t7 m hm]
    exact h.hR m hm
  · intro i hi
    have := h.h5.1
    rw [t9 i (by omega), t10 i (by omega), m7 i (by omega), m8 i (by omega)]
    exact h.h5.2 i hi
  · intro i hi
    have := h.h6.1
    rw [t12 i (by omega), t13 i (by omega), m10 _ (by omega), m10 _ (by omega)]
    exact h.h6.2 i hi
def cpT (T U : TW) : TW := ⟨cp 10 T.w U.w, cp 10 T.k U.k, cp 17 T.c U.c, cp 2 T.d U.d, T.b, cp 10 T.ro U.ro, cp 10 T.pl U.pl, T.rc, cp 10 T.rf U.rf, cp 10 T.rs U.rs, T.sc, cp 8 T.sf U.sf, cp 8 T.ss U.ss⟩
theorem cpT_ag (T U : TW) : AgT T (cpT T U) := ⟨fun _ h => cp_lt h, fun _ h => cp_lt h, fun _ h => cp_lt h, fun _ h => cp_lt h, rfl, fun _ h => cp_lt h, fun _ h => cp_lt h, rfl, fun _ h => cp_lt h, fun _ h => cp_lt h, rfl, fun _ h => cp_lt h, fun _ h => cp_lt h⟩
theorem AgM.refl (M : BK) : AgM M M := ⟨fun _ _ => rfl, fun _ _ => rfl, fun _ _ => rfl, fun _ _ => rfl, fun _ _ => rfl, rfl, fun _ _ => rfl, fun _ _ => rfl, rfl, fun _ _ => rfl⟩
def blk (I : Nat → Int32) (o n : Nat) (f : Nat → Int32) : Nat → Int32 := fun j => if o ≤ j ∧ j < o + n then f (j - o) else I j
theorem blk_0 (I : Nat → Int32) (o : Nat) (f : Nat → Int32) : blk I o 0 f = I := by
  funext j
  unfold blk
  rw [if_neg (by omega)]
theorem blk_in {I : Nat → Int32} {o n k : Nat} {f : Nat → Int32} (h : k < n) : blk I o n f (o + k) = f k := by
  unfold blk
  rw [if_pos (by omega), Nat.add_sub_cancel_left]
theorem blk_out {I : Nat → Int32} {o n j : Nat} {f : Nat → Int32} (h : j < o ∨ o + n ≤ j) : blk I o n f j = I j := by
  unfold blk
  rw [if_neg (by omega)]
theorem upd_blk (I : Nat → Int32) (o i : Nat) (f : Nat → Int32) : upd (blk I o i f) (o + i) (f i) = blk I o (i + 1) f := by
  funext j
  by_cases h : j = o + i
  · subst h
    rw [upd_at, blk_in (by omega)]
  · rw [upd_ne _ _ h]
    unfold blk
    by_cases h2 : o ≤ j ∧ j < o + i
    · rw [if_pos h2, if_pos (by omega)]
    · rw [if_neg h2, if_neg (by omega)]
theorem upd_blk_ne {I : Nat → Int32} {o i p : Nat} {f : Nat → Int32} {v : Int32} (h : p < o ∨ o + i ≤ p) : upd (blk I o i f) p v = blk (upd I p v) o i f := by
  funext j
  by_cases hj : j = p
  · subst hj
    rw [upd_at, blk_out h, upd_at]
  · rw [upd_ne _ _ hj]
    unfold blk
    by_cases h2 : o ≤ j ∧ j < o + i
    · rw [if_pos h2, if_pos h2]
    · rw [if_neg h2, if_neg h2, upd_ne _ _ hj]
theorem im19 {o : Nat} (ho : o ≤ 100) (bk I : Nat → Int32) : loopN (fun (q : Int32 × (Nat → Int32)) => f_X11_image_b19 bk q.1 q.2 (iZ o)) FU (0, I) = some (iZ 15, blk I o 15 bk) := by
  refine loop_FU (fun i : Nat => ((iZ i : Int32), blk I o i bk)) 15 ?_ ?_ ?_ (by omega)
  · rw [blk_0]; rfl
  · intro i hi
    dsimp only
    unfold f_X11_image_b19
    rw [show (15 : Int32) = iZ 15 from rfl, show (1 : Int32) = iZ 1 from rfl, if_neg (by rw [z_le] <;> omega), z_add, gd_z (by omega) (by omega) (by omega), gd_z (by omega) (by omega) (by omega), z_cl (by omega) (by omega), z_cl (by omega) (by omega), z_add, Int.toNat_natCast, show ((o : Int) + (i : Int)).toNat = o + i by omega, upd_blk]
    rfl
  · dsimp only
    unfold f_X11_image_b19
    rw [if_pos (by decide)]
    rfl
theorem im129 {o : Nat} (ho : o ≤ 100) (wi I : Nat → Int32) : loopN (fun (q : Int32 × (Nat → Int32)) => f_X11_image_b129 wi q.1 q.2 (iZ o)) FU (0, I) = some (iZ 17, blk I (o + 55) 17 wi) := by
  refine loop_FU (fun i : Nat => ((iZ i : Int32), blk I (o + 55) i wi)) 17 ?_ ?_ ?_ (by omega)
  · rw [blk_0]; rfl
  · intro i hi
    dsimp only
    unfold f_X11_image_b129
    rw [show (17 : Int32) = iZ 17 from rfl, show (55 : Int32) = iZ 55 from rfl, show (1 : Int32) = iZ 1 from rfl, if_neg (by rw [z_le] <;> omega), z_add, z_add, gd_z (by omega) (by omega) (by omega), gd_z (by omega) (by omega) (by omega), z_cl (by omega) (by omega), z_cl (by omega) (by omega), z_add, Int.toNat_natCast, show ((o : Int) + 55 + (i : Int)).toNat = o + 55 + i by omega, upd_blk]
    rfl
  · dsimp only
    unfold f_X11_image_b129
    rw [if_pos (by decide)]
    rfl
theorem im160 {o : Nat} (ho : o ≤ 100) (si I : Nat → Int32) : loopN (fun (q : Int32 × (Nat → Int32)) => f_X11_image_b160 si q.1 q.2 (iZ o)) FU (0, I) = some (iZ 16, blk I (o + 72) 16 si) := by
  refine loop_FU (fun i : Nat => ((iZ i : Int32), blk I (o + 72) i si)) 16 ?_ ?_ ?_ (by omega)
  · rw [blk_0]; rfl
  · intro i hi
    dsimp only
    unfold f_X11_image_b160
    rw [show (16 : Int32) = iZ 16 from rfl, show (72 : Int32) = iZ 72 from rfl, show (1 : Int32) = iZ 1 from rfl, if_neg (by rw [z_le] <;> omega), z_add, z_add, gd_z (by omega) (by omega) (by omega), gd_z (by omega) (by omega) (by omega), z_cl (by omega) (by omega), z_cl (by omega) (by omega), z_add, Int.toNat_natCast, show ((o : Int) + 72 + (i : Int)).toNat = o + 72 + i by omega, upd_blk]
    rfl
  · dsimp only
    unfold f_X11_image_b160
    rw [if_pos (by decide)]
    rfl
theorem im47 {o : Nat} (ho : o ≤ 100) (wd ky ah af I : Nat → Int32) : loopN (fun (q : Int32 × (Nat → Int32)) => f_X11_image_b47 wd ky ah af q.1 q.2 (iZ o)) FU (0, I) = some (iZ 10, blk (blk (blk (blk I (o + 15) 10 wd) (o + 25) 10 ky) (o + 35) 10 ah) (o + 45) 10 af) := by
  refine loop_FU (fun i : Nat => ((iZ i : Int32), blk (blk (blk (blk I (o + 15) i wd) (o + 25) i ky) (o + 35) i ah) (o + 45) i af)) 10 ?_ ?_ ?_ (by omega)
  · rw [blk_0, blk_0, blk_0, blk_0]; rfl
  · intro i hi
    dsimp only
    unfold f_X11_image_b47
    rw [show (10 : Int32) = iZ 10 from rfl, show (15 : Int32) = iZ 15 from rfl, show (25 : Int32) = iZ 25 from rfl, show (35 : Int32) = iZ 35 from rfl, show (45 : Int32) = iZ 45 from rfl, show (1 : Int32) = iZ 1 from rfl, if_neg (by rw [z_le] <;> omega), z_add, z_add, z_add, z_add, z_add, z_add, z_add, z_add]
    iterate 8 rw [gd_z (by omega) (by omega) (by omega)]
    rw [z_cl (a := (i : Int)) (by omega) (by omega), z_cl (by omega) (by omega), z_cl (by omega) (by omega), z_cl (by omega) (by omega), z_cl (by omega) (by omega), z_add, Int.toNat_natCast, show ((o : Int) + 15 + (i : Int)).toNat = o + 15 + i by omega, show ((o : Int) + 25 + (i : Int)).toNat = o + 25 + i by omega, show ((o : Int) + 35 + (i : Int)).toNat = o + 35 + i by omega, show ((o : Int) + 45 + (i : Int)).toNat = o + 45 + i by omega]
    rw [upd_blk_ne (p := o + 15 + i) (by omega), upd_blk_ne (p := o + 15 + i) (by omega), upd_blk_ne (p := o + 15 + i) (by omega), upd_blk, upd_blk_ne (p := o + 25 + i) (by omega), upd_blk_ne (p := o + 25 + i) (by omega), upd_blk, upd_blk_ne (p := o + 35 + i) (by omega), upd_blk, upd_blk]
    rfl
  · dsimp only
    unfold f_X11_image_b47
    rw [if_pos (by decide)]
    rfl
def imF (I : Nat → Int32) (o : Nat) (M : BK) : Nat → Int32 := upd (upd (upd (upd (blk (blk (blk (blk (blk (blk (blk I o 15 M.bk) (o + 15) 10 M.wd) (o + 25) 10 M.ky) (o + 35) 10 M.ah) (o + 45) 10 M.af) (o + 55) 17 M.wi) (o + 72) 16 M.si) (o + 90) (M.dl 0)) (o + 91) (M.dl 1)) (o + 92) M.rn) (o + 93) M.sn
def imB (I : Nat → Int32) (o : Nat) : BK := ⟨fun k => I (o + k), fun k => I (o + 15 + k), fun k => I (o + 25 + k), fun k => I (o + 55 + k), fun k => I (o + 90 + k), I (o + 92), fun k => I (o + 35 + k), fun k => I (o + 45 + k), I (o + 93), fun k => I (o + 72 + k)⟩
theorem imF_ag (I : Nat → Int32) (o : Nat) (M : BK) : AgM M (imB (imF I o M) o) := by
  unfold imB imF
  refine ⟨fun i hi => ?_, fun i hi => ?_, fun i hi => ?_, fun i hi => ?_, fun i hi => ?_, ?_, fun i hi => ?_, fun i hi => ?_, ?_, fun i hi => ?_⟩ <;> dsimp only [BK.bk, BK.wd, BK.ky, BK.wi, BK.dl, BK.rn, BK.ah, BK.af, BK.sn, BK.si]
  · simp (disch := omega) only [upd_ne, blk_out, blk_in]
  · simp (disch := omega) only [upd_ne, blk_out, blk_in]
  · simp (disch := omega) only [upd_ne, blk_out, blk_in]
  · simp (disch := omega) only [upd_ne, blk_out, blk_in]
  · rcases (show i = 0 ∨ i = 1 by omega) with rfl | rfl
    · rw [Nat.add_zero, upd_ne _ _ (by omega), upd_ne _ _ (by omega), upd_ne _ _ (by omega), upd_at]
    · rw [show o + 90 + 1 = o + 91 by omega, upd_ne _ _ (by omega), upd_ne _ _ (by omega), upd_at]
  · rw [upd_ne _ _ (by omega), upd_at]
  · simp (disch := omega) only [upd_ne, blk_out, blk_in]
  · simp (disch := omega) only [upd_ne, blk_out, blk_in]
  · rw [upd_at]
  · simp (disch := omega) only [upd_ne, blk_out, blk_in]
theorem imF_out (I : Nat → Int32) (o : Nat) (M : BK) {j : Nat} (h : j < o ∨ o + 94 ≤ j) : imF I o M j = I j := by
  unfold imF
  rw [upd_ne _ _ (by omega), upd_ne _ _ (by omega), upd_ne _ _ (by omega), upd_ne _ _ (by omega), blk_out (by omega), blk_out (by omega), blk_out (by omega), blk_out (by omega), blk_out (by omega), blk_out (by omega), blk_out (by omega)]
theorem imF_ot (I : Nat → Int32) (o o' : Nat) (M : BK) (h : o' + 94 ≤ o ∨ o + 94 ≤ o') : AgM (imB I o') (imB (imF I o M) o') := by
  unfold imB
  refine ⟨fun i hi => ?_, fun i hi => ?_, fun i hi => ?_, fun i hi => ?_, fun i hi => ?_, ?_, fun i hi => ?_, fun i hi => ?_, ?_, fun i hi => ?_⟩ <;> (dsimp only [BK.bk, BK.wd, BK.ky, BK.wi, BK.dl, BK.rn, BK.ah, BK.af, BK.sn, BK.si]; exact imF_out I o M (by omega))
def ImRel (kept : Int32) (U0 U1 : TW) (I Kp : Nat → Int32) : Prop := ∃ k0 k1 : Nat, k0 ≤ 1 ∧ k1 ≤ 1 ∧ kept = iZ (k0 + 2 * k1 : Nat) ∧ Kp 0 = iZ k0 ∧ Kp 1 = iZ k1 ∧ (k0 = 1 → TRel U0 (imB I 0)) ∧ (k1 = 1 → TRel U1 (imB I 100))
theorem image_model (I Kp : Nat → Int32) (M : BK) {n : Nat} (hn : n ≤ 1) : f_X11_image M.rn M.sn M.bk M.wd M.ky M.wi M.dl M.ah M.af M.si I Kp (iZ n) = some (1, imF I (100 * n) M, upd Kp n 1) := by
  unfold f_X11_image
  rw [show (0 : Int32) = iZ 0 from rfl, show (1 : Int32) = iZ 1 from rfl, in_z (by omega) (by omega) (by omega) (by omega) (by omega) (by omega), bd1_s, if_neg (bzN (by omega)), show (100 : Int32) = iZ 100 from rfl, z_mul, show (100 : Int) * (n : Int) = ((100 * n : Nat) : Int) by omega]
  have e0 : iZ 0 = (0 : Int32) := rfl
  rw [e0, im19 (by omega), bd2_s, im47 (by omega), bd2_s, im129 (by omega), bd2_s, im160 (by omega), bd2_s, ← e0, show (90 : Int32) = iZ 90 from rfl, show (91 : Int32) = iZ 91 from rfl, show (92 : Int32) = iZ 92 from rfl, show (93 : Int32) = iZ 93 from rfl, z_add, z_add, z_add, z_add]
  iterate 7 rw [gd_z (by omega) (by omega) (by omega)]
  rw [z_cl (by omega) (by omega), z_cl (by omega) (by omega), z_cl (by omega) (by omega), z_cl (by omega) (by omega), z_cl (a := (n : Int)) (by omega) (by omega), z_cl (by omega) (by omega), z_cl (by omega) (by omega), Int.toNat_natCast, show (((100 * n : Nat) : Int) + 90).toNat = 100 * n + 90 by omega, show (((100 * n : Nat) : Int) + 91).toNat = 100 * n + 91 by omega, show (((100 * n : Nat) : Int) + 92).toNat = 100 * n + 92 by omega, show (((100 * n : Nat) : Int) + 93).toNat = 100 * n + 93 by omega]
  rfl
