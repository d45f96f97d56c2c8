theorem tmL_len (m t n : Nat) : (tmL m t n).length ≤ n := by
  unfold tmL
  have := List.length_filterMap_le (fun i => if i ≤ t ∧ t - i < m then some (i, t - i) else none) (List.range n)
  rw [List.length_range] at this
  exact this
theorem tmA_len (n m t : Nat) : (tmA n m t).length ≤ t * n := by
  induction t with
  | zero => simp [tmA]
  | succ t ih =>
    rw [tmA_succ, List.length_append, Nat.succ_mul]
    have := tmL_len m t n
    omega
theorem lay_s {w c d now : Nat → Int32} {W C D : Nat → Nat} {A B : List Nat} {b : Nat} (hM : MTown w c d W C D) (hB : BookRep now A B b) (hW : Wf A B) {dz : Int} (hz1 : -6 ≤ dz) (hz2 : dz ≤ 16) {v : Nat} (hv : v ≤ 30) :
    ∃ tw cz fs wh, f_X11_layMeetings (iZ dz) (iZ v) now w c d = some (tw, cz, fs, wh) ∧ MInv (mtI (D 0) (D 1)) (clI (wider C dz v) W (D 0) (D 1) A B) (vI A B) (wvI (D 0) (D 1)) (tmA A.length B.length 11) tw cz fs wh := by
  have hA6 := hW.1
  obtain ⟨r, h1, h2⟩ := loop_inv (body := fun (q : Int32 × Int32 × Int32 × Int32 × Int32) => f_X11_layMeetings_b24 (iZ dz) (iZ v) now w c d q.1 q.2.1 q.2.2.1 q.2.2.2.1 q.2.2.2.2) (s := (0, 0, 0, (-6), (-6)))
    (P := fun r => MInv (mtI (D 0) (D 1)) (clI (wider C dz v) W (D 0) (D 1) A B) (vI A B) (wvI (D 0) (D 1)) (tmA A.length B.length 11) r.2.1 r.2.2.1 r.2.2.2.1 r.2.2.2.2)
    (fun t s => ∃ tw cz fs wh, s = (iZ t, tw, cz, fs, wh) ∧ MInv (mtI (D 0) (D 1)) (clI (wider C dz v) W (D 0) (D 1) A B) (vI A B) (wvI (D 0) (D 1)) (tmA A.length B.length t) tw cz fs wh) 11
    ⟨0, 0, (-6), (-6), rfl, rfl, rfl, fun _ => ⟨rfl, rfl⟩, fun h => absurd h (Nat.lt_irrefl 0)⟩
    (by
      rintro t ht s ⟨tw, cz, fs, wh, rfl, hP⟩
      dsimp only
      have hlen := tmA_len A.length B.length t
      have hlen2 : t * A.length ≤ 10 * 6 := Nat.mul_le_mul (by omega) hA6
      rw [tmA_succ]
      obtain ⟨i', tw', cz', fs', wh', g1, g2⟩ := lay_in hM hB hW hz1 hz2 hv ht (by omega) hP
      unfold f_X11_layMeetings_b24
      have e1 : iZ (t : Int) + 1 = iZ ((t + 1 : Nat) : Int) := by rw [show (1 : Int32) = iZ 1 from rfl, z_add]; rfl
      rw [show (11 : Int32) = iZ 11 from rfl, if_neg (by rw [z_le] <;> omega), g1, bd5_s, e1]
      exact ⟨_, rfl, _, _, _, _, rfl, g2⟩)
    (by
      rintro s ⟨tw, cz, fs, wh, rfl, hP⟩
      dsimp only
      unfold f_X11_layMeetings_b24
      refine ⟨(iZ 11, tw, cz, fs, wh), ?_, hP⟩
      rw [show (11 : Int32) = iZ 11 from rfl, if_pos (by rw [z_le] <;> omega)]
      rfl)
    (by omega)
  unfold f_X11_layMeetings
  obtain ⟨r0, r1, r2, r3, r4⟩ := r
  refine ⟨r1, r2, r3, r4, ?_, h2⟩
  rw [h1, bd5_s]
/-! both sides' pairs are the same -/
def keyI (p : Nat × Nat) : Nat := (p.1 + p.2) * 6 + p.1
theorem mem_tmL {m t n : Nat} {p : Nat × Nat} : p ∈ tmL m t n ↔ p.1 < n ∧ p.2 < m ∧ p.1 + p.2 = t := by
  unfold tmL
  rw [List.mem_filterMap]
  constructor
  · rintro ⟨i, hi, h⟩
    have hi2 := List.mem_range.mp hi
    by_cases hc : i ≤ t ∧ t - i < m
    · rw [if_pos hc] at h
      have := Option.some.inj h
      subst this
      exact ⟨hi2, hc.2, by dsimp only; omega⟩
    · rw [if_neg hc] at h; cases h
  · rintro ⟨h1, h2, h3⟩
    refine ⟨p.1, List.mem_range.mpr h1, ?_⟩
    rw [if_pos (by omega)]
    congr 1
    exact Prod.ext rfl (by dsimp only; omega)
theorem mem_tmA {n m t : Nat} {p : Nat × Nat} : p ∈ tmA n m t ↔ p.1 < n ∧ p.2 < m ∧ p.1 + p.2 < t := by
  unfold tmA
  rw [List.mem_flatMap]
  constructor
  · rintro ⟨s, hs, h⟩
    have hs2 := List.mem_range.mp hs
    obtain ⟨h1, h2, h3⟩ := mem_tmL.mp h
    exact ⟨h1, h2, by omega⟩
  · rintro ⟨h1, h2, h3⟩
    exact ⟨p.1 + p.2, List.mem_range.mpr h3, mem_tmL.mpr ⟨h1, h2, rfl⟩⟩
theorem sort_tmL (m t : Nat) : ∀ n : Nat, (tmL m t n).Pairwise (fun p q => keyI p < keyI q) := by
  intro n
  induction n with
  | zero => exact List.Pairwise.nil
  | succ n ih =>
    rw [tmL_succ, List.pairwise_append]
    refine ⟨ih, ?_, ?_⟩
    · split
      · exact List.pairwise_singleton _ _
      · exact List.Pairwise.nil
    · intro p hp q hq
      obtain ⟨h1, h2, h3⟩ := mem_tmL.mp hp
      split at hq
      · rw [List.mem_singleton.mp hq]
        unfold keyI
        dsimp only
        omega
      · cases hq
theorem sort_tmA {n : Nat} (hn : n ≤ 6) (m : Nat) : ∀ t : Nat, (tmA n m t).Pairwise (fun p q => keyI p < keyI q) := by
  intro t
  induction t with
  | zero => exact List.Pairwise.nil
  | succ t ih =>
    rw [tmA_succ, List.pairwise_append]
    refine ⟨ih, sort_tmL m t n, ?_⟩
    intro p hp q hq
    obtain ⟨h1, h2, h3⟩ := mem_tmA.mp hp
    obtain ⟨h4, h5, h6⟩ := mem_tmL.mp hq
    unfold keyI
    omega
theorem nodup_tmA {n : Nat} (hn : n ≤ 6) (m t : Nat) : (tmA n m t).Nodup := by
  refine (sort_tmA hn m t).imp ?_
  intro p q h e
  subst e
  exact Nat.lt_irrefl _ h
theorem mem_prsM {p : Nat × Nat} : p ∈ prsM 10 ↔ p.1 < 10 ∧ p.2 < 10 := by
  unfold prsM
  rw [List.mem_flatMap]
  constructor
  · rintro ⟨a, ha, h⟩
    obtain ⟨u, hu, rfl⟩ := List.mem_map.mp h
    exact ⟨List.mem_range.mp ha, List.mem_range.mp hu⟩
  · rintro ⟨h1, h2⟩
    exact ⟨p.1, List.mem_range.mpr h1, List.mem_map.mpr ⟨p.2, List.mem_range.mpr h2, rfl⟩⟩
theorem nodup_map_on {α β : Type} {f : α → β} : ∀ {l : List α}, l.Nodup → (∀ x, x ∈ l → ∀ y, y ∈ l → f x = f y → x = y) → (l.map f).Nodup := by
  intro l
  induction l with
  | nil => intro _ _; exact List.nodup_nil
  | cons a l ih =>
    intro h hinj
    have h2 := List.nodup_cons.mp h
    rw [List.map_cons, List.nodup_cons]
    refine ⟨fun h3 => ?_, ih h2.2 (fun x hx y hy => hinj x (List.mem_cons_of_mem _ hx) y (List.mem_cons_of_mem _ hy))⟩
    obtain ⟨b, hb, e⟩ := List.mem_map.mp h3
    have := hinj b (List.mem_cons_of_mem _ hb) a List.mem_cons_self e
    exact h2.1 (this ▸ hb)
theorem nodup_prsM : (prsM 10).Nodup := by
  unfold prsM
  refine nodup_flat _ _ List.nodup_range (fun a _ => nodup_map_on List.nodup_range (fun x _ y _ e => (Prod.mk.inj e).2)) ?_
  intro x _ y _ hxy p hp hq
  obtain ⟨u, -, rfl⟩ := List.mem_map.mp hp
  obtain ⟨w, -, e⟩ := List.mem_map.mp hq
  exact hxy (Prod.mk.inj e).1.symm
def toI (A B : List Nat) (p : Nat × Nat) : Nat × Nat := (A.idxOf p.1, B.idxOf p.2)
theorem idx_inj {l : List Nat} {x y : Nat} (hx : x ∈ l) (hy : y ∈ l) (e : l.idxOf x = l.idxOf y) : x = y := by
  have h1 := of_idx hx
  have h2 := of_idx hy
  rw [e, h2] at h1
  exact (Option.some.inj h1).symm
theorem cnt_eq {A B : List Nat} (hW : Wf A B) {pc pi : Nat × Nat → Bool} (h : ∀ p, pc p = true ↔ p.1 ∈ A ∧ p.2 ∈ B ∧ pi (toI A B p) = true) : (prsM 10).countP pc = (tmA A.length B.length 11).countP pi := by
  have hA := hW.1
  have hB := hW.2.1
  rw [List.countP_eq_length_filter, List.countP_eq_length_filter, ← List.length_map (as := (prsM 10).filter pc) (f := toI A B)]
  refine List.Perm.length_eq ((List.perm_ext_iff_of_nodup (nodup_map_on (nodup_prsM.filter pc) ?_) ((nodup_tmA hA _ _).filter pi)).mpr (fun q => ?_))
  · intro x hx y hy e
    obtain ⟨x1, x2, -⟩ := (h x).mp (List.mem_filter.mp hx).2
    obtain ⟨y1, y2, -⟩ := (h y).mp (List.mem_filter.mp hy).2
    exact Prod.ext (idx_inj x1 y1 (Prod.mk.inj e).1) (idx_inj x2 y2 (Prod.mk.inj e).2)
  · rw [List.mem_map, List.mem_filter, mem_tmA]
    constructor
    · rintro ⟨p, hp, rfl⟩
      obtain ⟨x1, x2, x3⟩ := (h p).mp (List.mem_filter.mp hp).2
      have i1 := List.idxOf_lt_length_iff.mpr x1
      have i2 := List.idxOf_lt_length_iff.mpr x2
      exact ⟨⟨i1, i2, by unfold toI; dsimp only; omega⟩, x3⟩
    · rintro ⟨⟨h1, h2, -⟩, h4⟩
      have ha : A[q.1]? = some (A[q.1]'h1) := List.getElem?_eq_getElem h1
      have hb : B[q.2]? = some (B[q.2]'h2) := List.getElem?_eq_getElem h2
      have e : toI A B (A[q.1]'h1, B[q.2]'h2) = q := Prod.ext (idx_of hW.nA ha) (idx_of hW.nB hb)
      refine ⟨(A[q.1]'h1, B[q.2]'h2), List.mem_filter.mpr ⟨mem_prsM.mpr ⟨hW.lt (r := 0) (List.mem_of_getElem? ha), hW.lt (r := 1) (List.mem_of_getElem? hb)⟩, (h _).mpr ⟨List.mem_of_getElem? ha, List.mem_of_getElem? hb, by rw [e]; exact h4⟩⟩, e⟩
theorem mt_iff {D0 D1 : Nat} {A B : List Nat} (p : Nat × Nat) : mtM D0 D1 A B p = true ↔ p.1 ∈ A ∧ p.2 ∈ B ∧ mtI D0 D1 (toI A B p) = true := by
  unfold mtM mtI toI
  simp
theorem getD_idx {l : List Nat} {m : Nat} (h : m ∈ l) : l.getD (l.idxOf m) 0 = m := by
  rw [List.getD_eq_getElem?_getD, of_idx h]
  rfl
theorem cl_iff {C W : Nat → Nat} {D0 D1 : Nat} {A B : List Nat} (p : Nat × Nat) : clM C W D0 D1 A B p = true ↔ p.1 ∈ A ∧ p.2 ∈ B ∧ clI C W D0 D1 A B (toI A B p) = true := by
  unfold clM clI clB
  rw [Bool.and_eq_true, mt_iff]
  constructor
  · rintro ⟨⟨h1, h2, h3⟩, h4⟩
    refine ⟨h1, h2, ?_⟩
    unfold toI
    dsimp only
    rw [getD_idx h1, getD_idx h2, Bool.and_eq_true]
    exact ⟨h3, h4⟩
  · rintro ⟨h1, h2, h3⟩
    unfold toI at h3
    dsimp only at h3
    rw [getD_idx h1, getD_idx h2, Bool.and_eq_true] at h3
    exact ⟨⟨h1, h2, h3.1⟩, h3.2⟩
theorem meet_eq {C W : Nat → Nat} {D0 D1 : Nat} {A B : List Nat} (hW : Wf A B) {tw cz fs wh tr tw' cz' fs' wh' : Int32} (hP : PInv (mtM D0 D1 A B) (clM C W D0 D1 A B) (tnM D0 D1 A B) vM (wvM D0 D1 A B) (prsM 10) tw cz fs wh tr) (hQ : MInv (mtI D0 D1) (clI C W D0 D1 A B) (vI A B) (wvI D0 D1) (tmA A.length B.length 11) tw' cz' fs' wh') : tw = tw' ∧ cz = cz' ∧ fs = fs' ∧ wh = wh' := by
  have hA := hW.1
  have hB := hW.2.1
  have e1 := cnt_eq hW (pc := mtM D0 D1 A B) (pi := mtI D0 D1) mt_iff
  have e2 := cnt_eq hW (pc := clM C W D0 D1 A B) (pi := clI C W D0 D1 A B) cl_iff
  refine ⟨by rw [hP.1, hQ.1, e1], by rw [hP.2.1, hQ.2.1, e2], ?_⟩
  by_cases h0 : (prsM 10).countP (clM C W D0 D1 A B) = 0
  · obtain ⟨a1, a2⟩ := hP.2.2.1 h0
    obtain ⟨b1, b2⟩ := hQ.2.2.1 (by rw [← e2]; exact h0)
    exact ⟨by rw [a1, b1], by rw [a2, b2]⟩
  · obtain ⟨p, p1, p2, p3, p4, -, p6⟩ := hP.2.2.2 (by omega)
    obtain ⟨q, q1, q2, q3⟩ := hQ.2.2.2 (by rw [← e2]; omega)
    obtain ⟨m1, m2, m3⟩ := (cl_iff p).mp p2
    have hq := List.find?_some q1
    have hqm := List.mem_of_find?_eq_some q1
    obtain ⟨q4, q5, q6⟩ := mem_tmA.mp hqm
    have i1 := List.idxOf_lt_length_iff.mpr m1
    have i2 := List.idxOf_lt_length_iff.mpr m2
    -- q's key is the least
    have hmin : keyI q ≤ keyI (toI A B p) := by
      obtain ⟨as, bs, hab, hno⟩ := (List.find?_eq_some_iff_append.mp q1).2
      have hsort := sort_tmA hA B.length 11
      have hpm : toI A B p ∈ tmA A.length B.length 11 := mem_tmA.mpr ⟨i1, i2, by unfold toI; dsimp only; omega⟩
      rw [hab] at hsort hpm
      rcases List.mem_append.mp hpm with h | h
      · have := hno _ h
        rw [m3] at this
        cases this
      · rcases List.mem_cons.mp h with h | h
        · rw [h]; exact Nat.le_refl _
        · exact Nat.le_of_lt ((List.pairwise_cons.mp (List.pairwise_append.mp hsort).2.1).1 _ h)
    have ha : A[q.1]? = some (A[q.1]'q4) := List.getElem?_eq_getElem q4
    have hb : B[q.2]? = some (B[q.2]'q5) := List.getElem?_eq_getElem q5
    have e : toI A B (A[q.1]'q4, B[q.2]'q5) = q := Prod.ext (idx_of hW.nA ha) (idx_of hW.nB hb)
    have hle := p6 (A[q.1]'q4, B[q.2]'q5) (mem_prsM.mpr ⟨hW.lt (r := 0) (List.mem_of_getElem? ha), hW.lt (r := 1) (List.mem_of_getElem? hb)⟩) ((cl_iff _).mpr ⟨List.mem_of_getElem? ha, List.mem_of_getElem? hb, by rw [e]; exact hq⟩)
    have hle2 : keyI (toI A B p) ≤ keyI q := by
      rw [← e]
      unfold tnM at hle
      unfold keyI toI
      dsimp only at hle ⊢
      omega
    have hk : keyI (toI A B p) = keyI q := by omega
    have hpq : toI A B p = q := by
      unfold keyI toI at hk
      dsimp only at hk
      unfold toI
      exact Prod.ext (by dsimp only; omega) (by dsimp only; omega)
    have hv : vM p = vI A B q := by
      rw [← hpq]
      unfold vM vI toI
      dsimp only
      rw [getD_idx m1, getD_idx m2]
    refine ⟨by rw [p3, q2, hv], ?_⟩
    rw [p4, q3, ← hpq]
    rfl
