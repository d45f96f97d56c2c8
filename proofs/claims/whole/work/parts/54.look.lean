def maxF (f : Nat → Nat) : Nat → Nat
  | 0 => 0
  | n + 1 => max (maxF f n) (f n)
theorem maxF_congr {f g : Nat → Nat} : ∀ n : Nat, (∀ i, i < n → f i = g i) → maxF f n = maxF g n := by
  intro n
  induction n with
  | zero => intro _; rfl
  | succ n ih => intro e; rw [maxF, maxF, ih (fun i hi => e i (by omega)), e n (by omega)]
theorem maxF_ge {f : Nat → Nat} : ∀ n c : Nat, c < n → f c ≤ maxF f n := by
  intro n
  induction n with
  | zero => intro c h; omega
  | succ n ih =>
    intro c h
    rw [maxF]
    by_cases hc : c = n
    · rw [hc]; exact Nat.le_max_right _ _
    · exact Nat.le_trans (ih c (by omega)) (Nat.le_max_left _ _)
theorem maxF_le {f : Nat → Nat} {m : Nat} : ∀ n : Nat, (∀ i, i < n → f i ≤ m) → maxF f n ≤ m := by
  intro n
  induction n with
  | zero => intro _; exact Nat.zero_le _
  | succ n ih =>
    intro h
    rw [maxF]
    exact Nat.max_le.mpr ⟨ih (fun i hi => h i (by omega)), h n (by omega)⟩
theorem maxF_push {f : Nat → Nat} {c : Nat} : ∀ n : Nat, c < n → maxF (fun i => if i = c then f i + 1 else f i) n = max (maxF f n) (f c + 1) := by
  intro n
  induction n with
  | zero => intro h; omega
  | succ n ih =>
    intro h
    rw [maxF, maxF]
    by_cases hc : c = n
    · subst hc
      rw [if_pos rfl, maxF_congr (g := f) c (fun i hi => if_neg (by omega))]
      omega
    · rw [ih (by omega), if_neg (fun e => hc e.symm)]
      omega
def cntC {α : Type} (L : List α) (ce : α → Nat) (c : Nat) : Nat := L.countP (fun p => decide (ce p = c))
def mostV {α : Type} (L : List α) (ce : α → Nat) : Nat := maxF (cntC L ce) 18
theorem cntC_push {α : Type} (L : List α) (ce : α → Nat) (p : α) (c : Nat) : cntC (L ++ [p]) ce c = if c = ce p then cntC L ce c + 1 else cntC L ce c := by
  unfold cntC
  rw [List.countP_append, List.countP_cons, List.countP_nil]
  by_cases h : c = ce p
  · rw [if_pos h, if_pos (by rw [decide_eq_true_iff]; exact h.symm)]
  · rw [if_neg h, if_neg (by rw [decide_eq_true_iff]; exact fun e => h e.symm)]
    rfl
theorem cntC_le {α : Type} (L : List α) (ce : α → Nat) (c : Nat) : cntC L ce c ≤ L.length := List.countP_le_length
theorem mostV_le {α : Type} (L : List α) (ce : α → Nat) : mostV L ce ≤ L.length := maxF_le 18 (fun c _ => cntC_le L ce c)
theorem mostV_push {α : Type} (L : List α) (ce : α → Nat) {p : α} (hp : ce p < 18) : mostV (L ++ [p]) ce = max (mostV L ce) (cntC L ce (ce p) + 1) := by
  unfold mostV
  rw [maxF_congr (g := fun i => if i = ce p then cntC L ce i + 1 else cntC L ce i) 18 (fun c _ => cntC_push L ce p c)]
  exact maxF_push 18 hp
theorem mostV_pos {α : Type} {L : List α} {ce : α → Nat} {p : α} (hp : p ∈ L) (hc : ce p < 18) : 0 < mostV L ce := by
  have h1 := maxF_ge (f := cntC L ce) 18 (ce p) hc
  have h2 : 0 < cntC L ce (ce p) := List.countP_pos_iff.mpr ⟨p, hp, decide_eq_true rfl⟩
  unfold mostV
  omega
theorem mostV_map {α β : Type} {L : List α} {L' : List β} {ce : α → Nat} {ce' : β → Nat} (h : β → α) (hp : (L'.map h).Perm L) (he : ∀ x, x ∈ L' → ce (h x) = ce' x) : mostV L ce = mostV L' ce' := by
  unfold mostV
  refine maxF_congr 18 (fun c _ => ?_)
  unfold cntC
  rw [← hp.countP_eq, List.countP_map]
  refine List.countP_congr (fun x hx => ?_)
  show decide (ce (h x) = c) = true ↔ _
  rw [he x hx]
/-- counts by cell, and the most of them -/
def CT {α : Type} (L : List α) (ce : α → Nat) (ta : Nat → Int32) (mo : Int32) : Prop := (∀ c, c < 18 → ta c = iZ (cntC L ce c)) ∧ mo = iZ (mostV L ce)
theorem CT.nil {α : Type} (ce : α → Nat) {ta : Nat → Int32} (h : ∀ c, c < 18 → ta c = 0) : CT ([] : List α) ce ta 0 := ⟨fun c hc => h c hc, rfl⟩
theorem mostLeft_s {D : Nat → Nat} {A B : List Nat} (hW : Wf A B) (hD : ∀ r, r < 2 → D r ≤ 20) {L : List (Nat × Nat)} (hL : L.length ≤ 100) (hrow : ∀ p, p ∈ L → rowNo A B p.1 < 2 ∧ p.2 < 10) {ra sa : Nat → Int32} (hI : ∀ (i : Nat) (p : Nat × Nat), L[i]? = some p → ra i = iZ (rowNo A B p.1) ∧ sa i = iZ (bgC D A B p.1 p.2)) (ta : Nat → Int32) {t : Nat} (ht : t ≤ 100) :
    ∃ ta', f_X9_mostLeftAt (iZ L.length) ra sa ta (iZ t) = some (iZ (mostV L (fun p => cellN (rowNo A B p.1) (bgC D A B p.1 p.2) t)), ta') := by
  have e1 : ∀ n : Nat, iZ (n : Int) + 1 = iZ ((n + 1 : Nat) : Int) := by intro n; rw [show (1 : Int32) = iZ 1 from rfl, z_add]; rfl
  obtain ⟨⟨q0, q1, q2⟩, g1, g2⟩ := loop_inv (body := fun (q : Int32 × Int32 × (Nat → Int32)) => f_X9_mostLeftAt_b12 (iZ L.length) ra sa (iZ t) q.1 q.2.1 q.2.2) (s := (0, 0, fun k => if k < 18 then 0 else ta k)) (P := fun q => q.1 = iZ (mostV L (fun p => cellN (rowNo A B p.1) (bgC D A B p.1 p.2) t)))
    (fun i s => ∃ mo tb, s = (mo, iZ ((i : Nat) : Int), tb) ∧ CT (L.take i) (fun p => cellN (rowNo A B p.1) (bgC D A B p.1 p.2) t) tb mo) L.length
    ⟨0, _, rfl, by rw [List.take_zero]; exact CT.nil _ (fun c hc => if_pos hc)⟩
    (by
      rintro i hi s ⟨mo, tb, rfl, hC, rfl⟩
      dsimp only
      have hx : L[i]? = some (L[i]'hi) := List.getElem?_eq_getElem hi
      obtain ⟨r1, r2⟩ := hI i _ hx
      obtain ⟨r3, r4⟩ := hrow _ (List.mem_of_getElem? hx)
      generalize L[i]'hi = p at hx r1 r2 r3 r4
      have hm := (rowNo_iff hW r3).mp rfl
      have hi2 := List.idxOf_lt_length_iff.mpr hm
      have hlr := hW.len (rowNo A B p.1)
      have hDr := hD _ r3
      have hbg : bgC D A B p.1 p.2 ≤ 100 := by unfold bgC; omega
      have hce := cellN_le (rowNo A B p.1) (bgC D A B p.1 p.2) t
      have hlen : (L.take i).length ≤ 100 := by rw [List.length_take]; omega
      have hct := cntC_le (L.take i) (fun p => cellN (rowNo A B p.1) (bgC D A B p.1 p.2) t) (cellN (rowNo A B p.1) (bgC D A B p.1 p.2) t)
      have hmv := mostV_le (L.take i) (fun p => cellN (rowNo A B p.1) (bgC D A B p.1 p.2) t)
      unfold f_X9_mostLeftAt_b12
      rw [if_neg (by rw [z_le] <;> omega), at_n (show i < 100 by omega) (by omega), bd1_s, at_n (show i < 100 by omega) (by omega), bd1_s, r1, r2, cellAt_s r3 (by omega) (by omega), bd1_s, at_n (by omega) (by omega), bd1_s, hC _ (by omega), e1, put_n (by omega) (by omega), bd1_s, e1, nmv_s, List.take_add_one, hx]
      refine ⟨_, rfl, _, _, rfl, fun c hc => ?_, ?_⟩
      · rw [show (some p).toList = [p] from rfl, cntC_push]
        by_cases hcc : c = cellN (rowNo A B p.1) (bgC D A B p.1 p.2) t
        · subst hcc
          rw [upd_at, if_pos rfl]
        · rw [upd_ne _ _ hcc, if_neg hcc]
          exact hC c hc
      · rw [show (some p).toList = [p] from rfl, mostV_push _ _ (by omega)]
        by_cases hlt : mostV (L.take i) (fun p => cellN (rowNo A B p.1) (bgC D A B p.1 p.2) t) < cntC (L.take i) (fun p => cellN (rowNo A B p.1) (bgC D A B p.1 p.2) t) (cellN (rowNo A B p.1) (bgC D A B p.1 p.2) t) + 1
        · rw [if_pos (by rw [z_lt] <;> omega), Nat.max_eq_right (by omega)]
        · rw [if_neg (by rw [z_lt] <;> omega), Nat.max_eq_left (by omega)])
    (by
      rintro s ⟨mo, tb, rfl, hC, rfl⟩
      dsimp only
      unfold f_X9_mostLeftAt_b12
      rw [if_pos (Int32.le_refl _)]
      refine ⟨_, rfl, ?_⟩
      rw [List.take_length])
    (by omega)
  unfold f_X9_mostLeftAt
  dsimp only at g2
  subst g2
  rw [fill_s (by omega), bd1_s, g1, bd3_s]
  exact ⟨_, rfl⟩
theorem md10 {a : Nat} (ha : a ≤ 100000) : iZ (a : Int) - iZ (a : Int) / 10 * 10 = iZ ((a % 10 : Nat) : Int) := by
  rw [show (10 : Int32) = iZ 10 from rfl, z_div (by omega) (by omega) (by omega) (by omega), z_rem (by omega) (by omega) (by omega) (by omega)]
  rfl
theorem dv10 {a : Nat} (ha : a ≤ 100000) : iZ (a : Int) / 10 = iZ ((a / 10 : Nat) : Int) := by
  rw [show (10 : Int32) = iZ 10 from rfl, z_div (by omega) (by omega) (by omega) (by omega)]
  rfl
theorem prs12 : prsM 12 = (List.range 120).map (fun k => (k / 10, k % 10)) := by decide +kernel
def fitK (N : Nat) (F S D : Nat → Nat) (A B : List Nat) (k : Nat) : Bool := fitI N F S D A B (k / 10, k % 10)
theorem nar0 : vp_nar .boolean (iZ 0) = 0 := by first | rfl | decide
theorem nar1 : vp_nar .boolean (iZ 1) = 1 := by first | rfl | decide
theorem isOne_s {w c d bk sf ss q : Nat → Int32} {W C D : Nat → Nat} {A B : List Nat} {b N : Nat} {F S : Nat → Nat} (hM : MTown w c d W C D) (hB : BookRep bk A B b) (hW : Wf A B) (hG : SightsRep N sf ss q F S) (io : Nat → Int32) :
    ∃ x io', loopN (fun (u : Int32 × (Nat → Int32)) => f_X11_look_b14 (iZ N) bk d q u.1 u.2) FU (0, io) = some (x, io') ∧ ∀ k, k < 120 → io' k = if fitK N F S D A B k = true then 1 else 0 := by
  have e1 : ∀ n : Nat, iZ (n : Int) + 1 = iZ ((n + 1 : Nat) : Int) := by intro n; rw [show (1 : Int32) = iZ 1 from rfl, z_add]; rfl
  obtain ⟨⟨q0, q1⟩, g1, g2⟩ := loop_inv (body := fun (u : Int32 × (Nat → Int32)) => f_X11_look_b14 (iZ N) bk d q u.1 u.2) (s := (0, io)) (P := fun u => ∀ k, k < 120 → u.2 k = if fitK N F S D A B k = true then 1 else 0)
    (fun i s => ∃ io2, s = (iZ ((i : Nat) : Int), io2) ∧ ∀ k, k < i → io2 k = if fitK N F S D A B k = true then 1 else 0) 120
    ⟨io, rfl, fun k h => absurd h (Nat.not_lt_zero k)⟩
    (by
      rintro i hi s ⟨io2, rfl, hI⟩
      dsimp only
      unfold f_X11_look_b14
      rw [if_neg (by rw [show (120 : Int32) = iZ 120 from rfl, z_le] <;> omega), md10 (by omega), dv10 (by omega), fits_s hM hB hW hG (by omega) (by omega), bd1_s, gd_z (by omega) (by omega) (by omega), z_cl (by omega) (by omega), Int.toNat_natCast, e1]
      refine ⟨_, rfl, _, rfl, fun k hk => ?_⟩
      by_cases hki : k = i
      · subst hki
        rw [upd_at]
        unfold fitK
        by_cases hf : fitI N F S D A B (k / 10, k % 10) = true
        · rw [if_pos hf, if_pos hf]; exact nar1
        · rw [if_neg hf, if_neg hf]; exact nar0
      · rw [upd_ne _ _ hki]
        exact hI k (by omega))
    (by
      rintro s ⟨io2, rfl, hI⟩
      dsimp only
      unfold f_X11_look_b14
      rw [if_pos (by decide)]
      exact ⟨_, rfl, hI⟩)
    (by omega)
  exact ⟨q0, q1, g1, g2⟩
def ceK (D : Nat → Nat) (t k : Nat) : Nat := cellN (k / 10 / 6) (D (k / 10 / 6) + k / 10 % 6 + k % 10) t
theorem zero18 (ct : Nat → Int32) : ∃ ct', loopN (fun (u : Int32 × (Nat → Int32)) => f_X11_look_b66 u.1 u.2) FU (0, ct) = some (iZ 18, ct') ∧ ∀ c, c < 18 → ct' c = 0 := by
  refine ⟨fun k => if k < 18 then 0 else ct k, ?_, fun c hc => if_pos hc⟩
  refine loop_FU (fun i : Nat => ((iZ i : Int32), ((fun k => if k < i then 0 else ct k) : Nat → Int32))) 18 ?_ ?_ ?_ (by omega)
  · exact Prod.ext rfl (funext fun k => (if_neg (Nat.not_lt_zero k) : (if k < 0 then (0 : Int32) else ct k) = ct k).symm)
  · intro i hi
    dsimp only
    unfold f_X11_look_b66
    rw [if_neg (by rw [show (18 : Int32) = iZ 18 from rfl, z_le] <;> omega), gd_z (by omega) (by omega) (by omega), z_cl (by omega) (by omega), Int.toNat_natCast, upd_fill, show (1 : Int32) = iZ 1 from rfl, z_add]
    rfl
  · dsimp only
    unfold f_X11_look_b66
    rw [if_pos (by decide)]
    rfl
theorem worst_s {w c d : Nat → Int32} {W C D : Nat → Nat} (hM : MTown w c d W C D) {fk : Nat → Bool} {io : Nat → Int32} (hio : ∀ k, k < 120 → io k = if fk k = true then 1 else 0) {ct : Nat → Int32} (hct : ∀ c, c < 18 → ct c = 0) {t : Nat} (ht : t ≤ 100) :
    ∃ x ct', loopN (fun (u : Int32 × Int32 × (Nat → Int32)) => f_X11_look_b90 d io (iZ t) u.1 u.2.1 u.2.2) FU (0, 0, ct) = some (iZ (mostV ((List.range 120).filter fk) (ceK D t)), x, ct') := by
  have e1 : ∀ n : Nat, iZ (n : Int) + 1 = iZ ((n + 1 : Nat) : Int) := by intro n; rw [show (1 : Int32) = iZ 1 from rfl, z_add]; rfl
  obtain ⟨⟨q0, q1, q2⟩, g1, g2⟩ := loop_inv (body := fun (u : Int32 × Int32 × (Nat → Int32)) => f_X11_look_b90 d io (iZ t) u.1 u.2.1 u.2.2) (s := (0, 0, ct)) (P := fun u => u.1 = iZ (mostV ((List.range 120).filter fk) (ceK D t)))
    (fun i s => ∃ mo tb, s = (mo, iZ ((i : Nat) : Int), tb) ∧ CT ((List.range i).filter fk) (ceK D t) tb mo) 120
    ⟨0, ct, rfl, CT.nil _ hct⟩
    (by
      rintro i hi s ⟨mo, tb, rfl, hC, rfl⟩
      dsimp only
      unfold f_X11_look_b90 f_X11_look_j160
      rw [if_neg (by rw [show (120 : Int32) = iZ 120 from rfl, z_le] <;> omega), gd_z (by omega) (by omega) (by omega), z_cl (by omega) (by omega), Int.toNat_natCast, hio i hi, e1, List.range_succ, List.filter_append]
      by_cases hf : fk i = true
      · have hone : [i].filter fk = [i] := by rw [List.filter_cons_of_pos hf]; rfl
        have hlen : ((List.range i).filter fk).length ≤ 120 := by
          have := List.length_filter_le fk (List.range i)
          rw [List.length_range] at this
          omega
        have hce : ceK D t i ≤ 17 := cellN_le _ _ _
        have hct2 := cntC_le ((List.range i).filter fk) (ceK D t) (ceK D t i)
        have hmv := mostV_le ((List.range i).filter fk) (ceK D t)
        rw [if_pos hf, if_neg (show ¬ (1 : Int32) = 0 by decide), md10 (by omega), dv10 (by omega), cellOf_s hM (by omega) (by omega) (by omega), bd1_s]
        rw [show cellN (i / 10 / 6) (D (i / 10 / 6) + i / 10 % 6 + i % 10) t = ceK D t i from rfl]
        generalize hcc : ceK D t i = cc at hce hct2
        iterate 3 rw [gd_z (by omega) (by omega) (by omega)]
        rw [z_cl (by omega) (by omega), Int.toNat_natCast, upd_at, hC cc (by omega), e1, hone]
        have hupd : ∀ c, c < 18 → upd tb cc (iZ ((cntC ((List.range i).filter fk) (ceK D t) cc + 1 : Nat) : Int)) c = iZ (cntC ((List.range i).filter fk ++ [i]) (ceK D t) c) := by
          intro c hc
          rw [cntC_push, hcc]
          by_cases h : c = cc
          · subst h
            rw [upd_at, if_pos rfl]
          · rw [upd_ne _ _ h, if_neg h]
            exact hC c hc
        by_cases hle : cntC ((List.range i).filter fk) (ceK D t) cc + 1 ≤ mostV ((List.range i).filter fk) (ceK D t)
        · rw [if_pos (by rw [z_le] <;> omega)]
          refine ⟨_, rfl, _, _, rfl, hupd, ?_⟩
          rw [mostV_push _ _ (by omega), hcc, Nat.max_eq_left hle]
        · rw [if_neg (by rw [z_le] <;> omega), gd_z (by omega) (by omega) (by omega)]
          refine ⟨_, rfl, _, _, rfl, hupd, ?_⟩
          rw [mostV_push _ _ (by omega), hcc, Nat.max_eq_right (by omega)]
      · have hone : [i].filter fk = [] := by rw [List.filter_cons_of_neg hf]; rfl
        rw [if_neg hf, if_pos (show (0 : Int32) = 0 from rfl), hone, List.append_nil]
        exact ⟨_, rfl, _, _, rfl, hC, rfl⟩)
    (by
      rintro s ⟨mo, tb, rfl, hC, rfl⟩
      dsimp only
      unfold f_X11_look_b90
      rw [if_pos (by decide)]
      exact ⟨_, rfl, rfl⟩)
    (by omega)
  dsimp only at g2
  subst g2
  exact ⟨q1, q2, g1⟩
theorem look_both {T : TW} {M : BK} (hT : TRel T M) (c1 c2 c3 : Int32) (ra sa ta : Nat → Int32) (f1 f2 : Int32) (ct io : Nat → Int32) (x : Int32) :
    ∃ v t m, f_X10_look T.d T.ro T.pl T.sc T.sf T.ss c1 c2 c3 ra sa ta f1 f2 x = some (v, t) ∧ f_X11_look M.sn M.bk M.dl M.si ct io x = some (v, m) := by
  have e1 : ∀ n : Nat, iZ (n : Int) + 1 = iZ ((n + 1 : Nat) : Int) := by intro n; rw [show (1 : Int32) = iZ 1 from rfl, z_add]; rfl
  obtain ⟨z, z1, z2, rfl⟩ := z_of x
  obtain ⟨A, B, b, W, K, C, D, N, F, Z, N2, F2, S2, h⟩ := hT
  have hw := within_z z1 z2 (a := 0) (b := 1) (by omega) (by omega) (by omega) (by omega)
  have hw2 := in_z z1 z2 (a := 0) (b := 1) (by omega) (by omega) (by omega) (by omega)
  unfold f_X10_look f_X11_look
  rw [show f_X10_within (iZ z) 0 1 = _ from hw, show f_X11_in (iZ z) 0 1 = _ from hw2, bd1_s, bd1_s]
  by_cases ha : 0 ≤ z ∧ z ≤ 1
  · rw [if_neg (show ¬ bz (0 ≤ z ∧ z ≤ 1) = 0 from bzN ha), if_neg (show ¬ bz (0 ≤ z ∧ z ≤ 1) = 0 from bzN ha)]
    obtain ⟨hTC, hTM⟩ := tOf h.h1 h.h3 h.h4
    obtain ⟨cn, mb, lb, ra', sa', k1, rfl, i2, i3, i4⟩ := fit_s (D := D) (fun r hr => ⟨(h.h4 r hr).1, (h.h4 r hr).2.2.2⟩) h.hR h.hW h.h6 ra sa
    obtain ⟨y, io', w1, w2⟩ := isOne_s hTM h.hB h.hW h.h6 io
    have hp := fit_perm (N := N2) (F := F2) (S := S2) (D := D) h.hW
    have hpk : (((List.range 120).filter (fitK N2 F2 S2 D A B)).map (fun k => (memA A B (k / 10), k % 10))).Perm ((prsM 10).filter (fitC N2 F2 S2 D A B)) := by
      refine List.Perm.trans (List.Perm.of_eq ?_) hp
      rw [prs12, List.filter_map, List.map_map]
      rfl
    have hce : ∀ t k, k ∈ (List.range 120).filter (fitK N2 F2 S2 D A B) → cellN (rowNo A B (memA A B (k / 10))) (bgC D A B (memA A B (k / 10)) (k % 10)) t = ceK D t k := by
      intro t k hk
      rw [List.mem_filter, List.mem_range] at hk
      obtain ⟨a1, a2, a3, a4, a5⟩ := fitI_mem h.hW (p := k / 10) (l := k % 10) (by omega) hk.2
      unfold bgC ceK
      rw [a2, a3]
    have hmv : ∀ t, mostV ((prsM 10).filter (fitC N2 F2 S2 D A B)) (fun p => cellN (rowNo A B p.1) (bgC D A B p.1 p.2) t) = mostV ((List.range 120).filter (fitK N2 F2 S2 D A B)) (ceK D t) := fun t => mostV_map (fun k => (memA A B (k / 10), k % 10)) hpk (hce t)
    have hrow : ∀ p, p ∈ (prsM 10).filter (fitC N2 F2 S2 D A B) → rowNo A B p.1 < 2 ∧ p.2 < 10 := by
      intro p hp
      rw [List.mem_filter, mem_prsM] at hp
      have := hp.2
      unfold fitC at this
      rw [Bool.and_eq_true, decide_eq_true_iff] at this
      exact ⟨this.1, hp.1.2⟩
    have hlen : ((prsM 10).filter (fitC N2 F2 S2 D A B)).length ≤ 100 := by
      have h3 := List.length_filter_le (fitC N2 F2 S2 D A B) (prsM 10)
      rw [prsM_len] at h3
      omega
    have hempty : (prsM 10).filter (fitC N2 F2 S2 D A B) = [] → (List.range 120).filter (fitK N2 F2 S2 D A B) = [] := by
      intro e
      have := hpk.length_eq
      rw [e, List.length_map] at this
      exact List.length_eq_zero_iff.mp this
    generalize (prsM 10).filter (fitC N2 F2 S2 D A B) = L at k1 i2 i3 i4 hpk hmv hrow hlen hempty
    rw [h.hsc, h.hsn, k1, bd5_s, w1, bd2_s]
    have hgle : ∀ t, mostV L (fun p => cellN (rowNo A B p.1) (bgC D A B p.1 p.2) t) ≤ 1000 := fun t => Nat.le_trans (mostV_le _ _) (by omega)
    have hstep : ∀ (fd fw : Int32) (ct : Nat → Int32) (i : Nat), i < 61 → ∃ ct', f_X11_look_b53 M.dl io' fd fw (iZ i) ct = some (.inl ((if mostV L (fun p => cellN (rowNo A B p.1) (bgC D A B p.1 p.2) i) = 0 then (fd, fw, iZ ((i + 1 : Nat) : Int), ct') else if fw ≤ iZ (mostV L (fun p => cellN (rowNo A B p.1) (bgC D A B p.1 p.2) i)) then (fd, fw, iZ ((i + 1 : Nat) : Int), ct') else (iZ i, iZ (mostV L (fun p => cellN (rowNo A B p.1) (bgC D A B p.1 p.2) i)), iZ ((i + 1 : Nat) : Int), ct')))) := by
      intro fd fw ct i hi
      obtain ⟨ct1, v1, v2⟩ := zero18 ct
      obtain ⟨y2, ct2, v3⟩ := worst_s hTM w2 v2 (t := i) (by omega)
      have hb := hgle i
      unfold f_X11_look_b53 f_X11_look_j183 f_X11_look_j184 f_X11_look_j197 f_X11_look_j209
      rw [if_neg (by rw [show (61 : Int32) = iZ 61 from rfl, z_le] <;> omega), v1, bd2_s, v3, bd3_s, e1, ← hmv i, if_pos (show (0 : Int32) = 0 from rfl), if_pos (show (0 : Int32) = 0 from rfl), if_neg (show ¬ (1 : Int32) = 0 by decide), if_neg (show ¬ (1 : Int32) = 0 by decide)]
      refine ⟨ct2, ?_⟩
      by_cases h0 : mostV L (fun p => cellN (rowNo A B p.1) (bgC D A B p.1 p.2) i) = 0
      · rw [if_pos (show iZ (mostV L (fun p => cellN (rowNo A B p.1) (bgC D A B p.1 p.2) i) : Int) ≤ 0 by rw [h0]; decide), if_pos h0]
      · rw [if_neg (show ¬ iZ (mostV L (fun p => cellN (rowNo A B p.1) (bgC D A B p.1 p.2) i) : Int) ≤ 0 by rw [show (0 : Int32) = iZ 0 from rfl, z_le] <;> omega), if_neg h0]
        by_cases hle : fw ≤ iZ (mostV L (fun p => cellN (rowNo A B p.1) (bgC D A B p.1 p.2) i))
        · rw [if_pos hle, if_pos hle]
        · rw [if_neg hle, if_neg hle]
    by_cases hL0 : L.length = 0
    · have hLn := List.length_eq_zero_iff.mp hL0
      have hz : ∀ t, mostV L (fun p => cellN (rowNo A B p.1) (bgC D A B p.1 p.2) t) = 0 := fun t => by have := mostV_le L (fun p => cellN (rowNo A B p.1) (bgC D A B p.1 p.2) t); omega
      obtain ⟨⟨q0, q1, q2, q3⟩, g1, g2⟩ := loop_inv (body := fun (u : Int32 × Int32 × Int32 × (Nat → Int32)) => f_X11_look_b53 M.dl io' u.1 u.2.1 u.2.2.1 u.2.2.2) (s := ((-6), 1000000, 0, ct)) (P := fun u => u.1 = -6)
        (fun i s => ∃ ct', s = (-6, 1000000, iZ ((i : Nat) : Int), ct')) 61 ⟨ct, rfl⟩
        (by
          rintro i hi s ⟨ct', rfl⟩
          dsimp only
          obtain ⟨ct2, v⟩ := hstep (-6) 1000000 ct' i hi
          rw [v, if_pos (hz i)]
          exact ⟨_, rfl, _, rfl⟩)
        (by
          rintro s ⟨ct', rfl⟩
          dsimp only
          unfold f_X11_look_b53
          rw [if_pos (by decide)]
          exact ⟨_, rfl, rfl⟩)
        (by omega)
      dsimp only at g2
      subst g2
      unfold f_X11_look_j224
      rw [if_pos (by rw [hL0]; rfl), g1, bd4_s, if_pos (show (-6 : Int32) < 0 by decide)]
      exact ⟨_, _, _, rfl, rfl⟩
    · have hpos : ∀ t, 0 < mostV L (fun p => cellN (rowNo A B p.1) (bgC D A B p.1 p.2) t) := by
        intro t
        obtain ⟨p, hp⟩ := List.exists_mem_of_length_pos (show 0 < L.length by omega)
        refine mostV_pos hp ?_
        have := cellN_le (rowNo A B p.1) (bgC D A B p.1 p.2) t
        omega
      have hle : ∀ t, (fun t => mostV L (fun p => cellN (rowNo A B p.1) (bgC D A B p.1 p.2) t)) t ≤ 1000 := hgle
      rw [if_neg (by rw [show (0 : Int32) = iZ 0 from rfl, z_eq] <;> omega)]
      obtain ⟨b2, c2, o1, o2⟩ := begin_s (fun t => mostV L (fun p => cellN (rowNo A B p.1) (bgC D A B p.1 p.2) t))
      obtain ⟨⟨q0, q1, q2, q3⟩, g1, g2⟩ := loop_inv (body := fun (u : Int32 × (Nat → Int32) × Int32 × Int32) => f_X10_look_b45 (iZ L.length) ra' sa' u.1 u.2.1 u.2.2.1 u.2.2.2) (s := (0, ta, b2, c2)) (P := fun u => FInv (fun t => mostV L (fun p => cellN (rowNo A B p.1) (bgC D A B p.1 p.2) t)) 61 u.2.2.1 u.2.2.2)
        (fun i s => ∃ tb b3 c3, s = (iZ ((i : Nat) : Int), tb, b3, c3) ∧ FInv (fun t => mostV L (fun p => cellN (rowNo A B p.1) (bgC D A B p.1 p.2) t)) i b3 c3) 61 ⟨ta, b2, c2, rfl, o2⟩
        (by
          rintro i hi s ⟨tb, b3, c3, rfl, hF⟩
          dsimp only
          obtain ⟨tb2, v1⟩ := mostLeft_s h.hW (fun r hr => (h.h4 r hr).2.2.2) hlen hrow i4 tb (t := i) (by omega)
          obtain ⟨b4, c4, v2, v3⟩ := offer_s hle (i := i) (by omega) hF
          unfold f_X10_look_b45
          rw [if_neg (by rw [show (60 : Int32) = iZ 60 from rfl, z_lt] <;> omega), v1, bd2_s, v2, bd2_s, e1]
          exact ⟨_, rfl, _, _, _, rfl, v3⟩)
        (by
          rintro s ⟨tb, b3, c3, rfl, hF⟩
          dsimp only
          unfold f_X10_look_b45
          rw [if_pos (by decide)]
          exact ⟨_, rfl, hF⟩)
        (by omega)
      obtain ⟨⟨p0, p1, p2, p3⟩, m1, m2, m3⟩ := loop_inv (body := fun (u : Int32 × Int32 × Int32 × (Nat → Int32)) => f_X11_look_b53 M.dl io' u.1 u.2.1 u.2.2.1 u.2.2.2) (s := ((-6), 1000000, 0, ct)) (P := fun u => u.1 = iZ (bst (fun t => mostV L (fun p => cellN (rowNo A B p.1) (bgC D A B p.1 p.2) t)) 61).1 ∧ u.2.1 = iZ (bst (fun t => mostV L (fun p => cellN (rowNo A B p.1) (bgC D A B p.1 p.2) t)) 61).2)
        (fun i s => ∃ fd ct', s = (fd, iZ (bst (fun t => mostV L (fun p => cellN (rowNo A B p.1) (bgC D A B p.1 p.2) t)) i).2, iZ ((i : Nat) : Int), ct') ∧ (0 < i → fd = iZ (bst (fun t => mostV L (fun p => cellN (rowNo A B p.1) (bgC D A B p.1 p.2) t)) i).1)) 61 ⟨-6, ct, rfl, fun h => absurd h (Nat.lt_irrefl 0)⟩
        (by
          rintro i hi s ⟨fd, ct', rfl, hfd⟩
          dsimp only
          obtain ⟨ct2, v⟩ := hstep fd (iZ (bst (fun t => mostV L (fun p => cellN (rowNo A B p.1) (bgC D A B p.1 p.2) t)) i).2) ct' i hi
          have hpi := hpos i
          obtain ⟨l1, l2, l3⟩ := bst_le hle (by omega) i
          have hbi := hgle i
          rw [v, if_neg (by omega)]
          by_cases hc : (bst (fun t => mostV L (fun p => cellN (rowNo A B p.1) (bgC D A B p.1 p.2) t)) i).2 ≤ mostV L (fun p => cellN (rowNo A B p.1) (bgC D A B p.1 p.2) i)
          · have eb : bst (fun t => mostV L (fun p => cellN (rowNo A B p.1) (bgC D A B p.1 p.2) t)) (i + 1) = bst (fun t => mostV L (fun p => cellN (rowNo A B p.1) (bgC D A B p.1 p.2) t)) i := by rw [bst, if_pos hc]
            rw [if_pos (by rw [z_le] <;> omega), eb]
            refine ⟨_, rfl, fd, ct2, rfl, fun _ => ?_⟩
            by_cases hi0 : i = 0
            · subst hi0
              unfold bst at hc
              dsimp only at hc
              omega
            · exact hfd (by omega)
          · have eb : bst (fun t => mostV L (fun p => cellN (rowNo A B p.1) (bgC D A B p.1 p.2) t)) (i + 1) = (i, mostV L (fun p => cellN (rowNo A B p.1) (bgC D A B p.1 p.2) i)) := by rw [bst, if_neg hc]
            rw [if_neg (by rw [z_le] <;> omega), eb]
            exact ⟨_, rfl, _, ct2, rfl, fun _ => rfl⟩)
        (by
          rintro s ⟨fd, ct', rfl, hfd⟩
          dsimp only
          unfold f_X11_look_b53
          rw [if_pos (by decide)]
          exact ⟨_, rfl, hfd (by omega), rfl⟩)
        (by omega)
      obtain ⟨l1, l2, l3⟩ := bst_le hle (by omega) 61
      dsimp only at g2 m2 m3
      unfold FInv at g2
      rw [if_neg (by omega)] at g2
      obtain ⟨g3, g4⟩ := g2
      subst g3 g4 m2 m3
      unfold f_X11_look_j224
      have hge : ¬ iZ ((bst (fun t => mostV L (fun p => cellN (rowNo A B p.1) (bgC D A B p.1 p.2) t)) 61).1 : Int) < 0 := by rw [show (0 : Int32) = iZ 0 from rfl, z_lt] <;> omega
      rw [o1, bd2_s, g1, bd4_s, m1, bd4_s, if_neg hge]
      by_cases q0 : iZ z = 0
      · rw [if_pos q0, if_pos q0]
        exact ⟨_, _, _, rfl, rfl⟩
      · rw [if_neg q0, if_neg q0]
        exact ⟨_, _, _, rfl, rfl⟩
  · rw [if_pos (show bz (0 ≤ z ∧ z ≤ 1) = 0 from bzP ha), if_pos (show bz (0 ≤ z ∧ z ≤ 1) = 0 from bzP ha)]
    exact ⟨_, _, _, rfl, rfl⟩
