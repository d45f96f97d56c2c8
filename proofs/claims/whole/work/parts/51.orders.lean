theorem setR_row {A B : List Nat} {r : Nat} (hr : r < 2) (p : List Nat) : rowL (setR A B r p).1 (setR A B r p).2 r = p := by
  unfold setR rowL
  by_cases h0 : r = 0
  · rw [if_pos h0, if_pos h0]
  · rw [if_neg h0, if_neg h0]
theorem setR_book {nw now : Nat → Int32} {A B : List Nat} {b r : Nat} {p : List Nat} (hB : BookRep now A B b) (hW : Wf A B) (hr : r < 2) (hp : p.Perm (rowL A B r)) (h1 : ∀ i x : Nat, p[i]? = some x → nw (6 * r + i) = iZ x) (h2 : ∀ j, (j < 6 * r ∨ 6 * r + (rowL A B r).length ≤ j) → nw j = now j) : BookRep nw (setR A B r p).1 (setR A B r p).2 b := by
  have hlA := hW.1
  have hlB := hW.2.1
  have hlen := hp.length_eq
  obtain ⟨g1, g2, g3, g4, g5⟩ := hB
  unfold setR
  rcases (show r = 0 ∨ r = 1 by omega) with rfl | rfl
  · have hl : p.length = A.length := hlen
    have h2' : ∀ j, A.length ≤ j → nw j = now j := fun j hj => h2 j (Or.inr (by show 6 * 0 + A.length ≤ j; omega))
    refine ⟨fun i m hi => ?_, fun i m hi => ?_, ?_, ?_, ?_⟩
    · have := h1 i m hi
      rwa [show 6 * 0 + i = i by omega] at this
    · rw [h2' _ (by omega)]; exact g2 i m hi
    · rw [h2' _ (by omega)]
      show now 12 = iZ p.length
      rw [hl]; exact g3
    · rw [h2' _ (by omega)]; exact g4
    · rw [h2' _ (by omega)]; exact g5
  · have hl : p.length = B.length := hlen
    have h2' : ∀ j, (j < 6 ∨ 12 ≤ j) → nw j = now j := fun j hj => h2 j (by show j < 6 * 1 ∨ 6 * 1 + B.length ≤ j; omega)
    refine ⟨fun i m hi => ?_, fun i m hi => ?_, ?_, ?_, ?_⟩
    · have := (List.getElem?_eq_some_iff.mp hi).1
      rw [h2' _ (by have : i < A.length := this; omega)]; exact g1 i m hi
    · have := h1 i m hi
      rwa [show 6 * 1 + i = 6 + i by omega] at this
    · rw [h2' _ (by omega)]; exact g3
    · rw [h2' _ (by omega)]
      show now 13 = iZ p.length
      rw [hl]; exact g4
    · rw [h2' _ (by omega)]; exact g5
theorem layOrders_s {bk wd wi dl ah af : Nat → Int32} {W C D : Nat → Nat} {A B : List Nat} {b N : Nat} {F Z : Nat → Nat} (hM : MTown wd wi dl W C D) (hU : RuM N ah af F Z) (hB : BookRep bk A B b) (hW : Wf A B) {r : Nat} (hr : r < 2) (m1 m2 m3 m4 : Int32) (now : Nat → Int32) :
    ∃ a1 a2 a3 a4 of fo ls lo nw, f_X11_layOrders (iZ N) m1 m2 m3 m4 bk now wd wi dl ah af (iZ r) = some (a1, a2, a3, a4, iZ (-6), iZ ((0 : Nat) : Int), of, fo, ls, lo, nw) ∧
      LInv (fun e => nCl C W (D 0) (D 1) (setR A B r (lr (rowL A B r) e)).1 (setR A B r (lr (rowL A B r) e)).2) (fun e => numOf (lr (rowL A B r) e)) (fun e => vld (rowL A B r).length e) (6 ^ (rowL A B r).length) ls lo ∧
      OInv (fun e => numOf (lr (rowL A B r) e)) (fun e => vld (rowL A B r).length e ∧ kpB N F Z (lr (rowL A B r) e) = true) (6 ^ (rowL A B r).length) of fo := by
  have e1 : ∀ n : Nat, iZ (n : Int) + 1 = iZ ((n + 1 : Nat) : Int) := by intro n; rw [show (1 : Int32) = iZ 1 from rfl, z_add]; rfl
  have h6 := hW.len r
  have hpow : 6 ^ (rowL A B r).length ≤ 46656 := by
    have h1 : 6 ^ (rowL A B r).length ≤ 6 ^ 6 := Nat.pow_le_pow_right (by omega) h6
    have h2 : (6 : Nat) ^ 6 = 46656 := by decide
    omega
  have hcodes : loopN (fun (q : Int32 × Int32) => f_X11_layOrders_b30 bk (iZ r) q.1 q.2) FU (1, 0) = some (iZ ((6 ^ (rowL A B r).length : Nat) : Int), iZ (rowL A B r).length) := by
    refine loop_FU (fun i : Nat => ((iZ ((6 ^ i : Nat) : Int) : Int32), (iZ i : Int32))) (rowL A B r).length rfl ?_ ?_ (by omega)
    · intro i hi
      dsimp only
      unfold f_X11_layOrders_b30
      rw [show (12 : Int32) = iZ 12 from rfl, z_add, gd_z (by omega) (by omega) (by omega), z_cl (by omega) (by omega), show ((12 : Int) + (r : Int)).toNat = 12 + r by omega, br_len hB hr, if_neg (by rw [z_le] <;> omega), show (6 : Int32) = iZ 6 from rfl, z_mul, e1, Nat.pow_succ]
      rfl
    · dsimp only
      unfold f_X11_layOrders_b30
      rw [show (12 : Int32) = iZ 12 from rfl, z_add, gd_z (by omega) (by omega) (by omega), z_cl (by omega) (by omega), show ((12 : Int) + (r : Int)).toNat = 12 + r by omega, br_len hB hr, if_pos (Int32.le_refl _)]
  have hx10 : ∀ x, x ∈ rowL A B r → x < 10 := fun x hx => hW.lt hx
  have hnum : ∀ e, vld (rowL A B r).length e → numOf (lr (rowL A B r) e) ≤ 1000000 := by
    intro e hv
    have hp := lr_perm hv
    have h1 := numOf_lt (lr (rowL A B r) e) (fun x hx => hx10 x (hp.mem_iff.mp hx))
    have h2 : 10 ^ (lr (rowL A B r) e).length ≤ 10 ^ 6 := Nat.pow_le_pow_right (by omega) (by rw [lr_len]; exact h6)
    have h3 : (10 : Nat) ^ 6 = 1000000 := by decide
    omega
  have hnp : ∀ e, vld (rowL A B r).length e → nCl C W (D 0) (D 1) (setR A B r (lr (rowL A B r) e)).1 (setR A B r (lr (rowL A B r) e)).2 ≤ 1000 := by
    intro e hv
    exact Nat.le_trans (nCl_le C W (D 0) (D 1) (setR_Wf hW (lr_perm hv))) (by omega)
  obtain ⟨⟨q0, q1, q2, q3, q4, q5, q6, q7, q8, q9⟩, g1, g2, g3⟩ := loop_inv (body := fun (q : Int32 × Int32 × Int32 × Int32 × Int32 × Int32 × Int32 × Int32 × Int32 × (Nat → Int32)) => f_X11_layOrders_b56 (iZ N) bk wd wi dl ah af (iZ r) (iZ (-6)) (iZ ((0 : Nat) : Int)) (iZ ((6 ^ (rowL A B r).length : Nat) : Int)) q.1 q.2.1 q.2.2.1 q.2.2.2.1 q.2.2.2.2.1 q.2.2.2.2.2.1 q.2.2.2.2.2.2.1 q.2.2.2.2.2.2.2.1 q.2.2.2.2.2.2.2.2.1 q.2.2.2.2.2.2.2.2.2) (s := (0, m1, m2, m3, m4, 0, (-6), 1000000, 0, cp 15 bk now))
    (P := fun q => LInv (fun e => nCl C W (D 0) (D 1) (setR A B r (lr (rowL A B r) e)).1 (setR A B r (lr (rowL A B r) e)).2) (fun e => numOf (lr (rowL A B r) e)) (fun e => vld (rowL A B r).length e) (6 ^ (rowL A B r).length) q.2.2.2.2.2.2.2.1 q.2.2.2.2.2.2.2.2.1 ∧
      OInv (fun e => numOf (lr (rowL A B r) e)) (fun e => vld (rowL A B r).length e ∧ kpB N F Z (lr (rowL A B r) e) = true) (6 ^ (rowL A B r).length) q.2.2.2.2.2.1 q.2.2.2.2.2.2.1)
    (fun e s => ∃ a1 a2 a3 a4 of fo ls lo nw, s = (iZ ((e : Nat) : Int), a1, a2, a3, a4, of, fo, ls, lo, nw) ∧ LInv (fun e => nCl C W (D 0) (D 1) (setR A B r (lr (rowL A B r) e)).1 (setR A B r (lr (rowL A B r) e)).2) (fun e => numOf (lr (rowL A B r) e)) (fun e => vld (rowL A B r).length e) e ls lo ∧
      OInv (fun e => numOf (lr (rowL A B r) e)) (fun e => vld (rowL A B r).length e ∧ kpB N F Z (lr (rowL A B r) e) = true) e of fo ∧ ∀ j, (j < 6 * r ∨ 6 * r + (rowL A B r).length ≤ j) → nw j = cp 15 bk now j) (6 ^ (rowL A B r).length)
    ⟨m1, m2, m3, m4, 0, -6, 1000000, 0, cp 15 bk now, rfl, Or.inl ⟨fun e h => absurd h (Nat.not_lt_zero e), rfl, rfl⟩, ⟨[], List.nodup_nil, fun e => ⟨fun h => (by cases h), fun h => absurd h.1 (Nat.not_lt_zero e)⟩, rfl, Or.inl ⟨rfl, rfl⟩⟩, fun j _ => rfl⟩
    (by
      rintro e he s ⟨a1, a2, a3, a4, of, fo, ls, lo, nw, rfl, hL, hO, hnw⟩
      dsimp only
      obtain ⟨z, nw2, l1, l2, l3, l4⟩ := layRow_s (now := nw) hB hW hr he
      have hnw2 : ∀ j, (j < 6 * r ∨ 6 * r + (rowL A B r).length ≤ j) → nw2 j = cp 15 bk now j := fun j hj => (l3 j hj).trans (hnw j hj)
      unfold f_X11_layOrders_b56 f_X11_layOrders_j99 f_X11_layOrders_j108
      rw [if_neg (by rw [z_le] <;> omega), l1, bd2_s]
      rcases l4 with ⟨hv, rfl⟩ | ⟨hv, rfl⟩
      · have hn1 := hnum e hv
        have hWn := setR_Wf hW (lr_perm hv)
        have hBn := setR_book (hB.cp (x := now) hW) hW hr (lr_perm hv) l2 hnw2
        have hkeep := keeps_s hU hBn hWn hr
        rw [setR_row hr] at hkeep
        obtain ⟨tw, fs, wh, hlay⟩ := lay_n hM hBn hWn (dz := -6) (by omega) (by omega) (v := 0) (by omega)
        rw [wider0f] at hlay
        rw [if_neg (by rw [show (0 : Int32) = iZ 0 from rfl, z_lt] <;> omega), hkeep, bd1_s]
        have hj : ∀ of2 fo2, ∃ ls' lo', f_X11_layOrders_j121 wd wi dl (iZ (-6)) (iZ ((0 : Nat) : Int)) (iZ e) (iZ (numOf (lr (rowL A B r) e))) of2 fo2 ls lo nw2 = some (.inl (iZ ((e + 1 : Nat) : Int), tw, iZ (nCl C W (D 0) (D 1) (setR A B r (lr (rowL A B r) e)).1 (setR A B r (lr (rowL A B r) e)).2), fs, wh, of2, fo2, ls', lo', nw2)) ∧ LInv (fun e => nCl C W (D 0) (D 1) (setR A B r (lr (rowL A B r) e)).1 (setR A B r (lr (rowL A B r) e)).2) (fun e => numOf (lr (rowL A B r) e)) (fun e => vld (rowL A B r).length e) (e + 1) ls' lo' :=
          fun of2 fo2 => j121_s (Np := fun e => nCl C W (D 0) (D 1) (setR A B r (lr (rowL A B r) e)).1 (setR A B r (lr (rowL A B r) e)).2) (nm := fun e => numOf (lr (rowL A B r) e)) (V := fun e => vld (rowL A B r).length e) hlay hv (fun f hf => ⟨hnp f hf, hnum f hf⟩) hL (by omega) of2 fo2
        by_cases hk : kpB N F Z (lr (rowL A B r) e) = true
        · rw [if_pos hk, if_neg (show ¬ iZ 1 = 0 by decide)]
          have hp := hO.push ⟨hv, hk⟩ (by omega) (fun f hf => hnum f hf.1)
          by_cases ho : of = 0
          · obtain ⟨ls', lo', j1, j2⟩ := hj (of + 1) (iZ (numOf (lr (rowL A B r) e)))
            rw [if_pos ho] at hp
            rw [if_pos ho, j1]
            exact ⟨_, rfl, _, _, _, _, _, _, _, _, _, rfl, j2, hp, hnw2⟩
          · rw [if_neg ho] at hp
            rw [if_neg ho]
            by_cases hf : fo ≤ iZ (numOf (lr (rowL A B r) e))
            · obtain ⟨ls', lo', j1, j2⟩ := hj (of + 1) fo
              rw [if_pos hf] at hp
              rw [if_pos hf, j1]
              exact ⟨_, rfl, _, _, _, _, _, _, _, _, _, rfl, j2, hp, hnw2⟩
            · obtain ⟨ls', lo', j1, j2⟩ := hj (of + 1) (iZ (numOf (lr (rowL A B r) e)))
              rw [if_neg hf] at hp
              rw [if_neg hf, j1]
              exact ⟨_, rfl, _, _, _, _, _, _, _, _, _, rfl, j2, hp, hnw2⟩
        · rw [if_neg hk, if_pos (show iZ 0 = 0 from rfl)]
          obtain ⟨ls', lo', j1, j2⟩ := hj of fo
          rw [j1]
          exact ⟨_, rfl, _, _, _, _, _, _, _, _, _, rfl, j2, hO.skip (fun h => hk h.2), hnw2⟩
      · rw [if_pos (show iZ (-6) < 0 by decide), e1]
        exact ⟨_, rfl, _, _, _, _, _, _, _, _, _, rfl, hL.skip hv, hO.skip (fun h => hv h.1), hnw2⟩)
    (by
      rintro s ⟨a1, a2, a3, a4, of, fo, ls, lo, nw, rfl, hL, hO, hnw⟩
      dsimp only
      unfold f_X11_layOrders_b56
      rw [if_pos (Int32.le_refl _)]
      exact ⟨_, rfl, hL, hO⟩)
    (by omega)
  refine ⟨q1, q2, q3, q4, q5, q6, q7, q8, q9, ?_, g2, g3⟩
  unfold f_X11_layOrders
  rw [plain_s, bd3_s, hcodes, bd2_s, g1, bd10_s]
theorem order_both {T : TW} {M : BK} (hT : TRel T M) (s0 : Int32) (cr cs an : Nat → Int32) (n1 n2 n3 n4 n5 n6 n7 n8 n9 n10 : Int32) (now : Nat → Int32) (x y : Int32) :
    ∃ v t m, f_X10_order T.w T.c T.d T.ro T.pl s0 cr cs an x y = some (v, t) ∧ f_X11_order M.rn n1 n2 n3 n4 n5 n6 n7 n8 n9 n10 M.bk now M.wd M.wi M.dl M.ah M.af x y = some (v, m) := by
  obtain ⟨z, z1, z2, rfl⟩ := z_of x
  obtain ⟨u, u1, u2, rfl⟩ := z_of y
  obtain ⟨A, B, b, W, K, C, D, N, F, Z, N2, F2, S2, h⟩ := hT
  have hu := within_z u1 u2 (a := 0) (b := 1) (by omega) (by omega) (by omega) (by omega)
  have hu2 := in_z u1 u2 (a := 0) (b := 1) (by omega) (by omega) (by omega) (by omega)
  unfold f_X10_order f_X11_order
  rw [isRow_z z1 z2, isRow_m z1 z2, show f_X10_within (iZ u) 0 1 = _ from hu, show f_X11_in (iZ u) 0 1 = _ from hu2, bd1_s, bd1_s, bd1_s, bd1_s]
  by_cases ha : 0 ≤ z ∧ z ≤ 1
  · rw [if_neg (show ¬ bz (0 ≤ z ∧ z ≤ 1) = 0 from bzN ha), if_neg (show ¬ bz (0 ≤ z ∧ z ≤ 1) = 0 from bzN ha)]
    by_cases hb : 0 ≤ u ∧ u ≤ 1
    · rw [if_neg (show ¬ bz (0 ≤ u ∧ u ≤ 1) = 0 from bzN hb), if_neg (show ¬ bz (0 ≤ u ∧ u ≤ 1) = 0 from bzN hb)]
      obtain ⟨r, rfl⟩ : ∃ v : Nat, z = v := ⟨z.toNat, by omega⟩
      have hr : r < 2 := by omega
      obtain ⟨hTC, hTM⟩ := tOf h.h1 h.h3 h.h4
      obtain ⟨cr', c1, c2⟩ := gather_s h.hR h.hW hr cr
      have hpm := crL_perm h.hW hr
      have hSN : (crL A B r 10).Nodup := hpm.nodup_iff.mpr (h.hW.nL r)
      have hS10 : ∀ x, x ∈ crL A B r 10 → x < 10 := fun x hx => h.hW.lt (hpm.mem_iff.mp hx)
      have h6 := crL_len h.hW hr
      obtain ⟨cs', an', a, k1, k2, k3⟩ := countClashes_s hTC h.hR h.hW hr h6 hSN hS10 c2 cs an
      have hpos : 0 < 2 ^ (crL A B r 10).length := Nat.pow_pos (by omega)
      have kf := k3 (2 ^ (crL A B r 10).length - 1) (by omega)
      obtain ⟨p, p1, p2, p3, p4⟩ := firstOf_s k2 k3 (crL_sort A B r 10) c2
      have e0 : (crL A B r 10).length - pc (2 ^ (crL A B r 10).length - 1) = 0 := by
        have : pc (2 ^ (crL A B r 10).length - 1) = (crL A B r 10).length := (mk_full ⟨(crL A B r 10).length, by omega⟩).2.1
        omega
      have hmin := kf.2
      rw [ml_full h6, e0] at hmin
      obtain ⟨a1, a2, a3, a4, of, fo, ls, lo, nw, q1, q2, q3⟩ := layOrders_s hTM (F := F) (Z := Z) (ah := M.ah) (af := M.af) ⟨h.h5.1, fun i hi => ⟨(h.h5.2 i hi).2.2.1, (h.h5.2 i hi).2.2.2.1, (h.h5.2 i hi).2.2.2.2.1, (h.h5.2 i hi).2.2.2.2.2.1⟩⟩ h.hB h.hW hr n1 n2 n3 n4 now
      have hL6 := h.hW.len r
      have hres : ls = iZ (a (2 ^ (crL A B r 10).length - 1)) ∧ lo = iZ (numOf p) := by
        have hpL : p.Perm (rowL A B r) := p2.trans hpm
        rcases q2 with ⟨w1, -, -⟩ | ⟨e, w1, w2, rfl, rfl, w5⟩
        · obtain ⟨c0, v1, v2, -⟩ := lr_ex (h.hW.nL r) hL6 (List.Perm.refl (rowL A B r))
          exact absurd v2 (w1 c0 v1)
        · dsimp only at w5 ⊢
          rw [nCl_set h.hW hr (lr_perm w2)] at w5 ⊢
          have hle : ∀ q : List Nat, q.Perm (rowL A B r) → tcost (cst C W (D 0) (D 1) (rowL A B (1 - r)) r) 0 (lr (rowL A B r) e) < tcost (cst C W (D 0) (D 1) (rowL A B (1 - r)) r) 0 q ∨ (tcost (cst C W (D 0) (D 1) (rowL A B (1 - r)) r) 0 (lr (rowL A B r) e) = tcost (cst C W (D 0) (D 1) (rowL A B (1 - r)) r) 0 q ∧ numOf (lr (rowL A B r) e) ≤ numOf q) := by
            intro q hq
            obtain ⟨f, v1, v2, rfl⟩ := lr_ex (h.hW.nL r) hL6 hq
            have := w5 f v1 v2
            rwa [nCl_set h.hW hr (lr_perm v2)] at this
          have hm2 : IsMin (cst C W (D 0) (D 1) (rowL A B (1 - r)) r) 0 (rowL A B r) (tcost (cst C W (D 0) (D 1) (rowL A B (1 - r)) r) 0 (lr (rowL A B r) e)) := by
            refine ⟨⟨_, lr_perm w2, rfl⟩, fun q hq => ?_⟩
            have := hle q hq
            omega
          have heq := (hmin.perm hpm).eq hm2
          have hA := hle p hpL
          have hB := p4 (lr (rowL A B r) e) ((lr_perm w2).trans hpm.symm) (by omega)
          exact ⟨by rw [← heq], congrArg (fun n : Nat => iZ n) (show numOf (lr (rowL A B r) e) = numOf p by omega)⟩
      obtain ⟨rfl, rfl⟩ := hres
      rw [c1, bd2_s, k1, bd2_s, answer_s h6 kf.1, bd1_s, p1, bd1_s, h.hrn, q1, bd11_s]
      by_cases h0 : iZ u = 0
      · rw [if_pos h0, if_pos h0]
        exact ⟨_, _, _, rfl, rfl⟩
      · rw [if_neg h0, if_neg h0]
        exact ⟨_, _, _, rfl, rfl⟩
    · rw [if_pos (show bz (0 ≤ u ∧ u ≤ 1) = 0 from bzP hb), if_pos (show bz (0 ≤ u ∧ u ≤ 1) = 0 from bzP hb)]
      exact ⟨_, _, _, rfl, rfl⟩
  · rw [if_pos (show bz (0 ≤ z ∧ z ≤ 1) = 0 from bzP ha), if_pos (show bz (0 ≤ z ∧ z ≤ 1) = 0 from bzP ha)]
    exact ⟨_, _, _, rfl, rfl⟩
theorem orders_both {T : TW} {M : BK} (hT : TRel T M) (s0 : Int32) (cr an : Nat → Int32) (n1 n2 n3 n4 n5 n6 n7 n8 n9 n10 : Int32) (now : Nat → Int32) (x y : Int32) :
    ∃ v t m, f_X10_orders T.ro T.rc T.rf T.rs s0 cr an x y = some (v, t) ∧ f_X11_orders M.rn n1 n2 n3 n4 n5 n6 n7 n8 n9 n10 M.bk now M.wd M.wi M.dl M.ah M.af x y = some (v, m) := by
  obtain ⟨z, z1, z2, rfl⟩ := z_of x
  obtain ⟨u, u1, u2, rfl⟩ := z_of y
  obtain ⟨A, B, b, W, K, C, D, N, F, Z, N2, F2, S2, h⟩ := hT
  have hu := within_z u1 u2 (a := 0) (b := 1) (by omega) (by omega) (by omega) (by omega)
  have hu2 := in_z u1 u2 (a := 0) (b := 1) (by omega) (by omega) (by omega) (by omega)
  unfold f_X10_orders f_X11_orders
  rw [isRow_z z1 z2, isRow_m z1 z2, show f_X10_within (iZ u) 0 1 = _ from hu, show f_X11_in (iZ u) 0 1 = _ from hu2, bd1_s, bd1_s, bd1_s, bd1_s]
  by_cases ha : 0 ≤ z ∧ z ≤ 1
  · rw [if_neg (show ¬ bz (0 ≤ z ∧ z ≤ 1) = 0 from bzN ha), if_neg (show ¬ bz (0 ≤ z ∧ z ≤ 1) = 0 from bzN ha)]
    by_cases hb : 0 ≤ u ∧ u ≤ 1
    · rw [if_neg (show ¬ bz (0 ≤ u ∧ u ≤ 1) = 0 from bzN hb), if_neg (show ¬ bz (0 ≤ u ∧ u ≤ 1) = 0 from bzN hb)]
      obtain ⟨r, rfl⟩ : ∃ v : Nat, z = v := ⟨z.toNat, by omega⟩
      have hr : r < 2 := by omega
      obtain ⟨hTC, hTM⟩ := tOf h.h1 h.h3 h.h4
      obtain ⟨cr', c1, c2⟩ := gather_s h.hR h.hW hr cr
      have hpm := crL_perm h.hW hr
      have hSN : (crL A B r 10).Nodup := hpm.nodup_iff.mpr (h.hW.nL r)
      have hS10 : ∀ x, x ∈ crL A B r 10 → x < 10 := fun x hx => h.hW.lt (hpm.mem_iff.mp hx)
      have h6 := crL_len h.hW hr
      have hU : RuC N T.rf T.rs F Z := ⟨h.h5.1, fun i hi => ⟨(h.h5.2 i hi).1, (h.h5.2 i hi).2.1, (h.h5.2 i hi).2.2.2.2.1, (h.h5.2 i hi).2.2.2.2.2.1, (h.h5.2 i hi).2.2.2.2.2.2⟩⟩
      obtain ⟨an', k1, k2⟩ := countOrders_s hU h6 hSN hS10 c2 an
      have hpos : 0 < 2 ^ (crL A B r 10).length := Nat.pow_pos (by omega)
      have kf := k2 (2 ^ (crL A B r 10).length - 1) (by omega)
      rw [ml_full h6] at kf
      have hfb := firstBy_s hU h6 hSN hS10 (crL_sort A B r 10) c2 k2
      obtain ⟨a1, a2, a3, a4, of, fo, ls, lo, nw, q1, q2, q3⟩ := layOrders_s hTM (F := F) (Z := Z) (ah := M.ah) (af := M.af) ⟨h.h5.1, fun i hi => ⟨(h.h5.2 i hi).2.2.1, (h.h5.2 i hi).2.2.2.1, (h.h5.2 i hi).2.2.2.2.1, (h.h5.2 i hi).2.2.2.2.2.1⟩⟩ h.hB h.hW hr n1 n2 n3 n4 now
      have hL6 := h.hW.len r
      obtain ⟨vs, v1, v2, v3, v4⟩ := q3
      have hmem : ∀ p : List Nat, p ∈ vs.map (fun e => lr (rowL A B r) e) ↔ p.Perm (rowL A B r) ∧ kpB N F Z p = true := by
        intro p
        rw [List.mem_map]
        constructor
        · rintro ⟨e, e1, rfl⟩
          obtain ⟨e2, e3, e4⟩ := (v2 e).mp e1
          exact ⟨lr_perm e3, e4⟩
        · rintro ⟨hp, hk⟩
          obtain ⟨e, e1, e2, rfl⟩ := lr_ex (h.hW.nL r) hL6 hp
          exact ⟨e, (v2 e).mpr ⟨e1, e2, hk⟩, rfl⟩
      have hcount : vs.length = nOr N F Z (crL A B r 10) := by
        rw [nOr_perm hpm hSN, ← List.length_map (f := fun e => lr (rowL A B r) e)]
        unfold nOr
        rw [List.countP_eq_length_filter]
        refine List.Perm.length_eq ((List.perm_ext_iff_of_nodup ?_ ((nodup_allP _ _ rfl (h.hW.nL r)).filter _)).mpr (fun p => ?_))
        · refine nodup_map_on v1 (fun e he f hf e2 => ?_)
          obtain ⟨x1, x2, -⟩ := (v2 e).mp he
          obtain ⟨y1, y2, -⟩ := (v2 f).mp hf
          exact lr_inj (h.hW.nL r) x1 y1 x2 y2 e2
        · rw [hmem, List.mem_filter, mem_allP _ _ rfl]
      have hfirst : f_X3_firstByRules 10 (iZ (crL A B r 10).length) cr' an' (iZ N) T.rf T.rs = some fo := by
        rcases hfb with ⟨f1, f2⟩ | ⟨f1, p, f2, f3, f4, f5⟩
        · rw [f2]
          rcases v4 with ⟨-, rfl⟩ | ⟨e, e1, -⟩
          · rfl
          · have := List.length_pos_of_mem e1
            omega
        · rw [f2]
          rcases v4 with ⟨rfl, -⟩ | ⟨e, e1, rfl, e3⟩
          · simp at hcount
            omega
          · obtain ⟨x1, x2, x3⟩ := (v2 e).mp e1
            have hA := f5 (lr (rowL A B r) e) ((lr_perm x2).trans hpm.symm) x3
            obtain ⟨f, g1, g2⟩ := List.mem_map.mp ((hmem p).mpr ⟨f3.trans hpm, f4⟩)
            have hB := e3 f g1
            dsimp only at hB g2
            rw [g2] at hB
            exact congrArg (fun n : Nat => some (iZ n)) (show numOf p = numOf (lr (rowL A B r) e) by omega)
      subst v3
      rw [hcount] at q1
      rw [c1, bd2_s, h.hrc, k1, bd1_s, answer_s h6 kf, bd1_s, hfirst, bd1_s, h.hrn, q1, bd11_s]
      by_cases h0 : iZ u = 0
      · rw [if_pos h0, if_pos h0]
        exact ⟨_, _, _, rfl, rfl⟩
      · rw [if_neg h0, if_neg h0]
        exact ⟨_, _, _, rfl, rfl⟩
    · rw [if_pos (show bz (0 ≤ u ∧ u ≤ 1) = 0 from bzP hb), if_pos (show bz (0 ≤ u ∧ u ≤ 1) = 0 from bzP hb)]
      exact ⟨_, _, _, rfl, rfl⟩
  · rw [if_pos (show bz (0 ≤ z ∧ z ≤ 1) = 0 from bzP ha), if_pos (show bz (0 ≤ z ∧ z ≤ 1) = 0 from bzP ha)]
    exact ⟨_, _, _, rfl, rfl⟩
