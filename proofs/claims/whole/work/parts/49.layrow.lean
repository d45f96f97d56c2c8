theorem mk_shr : ∀ s : Fin 64, ∀ k : Fin 10, (iZ (s.val : Int) >>> (iZ (k.val : Int) &&& 31)) &&& 1 = iZ ((if s.val.testBit k.val then 1 else 0 : Nat) : Int) := by decide +kernel
theorem mk_hi10 : ∀ s : Fin 64, ∀ k : Fin 10, 6 ≤ k.val → s.val.testBit k.val = false := by decide +kernel
def st1 (s k : Nat) : Nat := if s.testBit k then s else s + 2 ^ k
theorem mk_or : ∀ s : Fin 64, ∀ k : Fin 6, iZ (s.val : Int) ||| ((1 : Int32) <<< (iZ (k.val : Int) &&& 31)) = iZ ((st1 s.val k.val : Nat) : Int) ∧ st1 s.val k.val < 64 := by decide +kernel
theorem mk_st1 : ∀ s : Fin 64, ∀ k : Fin 6, ∀ j : Fin 6, (st1 s.val k.val).testBit j.val = (s.val.testBit j.val || decide (j.val = k.val)) := by decide +kernel
theorem mk_or0 : ∀ s : Fin 64, iZ (s.val : Int) ||| 0 = iZ (s.val : Int) := by decide +kernel
theorem bits_s {m : Nat} (hm : m < 64) : f_X11_bits (iZ m) = some (iZ (pc m)) := by
  have e1 : ∀ n : Nat, iZ (n : Int) + 1 = iZ ((n + 1 : Nat) : Int) := by intro n; rw [show (1 : Int32) = iZ 1 from rfl, z_add]; rfl
  have h : loopN (fun (q : Int32 × Int32) => f_X11_bits_b4 (iZ m) q.1 q.2) FU (0, 0) = some (iZ (cntB (fun k => m.testBit k) 10), iZ 10) := by
    refine loop_FU (fun i : Nat => ((iZ (cntB (fun k => m.testBit k) i) : Int32), (iZ i : Int32))) 10 rfl ?_ ?_ (by omega)
    · intro k hk
      dsimp only
      unfold f_X11_bits_b4
      rw [if_neg (by rw [show (10 : Int32) = iZ 10 from rfl, z_le] <;> omega), e1, mk_shr ⟨m, hm⟩ ⟨k, hk⟩, z_add, cntB]
      rfl
    · dsimp only
      unfold f_X11_bits_b4
      rw [if_pos (by decide)]
      rfl
  unfold f_X11_bits
  rw [h, bd2_s, cntB_ext (n := 6) 10 (by omega) (fun k h1 h2 => mk_hi10 ⟨m, hm⟩ ⟨k, h2⟩ h1)]
  rfl
theorem md6 {a : Nat} (ha : a ≤ 100000) : iZ (a : Int) - iZ (a : Int) / 6 * 6 = iZ ((a % 6 : Nat) : Int) := by
  rw [show (6 : Int32) = iZ 6 from rfl, z_div (by omega) (by omega) (by omega) (by omega), z_rem (by omega) (by omega) (by omega) (by omega)]
  rfl
theorem dv6 {a : Nat} (ha : a ≤ 100000) : iZ (a : Int) / 6 = iZ ((a / 6 : Nat) : Int) := by
  rw [show (6 : Int32) = iZ 6 from rfl, z_div (by omega) (by omega) (by omega) (by omega)]
  rfl
/-- the digits of a code, the first place first -/
def dg : Nat → Nat → List Nat
  | 0, _ => []
  | n + 1, c => dg n (c / 6) ++ [c % 6]
theorem dg_len : ∀ n c : Nat, (dg n c).length = n := by
  intro n
  induction n with
  | zero => intro c; rfl
  | succ n ih => intro c; rw [dg, List.length_append, ih]; rfl
theorem dg_lt : ∀ n c : Nat, ∀ d, d ∈ dg n c → d < 6 := by
  intro n
  induction n with
  | zero => intro c d h; cases h
  | succ n ih =>
    intro c d h
    rw [dg, List.mem_append] at h
    rcases h with h | h
    · exact ih _ d h
    · rw [List.mem_singleton.mp h]; omega
theorem dg_get : ∀ n c t : Nat, t < n → (dg n c)[n - 1 - t]? = some (c / 6 ^ t % 6) := by
  intro n
  induction n with
  | zero => intro c t h; omega
  | succ n ih =>
    intro c t h
    rw [dg]
    cases t with
    | zero =>
      rw [List.getElem?_append_right (by rw [dg_len]; omega), dg_len, show n + 1 - 1 - 0 - n = 0 by omega, Nat.pow_zero, Nat.div_one]
      rfl
    | succ t =>
      rw [List.getElem?_append_left (by rw [dg_len]; omega), show n + 1 - 1 - (t + 1) = n - 1 - t by omega, ih (c / 6) t (by omega), Nat.div_div_eq_div_mul, Nat.pow_succ, Nat.mul_comm 6]
theorem dg_ex : ∀ (n : Nat) (l : List Nat), l.length = n → (∀ d, d ∈ l → d < 6) → ∃ c, c < 6 ^ n ∧ dg n c = l := by
  intro n
  induction n with
  | zero =>
    intro l h _
    exact ⟨0, by omega, by rw [List.length_eq_zero_iff.mp h]; rfl⟩
  | succ n ih =>
    intro l h hd
    have hne : l ≠ [] := fun e => by rw [e] at h; simp at h
    have hl := List.dropLast_concat_getLast hne
    obtain ⟨c, c1, c2⟩ := ih l.dropLast (by rw [List.length_dropLast]; omega) (fun d hd2 => hd d ((List.dropLast_sublist l).subset hd2))
    have hlast := hd _ (List.getLast_mem hne)
    refine ⟨6 * c + l.getLast hne, ?_, ?_⟩
    · rw [Nat.pow_succ]; omega
    · rw [dg, show (6 * c + l.getLast hne) / 6 = c by omega, show (6 * c + l.getLast hne) % 6 = l.getLast hne by omega, c2]
      exact hl
theorem dg_inj : ∀ n c e : Nat, c < 6 ^ n → e < 6 ^ n → dg n c = dg n e → c = e := by
  intro n
  induction n with
  | zero => intro c e h1 h2 _; omega
  | succ n ih =>
    intro c e h1 h2 h
    rw [Nat.pow_succ] at h1 h2
    rw [dg, dg] at h
    obtain ⟨h3, h4⟩ := List.append_inj h (by rw [dg_len, dg_len])
    have h5 := ih _ _ (by omega) (by omega) h3
    have h6 := (List.cons.inj h4).1
    omega
theorem nodup_of_len : ∀ (X L : List Nat), X.Nodup → (∀ x, x ∈ X → x ∈ L) → X.length = L.length → L.Perm X := by
  intro X
  induction X with
  | nil =>
    intro L _ _ h
    rw [List.length_eq_zero_iff.mp h.symm]
  | cons a X ih =>
    intro L h1 h2 h3
    have h4 := List.nodup_cons.mp h1
    have ha := h2 a List.mem_cons_self
    have h5 := ih (L.erase a) h4.2 (fun x hx => (List.mem_erase_of_ne (fun e : x = a => h4.1 (by rw [← e]; exact hx))).mpr (h2 x (List.mem_cons_of_mem _ hx))) (by rw [List.length_erase_of_mem ha]; rw [List.length_cons] at h3; omega)
    exact (List.perm_cons_erase ha).trans (List.Perm.cons _ h5)
def vld (n c : Nat) : Prop := (dg n c).Perm (List.range n)
theorem vld_pc {n c m : Nat} (hn : n ≤ 6) (hm : m < 64) (hb : ∀ k, k < 6 → (m.testBit k = true ↔ k ∈ dg n c ∧ k < n)) : pc m = n ↔ vld n c := by
  have hX : pc m = ((List.range 6).filter (fun k => m.testBit k)).length := by
    unfold pc
    rw [cntB_eq, List.countP_eq_length_filter]
  have hXn : ((List.range 6).filter (fun k => m.testBit k)).Nodup := List.nodup_range.filter _
  have hXm : ∀ k, k ∈ (List.range 6).filter (fun k => m.testBit k) ↔ k ∈ dg n c ∧ k < n := by
    intro k
    rw [List.mem_filter, List.mem_range]
    constructor
    · rintro ⟨h1, h2⟩; exact (hb k h1).mp h2
    · rintro ⟨h1, h2⟩; exact ⟨by omega, (hb k (by omega)).mpr ⟨h1, h2⟩⟩
  rw [hX]
  constructor
  · intro h
    have h1 := nodup_of_len _ (dg n c) hXn (fun k hk => ((hXm k).mp hk).1) (by rw [dg_len]; exact h)
    have h2 := nodup_of_len _ (List.range n) hXn (fun k hk => List.mem_range.mpr ((hXm k).mp hk).2) (by rw [List.length_range]; exact h)
    exact h1.trans h2.symm
  · intro h
    have h1 : ((List.range 6).filter (fun k => m.testBit k)).Perm (List.range n) := by
      refine (List.perm_ext_iff_of_nodup hXn List.nodup_range).mpr (fun k => ?_)
      rw [hXm, List.mem_range]
      exact ⟨fun h => h.2, fun h2 => ⟨h.mem_iff.mpr (List.mem_range.mpr h2), h2⟩⟩
    rw [h1.length_eq, List.length_range]
/-- the row that a code lays -/
def lr (L : List Nat) (c : Nat) : List Nat := (dg L.length c).map (fun d => L.getD d 0)
theorem lr_len (L : List Nat) (c : Nat) : (lr L c).length = L.length := by unfold lr; rw [List.length_map, dg_len]
theorem range_map (L : List Nat) : (List.range L.length).map (fun d => L.getD d 0) = L := by
  apply List.ext_getElem?
  intro i
  rw [List.getElem?_map]
  by_cases hi : i < L.length
  · rw [List.getElem?_range hi, getD_get hi]
    rfl
  · rw [List.getElem?_eq_none (by rw [List.length_range]; omega), List.getElem?_eq_none (by omega)]
    rfl
theorem lr_perm {L : List Nat} {c : Nat} (h : vld L.length c) : (lr L c).Perm L := by
  have h1 := h.map (fun d => L.getD d 0)
  rw [range_map] at h1
  exact h1
theorem lr_ex {L p : List Nat} (hN : L.Nodup) (h6 : L.length ≤ 6) (hp : p.Perm L) : ∃ c, c < 6 ^ L.length ∧ vld L.length c ∧ lr L c = p := by
  have hd : ∀ d, d ∈ p.map (fun x => L.idxOf x) → d < L.length := by
    intro d hd
    obtain ⟨x, hx, rfl⟩ := List.mem_map.mp hd
    exact List.idxOf_lt_length_iff.mpr (hp.mem_iff.mp hx)
  obtain ⟨c, c1, c2⟩ := dg_ex L.length (p.map (fun x => L.idxOf x)) (by rw [List.length_map, hp.length_eq]) (fun d h => by have := hd d h; omega)
  refine ⟨c, c1, ?_, ?_⟩
  · unfold vld
    rw [c2]
    have hpn : p.Nodup := hp.nodup_iff.mpr hN
    have hn : (p.map (fun x => L.idxOf x)).Nodup := nodup_map_on hpn (fun x hx y hy e => idx_inj (hp.mem_iff.mp hx) (hp.mem_iff.mp hy) e)
    exact (nodup_of_len _ (List.range L.length) hn (fun x hx => List.mem_range.mpr (hd x hx)) (by rw [List.length_map, hp.length_eq, List.length_range])).symm
  · unfold lr
    rw [c2, List.map_map]
    have : p.map ((fun d => L.getD d 0) ∘ fun x => L.idxOf x) = p.map id := by
      refine List.map_congr_left (fun x hx => ?_)
      show L.getD (L.idxOf x) 0 = x
      exact getD_idx (hp.mem_iff.mp hx)
    rw [this, List.map_id]
theorem lr_inj {L : List Nat} (hN : L.Nodup) {c e : Nat} (hc : c < 6 ^ L.length) (he : e < 6 ^ L.length) (hv : vld L.length c) (hw : vld L.length e) (h : lr L c = lr L e) : c = e := by
  refine dg_inj L.length c e hc he ?_
  unfold lr at h
  apply List.ext_getElem?
  intro i
  have h2 := congrArg (fun l => l[i]?) h
  rw [List.getElem?_map, List.getElem?_map] at h2
  cases h3 : (dg L.length c)[i]? with
  | none =>
    rw [List.getElem?_eq_none_iff, dg_len] at h3
    rw [List.getElem?_eq_none (by rw [dg_len]; exact h3)]
  | some x =>
    have h4 := (List.getElem?_eq_some_iff.mp h3).1
    rw [dg_len] at h4
    cases h5 : (dg L.length e)[i]? with
    | none => rw [List.getElem?_eq_none_iff, dg_len] at h5; omega
    | some y =>
      rw [h3, h5] at h2
      have h6 : L.getD x 0 = L.getD y 0 := Option.some.inj h2
      have hx := List.mem_range.mp (hv.mem_iff.mp (List.mem_of_getElem? h3))
      have hy := List.mem_range.mp (hw.mem_iff.mp (List.mem_of_getElem? h5))
      rw [getD_inj hN hx hy h6]
theorem layRow_s {bk now : Nat → Int32} {A B : List Nat} {b : Nat} (hB : BookRep bk A B b) (hW : Wf A B) {r : Nat} (hr : r < 2) {c : Nat} (hc : c < 6 ^ (rowL A B r).length) :
    ∃ z nw, f_X11_layRow bk now (iZ r) (iZ c) = some (z, nw) ∧ (∀ i x : Nat, (lr (rowL A B r) c)[i]? = some x → nw (6 * r + i) = iZ x) ∧ (∀ j, (j < 6 * r ∨ 6 * r + (rowL A B r).length ≤ j) → nw j = now j) ∧ ((vld (rowL A B r).length c ∧ z = iZ (numOf (lr (rowL A B r) c))) ∨ (¬ vld (rowL A B r).length c ∧ z = iZ (-6))) := by
  have hlen := br_len hB hr
  have hat : ∀ i x : Nat, (rowL A B r)[i]? = some x → bk (6 * r + i) = iZ x := fun i x h => br_at hB hr h
  have h6 := hW.len r
  have hx10 : ∀ x, x ∈ rowL A B r → x < 10 := fun x hx => hW.lt hx
  generalize rowL A B r = L at hlen hat h6 hx10 hc
  have hc6 : c ≤ 46656 := by
    have h1 : 6 ^ L.length ≤ 6 ^ 6 := Nat.pow_le_pow_right (by omega) h6
    have h2 : (6 : Nat) ^ 6 = 46656 := by decide
    omega
  obtain ⟨⟨q1, q2, q3, q4⟩, g1, m, rfl, m1, m2, m3, m4⟩ := loop_inv (body := fun (q : Int32 × Int32 × Int32 × (Nat → Int32)) => f_X11_layRow_b21 bk (iZ r) q.1 q.2.1 q.2.2.1 q.2.2.2 (iZ L.length)) (s := (iZ c, 0, iZ ((L.length : Int) - 1), now))
    (P := fun q => ∃ m : Nat, q.2.1 = iZ m ∧ m < 64 ∧ (∀ k, k < 6 → (m.testBit k = true ↔ (∃ t, t < L.length ∧ c / 6 ^ t % 6 = k) ∧ k < L.length)) ∧ (∀ t, t < L.length → q.2.2.2 (6 * r + (L.length - 1 - t)) = iZ (L.getD (c / 6 ^ t % 6) 0)) ∧ ∀ j, (j < 6 * r ∨ 6 * r + L.length ≤ j) → q.2.2.2 j = now j)
    (fun t s => ∃ m nw, s = (iZ ((c / 6 ^ t : Nat) : Int), iZ ((m : Nat) : Int), iZ ((L.length : Int) - 1 - t), nw) ∧ m < 64 ∧ (∀ k, k < 6 → (m.testBit k = true ↔ (∃ u, u < t ∧ c / 6 ^ u % 6 = k) ∧ k < L.length)) ∧ (∀ u, u < t → nw (6 * r + (L.length - 1 - u)) = iZ (L.getD (c / 6 ^ u % 6) 0)) ∧ ∀ j, (j < 6 * r ∨ 6 * r + L.length ≤ j) → nw j = now j) L.length
    ⟨0, now, by rw [Nat.pow_zero, Nat.div_one, show ((L.length : Int) - 1 - ((0 : Nat) : Int)) = (L.length : Int) - 1 by omega]; rfl, by omega, fun k hk => ⟨fun h => (by rw [Nat.zero_testBit] at h; cases h), fun h => by obtain ⟨⟨u, hu, -⟩, -⟩ := h; omega⟩, fun u hu => absurd hu (Nat.not_lt_zero u), fun j _ => rfl⟩
    (by
      rintro t ht s ⟨m, nw, rfl, m1, m2, m3, m4⟩
      dsimp only
      have hq : c / 6 ^ t ≤ 46656 := Nat.le_trans (Nat.div_le_self _ _) hc6
      have hd6 : c / 6 ^ t % 6 < 6 := Nat.mod_lt _ (by omega)
      have hnx : c / 6 ^ t / 6 = c / 6 ^ (t + 1) := by rw [Nat.div_div_eq_div_mul, Nat.pow_succ]
      unfold f_X11_layRow_b21 f_X11_layRow_j56 f_X11_layRow_j92
      rw [md6 (by omega), dv6 (by omega), hnx]
      generalize hd : c / 6 ^ t % 6 = d at hd6
      have em : iZ ((L.length : Int) - 1 - (t : Int)) + (-1) = iZ ((L.length : Int) - 1 - ((t + 1 : Nat) : Int)) := by
        rw [show (-1 : Int32) = iZ (-1) from rfl, z_add]; congr 1; omega
      have h60 : ∀ e : Int, (6 : Int32) * iZ r + iZ e = iZ (6 * (r : Int) + e) := by
        intro e; rw [show (6 : Int32) = iZ 6 from rfl, z_mul, z_add]
      rw [if_neg (show ¬ iZ ((L.length : Int) - 1 - (t : Int)) < 0 by rw [show (0 : Int32) = iZ 0 from rfl, z_lt] <;> omega), em, h60, h60, gd_z (a := 6 * (r : Int) + ((L.length : Int) - 1 - (t : Int))) (by omega) (by omega) (by omega), z_cl (a := 6 * (r : Int) + ((L.length : Int) - 1 - (t : Int))) (by omega) (by omega), show (6 * (r : Int) + ((L.length : Int) - 1 - (t : Int))).toNat = 6 * r + (L.length - 1 - t) by omega]
      have hnw : ∀ v : Int32, v = iZ (L.getD d 0) → (∀ u, u < t + 1 → upd nw (6 * r + (L.length - 1 - t)) v (6 * r + (L.length - 1 - u)) = iZ (L.getD (c / 6 ^ u % 6) 0)) ∧ ∀ j, (j < 6 * r ∨ 6 * r + L.length ≤ j) → upd nw (6 * r + (L.length - 1 - t)) v j = now j := by
        intro v hv
        refine ⟨fun u hu => ?_, fun j hj => ?_⟩
        · by_cases hut : u = t
          · subst hut; rw [upd_at, hd]; exact hv
          · rw [upd_ne _ _ (by omega)]; exact m3 u (by omega)
        · rw [upd_ne _ _ (by omega)]; exact m4 j hj
      by_cases hdn : L.length ≤ d
      · have hle : iZ (L.length : Int) ≤ iZ (d : Int) := by rw [z_le] <;> omega
        rw [if_pos hle, if_pos hle, mk_or0 ⟨m, m1⟩]
        obtain ⟨w1, w2⟩ := hnw 0 (by rw [List.getD_eq_getElem?_getD, List.getElem?_eq_none hdn]; rfl)
        refine ⟨_, rfl, m, _, rfl, m1, fun k hk => ?_, w1, w2⟩
        rw [m2 k hk]
        constructor
        · rintro ⟨⟨u, u1, u2⟩, u3⟩; exact ⟨⟨u, by omega, u2⟩, u3⟩
        · rintro ⟨⟨u, u1, u2⟩, u3⟩
          refine ⟨⟨u, ?_, u2⟩, u3⟩
          rcases Nat.lt_or_ge u t with h | h
          · exact h
          · rw [show u = t by omega, hd] at u2; omega
      · have hle : ¬ iZ (L.length : Int) ≤ iZ (d : Int) := by rw [z_le] <;> omega
        obtain ⟨o1, o2⟩ := mk_or ⟨m, m1⟩ ⟨d, hd6⟩
        rw [if_neg hle, if_neg hle, o1, gd_z (a := 6 * (r : Int) + (d : Int)) (by omega) (by omega) (by omega), gd_z (a := 6 * (r : Int) + ((L.length : Int) - 1 - (t : Int))) (by omega) (by omega) (by omega), z_cl (a := 6 * (r : Int) + (d : Int)) (by omega) (by omega), show (6 * (r : Int) + (d : Int)).toNat = 6 * r + d by omega]
        obtain ⟨w1, w2⟩ := hnw (bk (6 * r + d)) (hat d _ (getD_get (by omega)))
        refine ⟨_, rfl, st1 m d, _, rfl, o2, fun k hk => ?_, w1, w2⟩
        rw [mk_st1 ⟨m, m1⟩ ⟨d, hd6⟩ ⟨k, hk⟩, Bool.or_eq_true, decide_eq_true_iff, m2 k hk]
        constructor
        · rintro (⟨⟨u, u1, u2⟩, u3⟩ | rfl)
          · exact ⟨⟨u, by omega, u2⟩, u3⟩
          · exact ⟨⟨t, by omega, hd⟩, by dsimp only at *; omega⟩
        · rintro ⟨⟨u, u1, u2⟩, u3⟩
          rcases Nat.lt_or_ge u t with h | h
          · exact Or.inl ⟨⟨u, h, u2⟩, u3⟩
          · rw [show u = t by omega, hd] at u2
            exact Or.inr u2.symm)
    (by
      rintro s ⟨m, nw, rfl, m1, m2, m3, m4⟩
      dsimp only
      unfold f_X11_layRow_b21
      rw [if_pos (show iZ ((L.length : Int) - 1 - (L.length : Int)) < 0 by rw [show ((L.length : Int) - 1 - (L.length : Int)) = -1 by omega]; decide)]
      exact ⟨_, rfl, m, rfl, m1, m2, m3, m4⟩)
    (by omega)
  dsimp only at m3 m4
  have hdgm : ∀ k, k ∈ dg L.length c ↔ ∃ t, t < L.length ∧ c / 6 ^ t % 6 = k := by
    intro k
    constructor
    · intro hk
      obtain ⟨i, hi, e⟩ := List.getElem_of_mem hk
      rw [dg_len] at hi
      refine ⟨L.length - 1 - i, by omega, ?_⟩
      have h1 := dg_get L.length c (L.length - 1 - i) (by omega)
      rw [show L.length - 1 - (L.length - 1 - i) = i by omega] at h1
      have h2 := (List.getElem?_eq_some_iff.mp h1).2
      rw [← h2]; exact e
    · rintro ⟨t, ht, rfl⟩
      exact List.mem_of_getElem? (dg_get L.length c t ht)
  have hlr : ∀ i x : Nat, (lr L c)[i]? = some x → q4 (6 * r + i) = iZ x := by
    intro i x hi
    have hil := (List.getElem?_eq_some_iff.mp hi).1
    rw [lr_len] at hil
    unfold lr at hi
    have h1 := dg_get L.length c (L.length - 1 - i) (by omega)
    rw [show L.length - 1 - (L.length - 1 - i) = i by omega] at h1
    rw [List.getElem?_map, h1] at hi
    have hx : L.getD (c / 6 ^ (L.length - 1 - i) % 6) 0 = x := Option.some.inj hi
    have h2 := m3 (L.length - 1 - i) (by omega)
    rw [show L.length - 1 - (L.length - 1 - i) = i by omega, hx] at h2
    exact h2
  have e1 : ∀ n : Nat, iZ (n : Int) + 1 = iZ ((n + 1 : Nat) : Int) := by intro n; rw [show (1 : Int32) = iZ 1 from rfl, z_add]; rfl
  have hnum : loopN (fun (q : Int32 × Int32) => f_X11_layRow_b105 (iZ r) q4 q.1 q.2 (iZ L.length)) FU (0, 0) = some (iZ (numOf (lr L c)), iZ L.length) := by
    have hfin : (lr L c).take L.length = lr L c := by rw [← lr_len L c, List.take_length]
    have hres := loop_FU (body := fun (q : Int32 × Int32) => f_X11_layRow_b105 (iZ r) q4 q.1 q.2 (iZ L.length)) (s := (0, 0)) (r := (iZ (numOf ((lr L c).take L.length)), iZ L.length)) (fun i : Nat => ((iZ (numOf ((lr L c).take i)) : Int32), (iZ i : Int32))) L.length rfl
      (by
        intro i hi
        dsimp only
        have hil : i < (lr L c).length := by rw [lr_len]; exact hi
        have hx : (lr L c)[i]? = some ((lr L c)[i]'hil) := List.getElem?_eq_getElem hil
        unfold f_X11_layRow_b105
        rw [if_neg (by rw [z_le] <;> omega), show (6 : Int32) = iZ 6 from rfl, z_mul, z_add, gd_z (by omega) (by omega) (by omega), z_cl (by omega) (by omega), show (6 * (r : Int) + (i : Int)).toNat = 6 * r + i by omega, hlr i _ hx, nmv_s, show (10 : Int32) = iZ 10 from rfl, z_mul, z_add, e1, List.take_add_one, hx]
        rw [show (some ((lr L c)[i]'hil)).toList = [(lr L c)[i]'hil] from rfl, numOf_snoc]
        rfl)
      (by
        dsimp only
        unfold f_X11_layRow_b105
        rw [if_pos (Int32.le_refl _)])
      (by omega)
    rw [hfin] at hres
    exact hres
  have hv := vld_pc (n := L.length) (c := c) h6 m1 (fun k hk => by rw [m2 k hk, hdgm k])
  have hpm : pc m ≤ 6 := cntB_le _ 6
  have hE : f_X11_layRow bk now (iZ r) (iZ c) = some (if pc m = L.length then iZ (numOf (lr L c)) else iZ (-6), q4) := by
    unfold f_X11_layRow
    rw [show (12 : Int32) = iZ 12 from rfl, z_add, gd_z (by omega) (by omega) (by omega), z_cl (by omega) (by omega), show ((12 : Int) + (r : Int)).toNat = 12 + r by omega, hlen, nmv_s, show (1 : Int32) = iZ 1 from rfl, z_sub, g1, bd4_s, hnum, bd2_s, bits_s m1, bd1_s]
    by_cases h : pc m = L.length
    · rw [if_pos (by rw [h]), if_pos h]
    · rw [if_neg (by rw [z_eq] <;> omega), if_neg h]
      rfl
  refine ⟨_, q4, hE, hlr, m4, ?_⟩
  by_cases h : pc m = L.length
  · rw [if_pos h]
    exact Or.inl ⟨hv.mp h, rfl⟩
  · rw [if_neg h]
    exact Or.inr ⟨fun h2 => h (hv.mpr h2), rfl⟩
