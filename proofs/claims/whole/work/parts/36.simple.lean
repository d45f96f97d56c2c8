theorem fault_both {sg : Nat → Int32} {P : Nat → Nat} {n : Nat} (hn : n ≤ 60) (hP : ∀ i, i < n → sg i = iZ (P i) ∧ P i ≤ 200) {sm : Nat → Int32} (hPm : ∀ i, i < n → sm i = iZ (P i) ∧ P i ≤ 200) : ∃ v, f_X10_fault (iZ n) sg = some v ∧ f_X11_fault (iZ n) sm = some v := by
  unfold f_X10_fault f_X11_fault
  rw [fault_s hn hP, faultM_s hn hPm, bd1_s]
  exact ⟨_, rfl, rfl⟩
/-- how many clash -/
def nCl (C W : Nat → Nat) (D0 D1 : Nat) (A B : List Nat) : Nat := (tmA A.length B.length 11).countP (clI C W D0 D1 A B)
theorem nCl_le (C W : Nat → Nat) (D0 D1 : Nat) {A B : List Nat} (hW : Wf A B) : nCl C W D0 D1 A B ≤ 66 := by
  unfold nCl
  have h1 := List.countP_le_length (p := clI C W D0 D1 A B) (l := tmA A.length B.length 11)
  have h2 := tmA_len A.length B.length 11
  have h3 := hW.1
  omega
theorem count_both {w c d ro pl now wd wi dl : Nat → Int32} {W C C' D : Nat → Nat} {A B : List Nat} {b : Nat} {dz : Int} {v : Nat} (hT : TownRep w c d W C' D) (hM : MTown wd wi dl W C D) (hR : RowsRep ro pl A B) (hB : BookRep now A B b) (hW : Wf A B) (hz1 : -6 ≤ dz) (hz2 : dz ≤ 16) (hv : v ≤ 30) (hC : ∀ k, k < 17 → C' k = wider C dz v k) (t0 : Int32) :
    ∃ tw fs wh tr, f_X1_count t0 w c d ro pl = some (tw, iZ (nCl C' W (D 0) (D 1) A B), fs, wh, tr) ∧ f_X11_layMeetings (iZ dz) (iZ v) now wd wi dl = some (tw, iZ (nCl C' W (D 0) (D 1) A B), fs, wh) := by
  have hT2 : TownRep w c d W (wider C dz v) D := ⟨hT.1, fun k hk => by rw [← hC k hk]; exact hT.2.1 k hk, hT.2.2⟩
  obtain ⟨tw, cz, fs, wh, tr, h1, h2⟩ := count_s hT2 hR hW t0
  obtain ⟨tw', cz', fs', wh', h3, h4⟩ := lay_s hM hB hW hz1 hz2 hv
  obtain ⟨rfl, rfl, rfl, rfl⟩ := meet_eq hW h2 h4
  have e : cz = iZ (nCl (wider C dz v) W (D 0) (D 1) A B) := h4.2.1
  have e2 : nCl C' W (D 0) (D 1) A B = nCl (wider C dz v) W (D 0) (D 1) A B := by
    unfold nCl
    refine List.countP_congr (fun p _ => ?_)
    unfold clI clB
    by_cases hm : mtB (D 0) (D 1) p.1 p.2 = true
    · have hm2 := of_decide_eq_true hm
      have i1 : ((spI (D 0) (D 1) p.1 p.2) / 2).toNat < 17 := by omega
      have i2 : ((spI (D 0) (D 1) p.1 p.2 + 1) / 2).toNat < 17 := by omega
      unfold nrB
      rw [hC _ i1, hC _ i2]
    · rw [Bool.not_eq_true] at hm
      rw [hm]
      rfl
  rw [e2]
  subst e
  exact ⟨tw, fs, wh, tr, h1, h3⟩
theorem wider0 (C : Nat → Nat) (k : Nat) : wider C (-6) 0 k = C k := by
  unfold wider
  split <;> rfl
theorem tOf {w c d wd wi dl : Nat → Int32} {W C D : Nat → Nat} (h1 : Same 10 1 15 w wd W) (h2 : Same 17 1 30 c wi C) (h3 : Same 2 0 20 d dl D) : TownRep w c d W C D ∧ MTown wd wi dl W C D := by
  refine ⟨⟨fun m hm => ⟨(h1 m hm).1, ?_⟩, fun m hm => ⟨(h2 m hm).1, ?_⟩, fun m hm => ⟨(h3 m hm).1, ?_⟩⟩, ⟨fun m hm => ⟨(h1 m hm).2.1, ?_⟩, fun m hm => ⟨(h2 m hm).2.1, ?_⟩, fun m hm => ⟨(h3 m hm).2.1, ?_⟩⟩⟩
  · have := (h1 m hm).2.2.2; omega
  · have := (h2 m hm).2.2.2; omega
  · have := (h3 m hm).2.2.2; omega
  · have := (h1 m hm).2.2.2; omega
  · have := (h2 m hm).2.2.2; omega
  · have := (h3 m hm).2.2.2; omega
theorem plain_s (bk now : Nat → Int32) : f_X11_plain bk now = some (iZ (-6), iZ ((0 : Nat) : Int), cp 15 bk now) := by
  unfold f_X11_plain
  rw [asNow_s, bd1_s]
  rfl
theorem meets_both {w c d ro pl bk wd wi dl : Nat → Int32} {W C D : Nat → Nat} {A B : List Nat} {b : Nat} (h1 : Same 10 1 15 w wd W) (h2 : Same 17 1 30 c wi C) (h3 : Same 2 0 20 d dl D) (hR : RowsRep ro pl A B) (hB : BookRep bk A B b) (hW : Wf A B) (m1 m2 m3 m4 m5 n1 n2 n3 n4 n5 n6 : Int32) (now : Nat → Int32) (x : Int32) :
    ∃ v t m, f_X10_meets w c d ro pl m1 m2 m3 m4 m5 x = some (v, t) ∧ f_X11_meets n1 n2 n3 n4 n5 n6 bk now wd wi dl x = some (v, m) := by
  obtain ⟨z, z1, z2, rfl⟩ := z_of x
  obtain ⟨hT, hM⟩ := tOf h1 h2 h3
  obtain ⟨tw, fs, wh, tr, g1, g2⟩ := count_both (now := cp 15 bk now) hT hM hR (hB.cp hW) hW (dz := -6) (by omega) (by omega) (v := 0) (by omega) (fun k _ => (wider0 C k).symm) m5
  unfold f_X10_meets f_X11_meets
  rw [g1, plain_s, bd5_s, bd3_s, g2, bd4_s, show (0 : Int32) = iZ 0 from rfl, show (3 : Int32) = iZ 3 from rfl, within_z z1 z2 (by omega) (by omega) (by omega) (by omega), in_z z1 z2 (by omega) (by omega) (by omega) (by omega), bd1_s, bd1_s]
  by_cases ha : 0 ≤ z ∧ z ≤ 3
  · rw [if_neg (bzN ha), if_neg (bzN ha)]
    by_cases e0 : iZ z = iZ 0
    · rw [if_pos e0, if_pos e0]; exact ⟨_, _, _, rfl, rfl⟩
    · rw [if_neg e0, if_neg e0]
      by_cases e1 : iZ z = 1
      · rw [if_pos e1, if_pos e1]; exact ⟨_, _, _, rfl, rfl⟩
      · rw [if_neg e1, if_neg e1]
        by_cases e2 : iZ z = 2
        · rw [if_pos e2, if_pos e2]; exact ⟨_, _, _, rfl, rfl⟩
        · rw [if_neg e2, if_neg e2]; exact ⟨_, _, _, rfl, rfl⟩
  · rw [if_pos (bzP ha), if_pos (bzP ha)]
    exact ⟨_, _, _, rfl, rfl⟩
def ownE (D : Nat) (L : List Nat) : Nat := if L.length = 0 then 0 else D + L.length + 16
theorem emptyFrom_s {ro pl d : Nat → Int32} {A B : List Nat} (hR : RowsRep ro pl A B) (hW : Wf A B) {D : Nat → Nat} (hd : ∀ r, r < 2 → d r = iZ (D r) ∧ D r ≤ 20) {r : Nat} (hr : r < 2) : f_X8_emptyFrom d ro (iZ r) = some (iZ (ownE (D r) (rowL A B r))) := by
  have hl := hW.len r
  have hd2 := (hd r hr).2
  unfold f_X8_emptyFrom ownE
  rw [lengthOf_s hR hW hr, bd1_s, show (0 : Int32) = iZ ((0 : Nat) : Int) from rfl]
  by_cases h0 : (rowL A B r).length = 0
  · rw [if_pos (by rw [h0]), if_pos h0]
  · rw [if_neg (by rw [z_eq] <;> omega), if_neg h0, at_n hr (by omega), bd1_s, (hd r hr).1, show (1 : Int32) = iZ 1 from rfl, show (17 : Int32) = iZ 17 from rfl, z_add, z_sub, z_add]
    congr 2
    omega
theorem runs_both {d ro pl bk dl : Nat → Int32} {D : Nat → Nat} {A B : List Nat} {b : Nat} (h3 : Same 2 0 20 d dl D) (hR : RowsRep ro pl A B) (hB : BookRep bk A B b) (hW : Wf A B) : ∃ v, f_X10_runs d ro = some v ∧ f_X11_runs bk dl = some v := by
  have hd : ∀ r, r < 2 → d r = iZ (D r) ∧ D r ≤ 20 := fun r hr => ⟨(h3 r hr).1, (h3 r hr).2.2.2⟩
  have hlA := hW.1
  have hlB := hW.2.1
  have d0 := (hd 0 (by omega)).2
  have d1 := (hd 1 (by omega)).2
  have o0 : ownE (D 0) A ≤ 60 := by unfold ownE; split <;> omega
  have o1 : ownE (D 1) B ≤ 60 := by unfold ownE; split <;> omega
  have step : ∀ (l r : Nat), r < 2 → l ≤ 60 → f_X11_runs_b4 bk dl (iZ l) (iZ r) = some (.inl (iZ ((max l (ownE (D r) (rowL A B r)) : Nat) : Int), iZ ((r + 1 : Nat) : Int))) := by
    intro l r hr hl
    have hlr := hW.len r
    have hd2 := (hd r hr).2
    unfold f_X11_runs_b4 ownE
    rw [show (2 : Int32) = iZ 2 from rfl, if_neg (by rw [z_le] <;> omega), show (12 : Int32) = iZ 12 from rfl, z_add, gd_z (by omega) (by omega) (by omega), z_cl (by omega) (by omega), show ((12 : Int) + (r : Int)).toNat = 12 + r by omega, br_len hB hr, show (0 : Int32) = iZ ((0 : Nat) : Int) from rfl]
    by_cases h0 : (rowL A B r).length = 0
    · rw [if_pos (by rw [h0]), if_pos h0]
      unfold f_X11_runs_j44 f_X11_runs_j55
      rw [if_pos (by rw [z_le] <;> omega), show (1 : Int32) = iZ 1 from rfl, z_add, Nat.max_eq_left (Nat.zero_le _)]
      rfl
    · rw [if_neg (by rw [z_eq] <;> omega), if_neg h0, gd_z (by omega) (by omega) (by omega), gd_z (by omega) (by omega) (by omega), z_cl (by omega) (by omega), Int.toNat_natCast, (h3 r hr).2.1, show (16 : Int32) = iZ 16 from rfl, z_add, z_add]
      unfold f_X11_runs_j44 f_X11_runs_j55
      by_cases hc : D r + (rowL A B r).length + 16 ≤ l
      · rw [if_pos (by rw [z_le] <;> omega), show (1 : Int32) = iZ 1 from rfl, z_add, Nat.max_eq_left hc]
        rfl
      · rw [if_neg (by rw [z_le] <;> omega), show (1 : Int32) = iZ 1 from rfl, z_add, Nat.max_eq_right (by omega)]
        rfl
  have e0 := emptyFrom_s hR hW hd (r := 0) (by omega)
  have e1 := emptyFrom_s hR hW hd (r := 1) (by omega)
  unfold f_X10_runs f_X11_runs
  rw [show (0 : Int32) = iZ ((0 : Nat) : Int) from rfl, show (1 : Int32) = iZ ((1 : Nat) : Int) from rfl, e0, e1, bd1_s, bd1_s]
  have hs : loopN (fun (q : Int32 × Int32) => f_X11_runs_b4 bk dl q.1 q.2) FU (iZ ((0 : Nat) : Int), iZ ((0 : Nat) : Int)) = some (iZ ((max (max 0 (ownE (D 0) A)) (ownE (D 1) B) : Nat) : Int), iZ ((2 : Nat) : Int)) := by
    refine loop_FU (fun i : Nat => match i with
      | 0 => (iZ ((0 : Nat) : Int), iZ ((0 : Nat) : Int))
      | 1 => (iZ ((max 0 (ownE (D 0) A) : Nat) : Int), iZ ((1 : Nat) : Int))
      | _ => (iZ ((max (max 0 (ownE (D 0) A)) (ownE (D 1) B) : Nat) : Int), iZ ((2 : Nat) : Int))) 2 rfl ?_ ?_ (by omega)
    · intro i hi
      rcases (show i = 0 ∨ i = 1 by omega) with rfl | rfl
      · exact step 0 0 (by omega) (by omega)
      · exact step _ 1 (by omega) (by omega)
    · show f_X11_runs_b4 bk dl (iZ ((max (max 0 (ownE (D 0) A)) (ownE (D 1) B) : Nat) : Int)) (iZ ((2 : Nat) : Int)) = _
      unfold f_X11_runs_b4
      rw [if_pos (by decide)]
  rw [hs, bd2_s]
  refine ⟨_, rfl, ?_⟩
  show some (iZ ((max (max 0 (ownE (D 0) A)) (ownE (D 1) B) : Nat) : Int)) = some (if iZ (ownE (D 0) A : Int) < iZ (ownE (D 1) B : Int) then iZ (ownE (D 1) B : Int) else iZ (ownE (D 0) A : Int))
  by_cases hc : ownE (D 0) A < ownE (D 1) B
  · rw [if_pos (by rw [z_lt] <;> omega), Nat.max_eq_right (a := max 0 (ownE (D 0) A)) (by omega)]
  · rw [if_neg (by rw [z_lt] <;> omega), Nat.max_eq_left (a := max 0 (ownE (D 0) A)) (by omega), Nat.max_eq_right (by omega)]
