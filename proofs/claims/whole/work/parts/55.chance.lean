theorem l_div {a b : Int} (h1 : 0 ≤ a) (h2 : a ≤ 9223372036854775807) (h3 : 0 < b) (h4 : b ≤ 9223372036854775807) : lZ a / lZ b = lZ (a / b) := by
  rw [← Int64.toInt_inj, Int64.toInt_div_of_ne_right, l_toInt (by omega) h2, l_toInt (by omega) h4, Int.tdiv_eq_ediv_of_nonneg h1, l_toInt]
  · exact Int.le_trans (by omega) (Int.ediv_nonneg h1 (by omega))
  · exact Int.le_trans (Int.ediv_le_self _ h1) h2
  · intro h
    have h5 : (lZ b).toInt = (-1 : Int64).toInt := by rw [h]
    rw [l_toInt (by omega) h4] at h5
    have h6 : (-1 : Int64).toInt = -1 := by decide
    omega
theorem l_rem {a b : Nat} (h2 : a ≤ 9223372036854775807) (h3 : 0 < b) (h4 : b ≤ 9223372036854775807) : lZ (a : Int) - lZ (a : Int) / lZ (b : Int) * lZ (b : Int) = lZ ((a % b : Nat) : Int) := by
  rw [l_div (by omega) (by omega) (by omega) (by omega), l_mul, l_sub]
  congr 1
  have := Int.emod_add_mul_ediv (a : Int) (b : Int)
  rw [Int.mul_comm] at this
  rw [Int.natCast_emod]
  omega
theorem lgc {a : Nat} (h : a ≤ 9223372036854775807) : lg_cmp (lZ (a : Int)) 0 = if a = 0 then 0 else 1 := by
  by_cases h0 : a = 0
  · subst h0
    rfl
  · rw [if_neg h0]
    unfold lg_cmp
    rw [if_pos]
    rw [gt_iff_lt, Int64.lt_iff_toInt_lt, l_toInt (by omega) (by omega)]
    have : (0 : Int64).toInt = 0 := by decide
    omega
theorem lz_ne {b : Nat} (h3 : 0 < b) (h4 : b ≤ 9223372036854775807) : ¬ lZ (b : Int) = 0 := by
  intro h
  have h5 : (lZ (b : Int)).toInt = (0 : Int64).toInt := by rw [h]
  rw [l_toInt (by omega) (by omega)] at h5
  have h6 : (0 : Int64).toInt = 0 := by decide
  omega
theorem half_mod {a b : Nat} (hb : 0 < b) {n : Nat} (h : a < 2 ^ (n + 1)) (hba : b ≤ a) : a % b < 2 ^ n := by
  have h1 := Nat.mod_lt a hb
  have h2 := Nat.mod_add_div a b
  have h3 : 1 ≤ a / b := (Nat.one_le_div_iff hb).mpr hba
  have h4 : b * 1 ≤ b * (a / b) := Nat.mul_le_mul_left b h3
  rw [Nat.pow_succ] at h
  omega
theorem gcd_step {a b : Nat} : Nat.gcd a b = Nat.gcd b (a % b) := by
  rw [Nat.gcd_comm a b, Nat.gcd_rec b a, Nat.gcd_comm]
theorem cd_loop : ∀ (n a b st fuel : Nat), b < 2 ^ n → a ≤ 1000000000000000 → b ≤ 1000000000000000 → st + 2 * n < 200 → 2 * n + 1 < fuel → ∃ x y, loopN (fun (q : Int64 × Int64 × Int32) => f_X2_commonDivisor_b9 q.1 q.2.1 q.2.2) fuel (lZ (a : Int), lZ (b : Int), iZ (st : Int)) = some (lZ ((Nat.gcd a b : Nat) : Int), x, y) := by
  have e1 : ∀ n : Nat, iZ (n : Int) + 1 = iZ ((n + 1 : Nat) : Int) := by intro n; rw [show (1 : Int32) = iZ 1 from rfl, z_add]; rfl
  have fin : ∀ (a st fuel : Nat), st < 200 → 0 < fuel → ∃ x y, loopN (fun (q : Int64 × Int64 × Int32) => f_X2_commonDivisor_b9 q.1 q.2.1 q.2.2) fuel (lZ (a : Int), lZ ((0 : Nat) : Int), iZ (st : Int)) = some (lZ ((Nat.gcd a 0 : Nat) : Int), x, y) := by
    intro a st fuel h1 h2
    cases fuel with
    | zero => omega
    | succ fuel =>
      unfold loopN f_X2_commonDivisor_b9
      rw [if_neg (by rw [show (200 : Int32) = iZ 200 from rfl, z_le] <;> omega), lgc (by omega), if_pos rfl, if_pos rfl, Nat.gcd_zero_right]
      exact ⟨_, _, rfl⟩
  have step : ∀ (a b st fuel : Nat), 0 < b → a ≤ 1000000000000000 → b ≤ 1000000000000000 → st < 200 → loopN (fun (q : Int64 × Int64 × Int32) => f_X2_commonDivisor_b9 q.1 q.2.1 q.2.2) (fuel + 1) (lZ (a : Int), lZ (b : Int), iZ (st : Int)) = loopN (fun (q : Int64 × Int64 × Int32) => f_X2_commonDivisor_b9 q.1 q.2.1 q.2.2) fuel (lZ (b : Int), lZ ((a % b : Nat) : Int), iZ ((st + 1 : Nat) : Int)) := by
    intro a b st fuel h1 h2 h3 h4
    have hb : f_X2_commonDivisor_b9 (lZ (a : Int)) (lZ (b : Int)) (iZ (st : Int)) = some (.inl (lZ (b : Int), lZ ((a % b : Nat) : Int), iZ ((st + 1 : Nat) : Int))) := by
      unfold f_X2_commonDivisor_b9 nzl
      rw [if_neg (by rw [show (200 : Int32) = iZ 200 from rfl, z_le] <;> omega), lgc (by omega), if_neg (show ¬ b = 0 by omega), if_neg (show ¬ (1 : Int32) = 0 by decide), if_neg (lz_ne h1 (by omega)), l_rem (by omega) h1 (by omega), e1]
    rw [loopN]
    dsimp only
    rw [hb]
  intro n
  induction n with
  | zero =>
    intro a b st fuel h1 h2 h3 h4 h5
    rw [Nat.pow_zero] at h1
    rw [show b = 0 by omega]
    exact fin a st fuel (by omega) (by omega)
  | succ n ih =>
    intro a b st fuel h1 h2 h3 h4 h5
    by_cases h0 : b = 0
    · subst h0
      exact fin a st fuel (by omega) (by omega)
    · obtain ⟨f1, rfl⟩ : ∃ f, fuel = f + 1 := ⟨fuel - 1, by omega⟩
      have hm := Nat.mod_lt a (show 0 < b by omega)
      rw [step a b st f1 (by omega) h2 h3 (by omega), gcd_step]
      by_cases hr : a % b = 0
      · rw [hr]
        exact fin b (st + 1) f1 (by omega) (by omega)
      · obtain ⟨f2, rfl⟩ : ∃ f, f1 = f + 1 := ⟨f1 - 1, by omega⟩
        have hm2 := Nat.mod_lt b (show 0 < a % b by omega)
        rw [step b (a % b) (st + 1) f2 (by omega) h3 (by omega) (by omega), gcd_step]
        exact ih (a % b) (b % (a % b)) (st + 1 + 1) f2 (half_mod (by omega) h1 (by omega)) (by omega) (by omega) (by omega) (by omega)
theorem cdM_loop : ∀ (n a b fuel : Nat), b < 2 ^ n → a ≤ 1000000000000000 → b ≤ 1000000000000000 → 2 * n + 1 < fuel → ∃ x, loopN (fun (q : Int64 × Int64) => f_X11_chance_b212 q.1 q.2) fuel (lZ (a : Int), lZ (b : Int)) = some (lZ ((Nat.gcd a b : Nat) : Int), x) := by
  have fin : ∀ (a fuel : Nat), 0 < fuel → ∃ x, loopN (fun (q : Int64 × Int64) => f_X11_chance_b212 q.1 q.2) fuel (lZ (a : Int), lZ ((0 : Nat) : Int)) = some (lZ ((Nat.gcd a 0 : Nat) : Int), x) := by
    intro a fuel h2
    cases fuel with
    | zero => omega
    | succ fuel =>
      unfold loopN f_X11_chance_b212
      rw [lgc (by omega), if_pos rfl, if_pos rfl, Nat.gcd_zero_right]
      exact ⟨_, rfl⟩
  have step : ∀ (a b fuel : Nat), 0 < b → a ≤ 1000000000000000 → b ≤ 1000000000000000 → loopN (fun (q : Int64 × Int64) => f_X11_chance_b212 q.1 q.2) (fuel + 1) (lZ (a : Int), lZ (b : Int)) = loopN (fun (q : Int64 × Int64) => f_X11_chance_b212 q.1 q.2) fuel (lZ (b : Int), lZ ((a % b : Nat) : Int)) := by
    intro a b fuel h1 h2 h3
    have hb : f_X11_chance_b212 (lZ (a : Int)) (lZ (b : Int)) = some (.inl (lZ (b : Int), lZ ((a % b : Nat) : Int))) := by
      unfold f_X11_chance_b212 nzl
      rw [lgc (by omega), if_neg (show ¬ b = 0 by omega), if_neg (show ¬ (1 : Int32) = 0 by decide), if_neg (lz_ne h1 (by omega)), l_rem (by omega) h1 (by omega)]
    rw [loopN]
    dsimp only
    rw [hb]
  intro n
  induction n with
  | zero =>
    intro a b fuel h1 h2 h3 h5
    rw [Nat.pow_zero] at h1
    rw [show b = 0 by omega]
    exact fin a fuel (by omega)
  | succ n ih =>
    intro a b fuel h1 h2 h3 h5
    by_cases h0 : b = 0
    · subst h0
      exact fin a fuel (by omega)
    · obtain ⟨f1, rfl⟩ : ∃ f, fuel = f + 1 := ⟨fuel - 1, by omega⟩
      have hm := Nat.mod_lt a (show 0 < b by omega)
      rw [step a b f1 (by omega) h2 h3, gcd_step]
      by_cases hr : a % b = 0
      · rw [hr]
        exact fin b f1 (by omega)
      · obtain ⟨f2, rfl⟩ : ∃ f, f1 = f + 1 := ⟨f1 - 1, by omega⟩
        have hm2 := Nat.mod_lt b (show 0 < a % b by omega)
        rw [step b (a % b) f2 (by omega) h3 (by omega), gcd_step]
        exact ih (a % b) (b % (a % b)) f2 (half_mod (by omega) h1 (by omega)) (by omega) (by omega) (by omega)
def wN (t : Nat) : Nat → Nat → Nat
  | 0, n => if n = 0 then 1 else 0
  | i + 1, n => wN t i n * t + (if n = 0 then 0 else wN t i (n - 1)) * (10 - t)
theorem wN_le {t : Nat} (ht : t ≤ 10) : ∀ i n : Nat, wN t i n ≤ 10 ^ i := by
  intro i
  induction i with
  | zero => intro n; unfold wN; split <;> omega
  | succ i ih =>
    intro n
    rw [wN, Nat.pow_succ]
    have h1 := Nat.mul_le_mul_right t (ih n)
    have h2 : (if n = 0 then 0 else wN t i (n - 1)) ≤ 10 ^ i := by
      split
      · exact Nat.zero_le _
      · exact ih _
    have h3 := Nat.mul_le_mul_right (10 - t) h2
    have h4 : 10 ^ i * t + 10 ^ i * (10 - t) = 10 ^ i * 10 := by rw [← Nat.mul_add]; congr 1; omega
    omega
theorem updL_at (f : Nat → Int64) (k : Nat) (v : Int64) : vp_updL f k v k = v := by unfold vp_updL; rw [if_pos rfl]
theorem updL_ne (f : Nat → Int64) {k j : Nat} (v : Int64) (h : j ≠ k) : vp_updL f k v j = f j := by unfold vp_updL; rw [if_neg h]
theorem wnew {t : Nat} (ht : t ≤ 10) {f : Nat → Int64} {i n : Nat} (h0 : f n = lZ (wN t i n)) (h1 : 0 < n → f (n - 1) = lZ (wN t i (n - 1))) : f n * Int32.toInt64 (iZ t) + (if n = 0 then 0 else f (n - 1)) * Int32.toInt64 (10 - iZ t) = lZ (wN t (i + 1) n) := by
  rw [show (10 : Int32) = iZ 10 from rfl, z_sub, l_of32 (by omega) (by omega), l_of32 (by omega) (by omega), h0, wN]
  by_cases hn : n = 0
  · rw [if_pos hn, if_pos hn, show (0 : Int64) = lZ 0 from rfl, l_mul, l_mul, l_add]
    congr 1
    rw [Int.zero_mul, Nat.zero_mul]
    rfl
  · rw [if_neg hn, if_neg hn, h1 (by omega), l_mul, l_mul, l_add]
    congr 1
    rw [show (10 : Int) - (t : Int) = ((10 - t : Nat) : Int) by omega]
    rfl
theorem wnew0 {t : Nat} (ht : t ≤ 10) {v : Int64} {i : Nat} (h0 : v = lZ (wN t i 0)) : v * Int32.toInt64 (iZ t) + 0 = lZ (wN t (i + 1) 0) := by
  rw [l_of32 (by omega) (by omega), h0, wN, if_pos rfl, show (0 : Int64) = lZ 0 from rfl, l_mul, l_add]
  congr 1
  rw [Nat.zero_mul]
  rfl
theorem weigh_s {t m : Nat} (ht : t ≤ 10) (hm : m ≤ 100) (wt : Nat → Int64) : ∃ wt', f_X2_weigh wt (iZ m) (iZ t) = some wt' ∧ ∀ n, n < 13 → wt' n = lZ (wN t m n) := by
  have e1 : ∀ n : Nat, iZ (n : Int) + 1 = iZ ((n + 1 : Nat) : Int) := by intro n; rw [show (1 : Int32) = iZ 1 from rfl, z_add]; rfl
  obtain ⟨⟨a1, a2⟩, g1, g2⟩ := loop_inv (body := fun (q : Int32 × (Nat → Int64)) => f_X2_weigh_b2 q.1 q.2) (s := (0, wt)) (P := fun q => ∀ n, n < 13 → q.2 n = lZ (wN t 0 n))
    (fun i s => ∃ w2, s = (iZ ((i : Nat) : Int), w2) ∧ ∀ n, n < i → w2 n = lZ (wN t 0 n)) 13
    ⟨wt, rfl, fun n h => absurd h (Nat.not_lt_zero n)⟩
    (by
      rintro i hi s ⟨w2, rfl, hI⟩
      dsimp only
      unfold f_X2_weigh_b2 f_X2_weigh_j25
      rw [if_neg (by rw [show (13 : Int32) = iZ 13 from rfl, z_le] <;> omega), gd_z (by omega) (by omega) (by omega), gd_z (by omega) (by omega) (by omega), z_cl (by omega) (by omega), Int.toNat_natCast, e1]
      have hnew : ∀ v : Int64, v = lZ (wN t 0 i) → ∀ n, n < i + 1 → vp_updL w2 i v n = lZ (wN t 0 n) := by
        intro v hv n hn
        by_cases hni : n = i
        · subst hni; rw [updL_at]; exact hv
        · rw [updL_ne _ _ hni]; exact hI n (by omega)
      by_cases h0 : i = 0
      · rw [if_pos (by rw [h0]; rfl)]
        exact ⟨_, rfl, _, rfl, hnew 1 (by rw [h0]; rfl)⟩
      · rw [if_neg (by rw [show (0 : Int32) = iZ 0 from rfl, z_eq] <;> omega)]
        exact ⟨_, rfl, _, rfl, hnew 0 (by unfold wN; rw [if_neg h0]; rfl)⟩)
    (by
      rintro s ⟨w2, rfl, hI⟩
      dsimp only
      unfold f_X2_weigh_b2
      rw [if_pos (by decide)]
      exact ⟨_, rfl, hI⟩)
    (by omega)
  obtain ⟨⟨b1, b2⟩, k1, k2⟩ := loop_inv (body := fun (q : Int32 × (Nat → Int64)) => f_X2_weigh_b34 (iZ m) (iZ t) q.1 q.2) (s := (0, a2)) (P := fun q => ∀ n, n < 13 → q.2 n = lZ (wN t m n))
    (fun i s => ∃ w2, s = (iZ ((i : Nat) : Int), w2) ∧ ∀ n, n < 13 → w2 n = lZ (wN t i n)) m
    ⟨a2, rfl, g2⟩
    (by
      rintro i hi s ⟨w2, rfl, hI⟩
      dsimp only
      obtain ⟨⟨c1, c2⟩, u1, u2⟩ := loop_inv (body := fun (q : Int32 × (Nat → Int64)) => f_X2_weigh_b48 (iZ t) q.1 q.2) (s := ((13 - 1), w2)) (P := fun q => ∀ n, n < 13 → q.2 n = lZ (wN t (i + 1) n))
        (fun j s => ∃ w3, s = (iZ ((12 : Int) - j), w3) ∧ ∀ n, n < 13 → w3 n = lZ (if 12 < n + j then wN t (i + 1) n else wN t i n : Nat)) 13
        ⟨w2, rfl, fun n hn => by rw [if_neg (by omega)]; exact hI n hn⟩
        (by
          rintro j hj s ⟨w3, rfl, hJ⟩
          dsimp only
          have h0 : w3 (12 - j) = lZ (wN t i (12 - j)) := by
            have := hJ (12 - j) (by omega)
            rwa [if_neg (by omega)] at this
          have h1 : 0 < 12 - j → w3 (12 - j - 1) = lZ (wN t i (12 - j - 1)) := by
            intro hp
            have := hJ (12 - j - 1) (by omega)
            rwa [if_neg (by omega)] at this
          have hw := wnew ht h0 h1
          have ecl : (iZ ((12 : Int) - (j : Int))).toNatClampNeg = 12 - j := by rw [z_cl (by omega) (by omega)]; omega
          have em : iZ ((12 : Int) - (j : Int)) + (-1) = iZ ((12 : Int) - ((j + 1 : Nat) : Int)) := by
            rw [show (-1 : Int32) = iZ (-1) from rfl, z_add]; congr 1; omega
          have hres : ∀ n, n < 13 → vp_updL w3 (12 - j) (lZ (wN t (i + 1) (12 - j))) n = lZ (if 12 < n + (j + 1) then wN t (i + 1) n else wN t i n : Nat) := by
            intro n hn
            by_cases hnj : n = 12 - j
            · subst hnj
              rw [updL_at, if_pos (by omega)]
            · rw [updL_ne _ _ hnj, hJ n hn]
              by_cases h : 12 < n + j
              · rw [if_pos h, if_pos (by omega)]
              · rw [if_neg h, if_neg (by omega)]
          unfold f_X2_weigh_b48 f_X2_weigh_j71
          rw [if_neg (show ¬ iZ ((12 : Int) - (j : Int)) < 0 by rw [show (0 : Int32) = iZ 0 from rfl, z_lt] <;> omega), ecl, em]
          by_cases hz : 12 - j = 0
          · rw [if_pos (show iZ ((12 : Int) - (j : Int)) ≤ 0 by rw [show (0 : Int32) = iZ 0 from rfl, z_le] <;> omega), gd_z (by omega) (by omega) (by omega), gd_z (by omega) (by omega) (by omega)]
            rw [if_pos hz] at hw
            rw [hw]
            exact ⟨_, rfl, _, rfl, hres⟩
          · have ecl2 : (iZ ((12 : Int) - (j : Int)) - 1).toNatClampNeg = 12 - j - 1 := by rw [show (1 : Int32) = iZ 1 from rfl, z_sub, z_cl (by omega) (by omega)]; omega
            rw [if_neg (show ¬ iZ ((12 : Int) - (j : Int)) ≤ 0 by rw [show (0 : Int32) = iZ 0 from rfl, z_le] <;> omega), ecl2, show (1 : Int32) = iZ 1 from rfl, z_sub, gd_z (by omega) (by omega) (by omega), gd_z (by omega) (by omega) (by omega), gd_z (by omega) (by omega) (by omega)]
            rw [if_neg hz] at hw
            rw [hw]
            exact ⟨_, rfl, _, rfl, hres⟩)
        (by
          rintro s ⟨w3, rfl, hJ⟩
          dsimp only
          unfold f_X2_weigh_b48
          rw [if_pos (by decide)]
          refine ⟨_, rfl, fun n hn => ?_⟩
          have := hJ n hn
          rwa [if_pos (by omega)] at this)
        (by omega)
      unfold f_X2_weigh_b34
      rw [if_neg (by rw [z_le] <;> omega), u1, bd2_s, e1]
      exact ⟨_, rfl, _, rfl, u2⟩)
    (by
      rintro s ⟨w2, rfl, hI⟩
      dsimp only
      unfold f_X2_weigh_b34
      rw [if_pos (Int32.le_refl _)]
      exact ⟨_, rfl, hI⟩)
    (by omega)
  unfold f_X2_weigh
  rw [g1, bd2_s, k1, bd2_s]
  exact ⟨b2, rfl, k2⟩
def suN (t m k n : Nat) : Nat := sumF (fun i => if k ≤ i then wN t m i else 0) n
theorem ten_le {m : Nat} (hm : m ≤ 12) : 10 ^ m ≤ 1000000000000 := by
  have h2 : 10 ^ m ≤ 10 ^ 12 := Nat.pow_le_pow_right (by omega) hm
  have h3 : (10 : Nat) ^ 12 = 1000000000000 := by decide
  omega
theorem suN_le {t m k : Nat} (ht : t ≤ 10) (hm : m ≤ 12) : ∀ n : Nat, suN t m k n ≤ n * 1000000000000 := by
  intro n
  induction n with
  | zero => unfold suN sumF; exact Nat.zero_le _
  | succ n ih =>
    have h1 : (if k ≤ n then wN t m n else 0) ≤ 1000000000000 := by
      by_cases h : k ≤ n
      · rw [if_pos h]; exact Nat.le_trans (wN_le ht m n) (ten_le hm)
      · rw [if_neg h]; exact Nat.zero_le _
    have h2 : suN t m k (n + 1) = suN t m k n + (if k ≤ n then wN t m n else 0) := rfl
    rw [h2, Nat.succ_mul]
    exact Nat.add_le_add ih h1
theorem reckon_s {t m k : Nat} (ht : t ≤ 10) (hm : m ≤ 12) (hk : k ≤ 12) (wt : Nat → Int64) : ∃ wt', f_X2_reckon wt (iZ m) (iZ t) (iZ k) = some (lZ ((suN t m k 13 / Nat.gcd (suN t m k 13) (10 ^ m) : Nat) : Int), lZ ((10 ^ m / Nat.gcd (suN t m k 13) (10 ^ m) : Nat) : Int), wt') := by
  have e1 : ∀ n : Nat, iZ (n : Int) + 1 = iZ ((n + 1 : Nat) : Int) := by intro n; rw [show (1 : Int32) = iZ 1 from rfl, z_add]; rfl
  obtain ⟨wt', w1, w2⟩ := weigh_s ht (show m ≤ 100 by omega) wt
  have hs := suN_le (k := k) ht hm 13
  have ht2 := ten_le hm
  have hpos : 0 < 10 ^ m := Nat.pow_pos (by omega)
  have hsum : loopN (fun (q : Int64 × Int32) => f_X2_reckon_b12 (iZ k) wt' q.1 q.2) FU (0, 0) = some (lZ ((suN t m k 13 : Nat) : Int), iZ 13) := by
    refine loop_FU (fun i : Nat => ((lZ ((suN t m k i : Nat) : Int) : Int64), (iZ i : Int32))) 13 rfl ?_ ?_ (by omega)
    · intro i hi
      dsimp only
      unfold f_X2_reckon_b12
      rw [if_neg (by rw [show (13 : Int32) = iZ 13 from rfl, z_le] <;> omega), e1]
      unfold suN
      rw [sumF]
      by_cases h : k ≤ i
      · rw [if_neg (by rw [z_lt] <;> omega), gd_z (by omega) (by omega) (by omega), z_cl (by omega) (by omega), Int.toNat_natCast, w2 i hi, nmv_s, l_add, if_pos h]
        rfl
      · rw [if_pos (by rw [z_lt] <;> omega), if_neg h]
        rfl
    · dsimp only
      unfold f_X2_reckon_b12
      rw [if_pos (by decide)]
      rfl
  have hten : loopN (fun (q : Int64 × Int32) => f_X2_reckon_b52 (iZ m) q.1 q.2) FU (1, 0) = some (lZ ((10 ^ m : Nat) : Int), iZ m) := by
    refine loop_FU (fun i : Nat => ((lZ ((10 ^ i : Nat) : Int) : Int64), (iZ i : Int32))) m rfl ?_ ?_ (by omega)
    · intro i hi
      dsimp only
      unfold f_X2_reckon_b52
      rw [if_neg (by rw [z_le] <;> omega), e1, show (10 : Int64) = lZ 10 from rfl, l_mul, Nat.pow_succ]
      rfl
    · dsimp only
      unfold f_X2_reckon_b52
      rw [if_pos (Int32.le_refl _)]
  obtain ⟨x, y, hcd⟩ := cd_loop 44 (10 ^ m) (suN t m k 13) 0 FU (by have : (2 : Nat) ^ 44 = 17592186044416 := by decide
                                                                    omega) (by omega) (by omega) (by omega) (by unfold FU; omega)
  have hg0 : 0 < Nat.gcd (10 ^ m) (suN t m k 13) := Nat.gcd_pos_of_pos_left _ hpos
  have hg1 : Nat.gcd (10 ^ m) (suN t m k 13) ≤ 10 ^ m := Nat.gcd_le_left _ hpos
  unfold f_X2_reckon f_X2_commonDivisor f_X2_reckon_j99 f_X2_reckon_j120 nzl
  rw [w1, bd1_s, hsum, bd2_s, hten, bd2_s, show loopN (fun (q : Int64 × Int64 × Int32) => f_X2_commonDivisor_b9 q.1 q.2.1 q.2.2) FU (lZ ((10 ^ m : Nat) : Int), lZ ((suN t m k 13 : Nat) : Int), 0) = _ from hcd, bd3_s, bd1_s, lgc (by omega), if_neg (show ¬ Nat.gcd (10 ^ m) (suN t m k 13) = 0 by omega), if_neg (show ¬ (1 : Int32) ≤ 0 by decide), if_neg (show ¬ (1 : Int32) ≤ 0 by decide), if_neg (lz_ne hg0 (by omega)), if_neg (lz_ne hg0 (by omega)), l_div (by omega) (by omega) (by omega) (by omega), l_div (by omega) (by omega) (by omega) (by omega), Nat.gcd_comm]
  exact ⟨wt', rfl⟩
theorem ways0 (t : Nat) (wt : Nat → Int64) : ∃ x1 w1, loopN (fun (q : Int32 × (Nat → Int64)) => f_X11_chance_b60 q.1 q.2) FU (0, wt) = some (x1, w1) ∧ ∀ n, n < 13 → w1 n = lZ (wN t 0 n) := by
  have e1 : ∀ n : Nat, iZ (n : Int) + 1 = iZ ((n + 1 : Nat) : Int) := by intro n; rw [show (1 : Int32) = iZ 1 from rfl, z_add]; rfl
  obtain ⟨⟨a1, a2⟩, g1, g2⟩ := loop_inv (body := fun (q : Int32 × (Nat → Int64)) => f_X11_chance_b60 q.1 q.2) (s := (0, wt)) (P := fun q => ∀ n, n < 13 → q.2 n = lZ (wN t 0 n))
    (fun i s => ∃ w2, s = (iZ ((i : Nat) : Int), w2) ∧ ∀ n, n < i → w2 n = lZ (wN t 0 n)) 14
    ⟨wt, rfl, fun n h => absurd h (Nat.not_lt_zero n)⟩
    (by
      rintro i hi s ⟨w2, rfl, hI⟩
      dsimp only
      unfold f_X11_chance_b60 f_X11_chance_j83
      rw [if_neg (by rw [show (14 : Int32) = iZ 14 from rfl, z_le] <;> omega), gd_z (by omega) (by omega) (by omega), gd_z (by omega) (by omega) (by omega), z_cl (by omega) (by omega), Int.toNat_natCast, e1]
      have hnew : ∀ v : Int64, v = lZ (wN t 0 i) → ∀ n, n < i + 1 → vp_updL w2 i v n = lZ (wN t 0 n) := by
        intro v hv n hn
        by_cases hni : n = i
        · subst hni; rw [updL_at]; exact hv
        · rw [updL_ne _ _ hni]; exact hI n (by omega)
      by_cases h0 : i = 0
      · rw [if_pos (by rw [h0]; rfl)]
        exact ⟨_, rfl, _, rfl, hnew 1 (by rw [h0]; rfl)⟩
      · rw [if_neg (by rw [show (0 : Int32) = iZ 0 from rfl, z_eq] <;> omega)]
        exact ⟨_, rfl, _, rfl, hnew 0 (by unfold wN; rw [if_neg h0]; rfl)⟩)
    (by
      rintro s ⟨w2, rfl, hI⟩
      dsimp only
      unfold f_X11_chance_b60
      rw [if_pos (by decide)]
      exact ⟨_, rfl, fun n hn => hI n (by omega)⟩)
    (by omega)
  exact ⟨a1, a2, g1, g2⟩
theorem waysIn {t i : Nat} (ht : t ≤ 10) {w2 : Nat → Int64} (hI : ∀ n, n < 13 → w2 n = lZ (wN t i n)) : ∃ c1 c2, loopN (fun (q : Int32 × (Nat → Int64)) => f_X11_chance_b106 (iZ t) q.1 q.2) FU (12, w2) = some (c1, c2) ∧ ∀ n, n < 13 → c2 n = lZ (wN t (i + 1) n) := by
  obtain ⟨⟨c1, c2⟩, u1, u2⟩ := loop_inv (body := fun (q : Int32 × (Nat → Int64)) => f_X11_chance_b106 (iZ t) q.1 q.2) (s := (iZ 12, w2)) (P := fun q => ∀ n, n < 13 → q.2 n = lZ (wN t (i + 1) n))
    (fun j s => ∃ w3, s = (iZ ((12 : Int) - j), w3) ∧ ∀ n, n < 13 → w3 n = lZ (if 12 < n + j then wN t (i + 1) n else wN t i n : Nat)) 13
    ⟨w2, rfl, fun n hn => by rw [if_neg (by omega)]; exact hI n hn⟩
    (by
      rintro j hj s ⟨w3, rfl, hJ⟩
      dsimp only
      have h0 : w3 (12 - j) = lZ (wN t i (12 - j)) := by
        have := hJ (12 - j) (by omega)
        rwa [if_neg (by omega)] at this
      have h1 : 0 < 12 - j → w3 (12 - j - 1) = lZ (wN t i (12 - j - 1)) := by
        intro hp
        have := hJ (12 - j - 1) (by omega)
        rwa [if_neg (by omega)] at this
      have ecl : (iZ ((12 : Int) - (j : Int))).toNatClampNeg = 12 - j := by rw [z_cl (by omega) (by omega)]; omega
      have em : iZ ((12 : Int) - (j : Int)) + (-1) = iZ ((12 : Int) - ((j + 1 : Nat) : Int)) := by
        rw [show (-1 : Int32) = iZ (-1) from rfl, z_add]
        exact congrArg iZ (by omega)
      have hres : ∀ n, n < 13 → vp_updL w3 (12 - j) (lZ (wN t (i + 1) (12 - j))) n = lZ (if 12 < n + (j + 1) then wN t (i + 1) n else wN t i n : Nat) := by
        intro n hn
        by_cases hnj : n = 12 - j
        · subst hnj
          rw [updL_at, if_pos (by omega)]
        · rw [updL_ne _ _ hnj, hJ n hn]
          by_cases h : 12 < n + j
          · rw [if_pos h, if_pos (by omega)]
          · rw [if_neg h, if_neg (by omega)]
      unfold f_X11_chance_b106 f_X11_chance_j151
      rw [if_neg (show ¬ iZ ((12 : Int) - (j : Int)) < 0 by rw [show (0 : Int32) = iZ 0 from rfl, z_lt] <;> omega), ecl, em]
      by_cases hz : 12 - j = 0
      · rw [if_pos (show iZ ((12 : Int) - (j : Int)) ≤ 0 by rw [show (0 : Int32) = iZ 0 from rfl, z_le] <;> omega), gd_z (by omega) (by omega) (by omega), gd_z (by omega) (by omega) (by omega)]
        have hw0 : w3 (12 - j) * Int32.toInt64 (iZ t) + 0 = lZ (wN t (i + 1) (12 - j)) := by
          rw [hz] at h0 ⊢
          exact wnew0 ht h0
        rw [hw0]
        exact ⟨_, rfl, _, rfl, hres⟩
      · have ecl2 : (iZ ((12 : Int) - (j : Int)) - 1).toNatClampNeg = 12 - j - 1 := by rw [show (1 : Int32) = iZ 1 from rfl, z_sub, z_cl (by omega) (by omega)]; omega
        have hw := wnew ht h0 h1
        rw [if_neg hz] at hw
        rw [if_neg (show ¬ iZ ((12 : Int) - (j : Int)) ≤ 0 by rw [show (0 : Int32) = iZ 0 from rfl, z_le] <;> omega), ecl2, show (1 : Int32) = iZ 1 from rfl, z_sub, gd_z (by omega) (by omega) (by omega), gd_z (by omega) (by omega) (by omega), gd_z (by omega) (by omega) (by omega)]
        rw [hw]
        exact ⟨_, rfl, _, rfl, hres⟩)
    (by
      rintro s ⟨w3, rfl, hJ⟩
      dsimp only
      unfold f_X11_chance_b106
      rw [if_pos (by decide)]
      refine ⟨_, rfl, fun n hn => ?_⟩
      have := hJ n hn
      rwa [if_pos (by omega)] at this)
    (by omega)
  exact ⟨c1, c2, u1, u2⟩
theorem waysM_s {t m : Nat} (ht : t ≤ 10) (wt : Nat → Int64) (hm : m ≤ 12) : ∃ x1 w1 x2 x3 w2, loopN (fun (q : Int32 × (Nat → Int64)) => f_X11_chance_b60 q.1 q.2) FU (0, wt) = some (x1, w1) ∧ loopN (fun (q : Int64 × Int32 × (Nat → Int64)) => f_X11_chance_b93 (iZ t) (iZ m) q.1 q.2.1 q.2.2) FU (1, 0, w1) = some (x2, x3, w2) ∧ x2 = lZ ((10 ^ m : Nat) : Int) ∧ ∀ n, n < 13 → w2 n = lZ (wN t m n) := by
  have e1 : ∀ n : Nat, iZ (n : Int) + 1 = iZ ((n + 1 : Nat) : Int) := by intro n; rw [show (1 : Int32) = iZ 1 from rfl, z_add]; rfl
  obtain ⟨a1, a2, g1, g2⟩ := ways0 t wt
  obtain ⟨⟨b1, b2, b3⟩, k1, k2, k3⟩ := loop_inv (body := fun (q : Int64 × Int32 × (Nat → Int64)) => f_X11_chance_b93 (iZ t) (iZ m) q.1 q.2.1 q.2.2) (s := (1, 0, a2)) (P := fun q => q.1 = lZ ((10 ^ m : Nat) : Int) ∧ ∀ n, n < 13 → q.2.2 n = lZ (wN t m n))
    (fun i s => ∃ w2, s = (lZ ((10 ^ i : Nat) : Int), iZ ((i : Nat) : Int), w2) ∧ ∀ n, n < 13 → w2 n = lZ (wN t i n)) m
    ⟨a2, rfl, g2⟩
    (by
      rintro i hi s ⟨w2, rfl, hI⟩
      dsimp only
      obtain ⟨c1, c2, u1, u2⟩ := waysIn ht hI
      have e10 : lZ ((10 ^ i : Nat) : Int) * 10 = lZ ((10 ^ (i + 1) : Nat) : Int) := by
        rw [show (10 : Int64) = lZ 10 from rfl, l_mul, Nat.pow_succ]
        rfl
      unfold f_X11_chance_b93
      rw [if_neg (by rw [z_le] <;> omega), u1, bd2_s, e1, e10]
      exact ⟨_, rfl, _, rfl, u2⟩)
    (by
      rintro s ⟨w2, rfl, hI⟩
      dsimp only
      unfold f_X11_chance_b93
      rw [if_pos (Int32.le_refl _)]
      exact ⟨_, rfl, rfl, hI⟩)
    (by omega)
  exact ⟨a1, a2, b1, b2, b3, g1, k1, k2, k3⟩
theorem chance_both {T : TW} {M : BK} (hT : TRel T M) (m1 m2 m3 m4 m5 : Int32) (up lo : Int64) (wt : Nat → Int64) (n1 n2 n3 n4 n5 n6 : Int32) (now : Nat → Int32) (wy : Nat → Int64) (x y s : Int32) :
    ∃ v t m, f_X10_chance T.w T.c T.d T.ro T.pl m1 m2 m3 m4 m5 up lo wt x y s = some (v, t) ∧ f_X11_chance n1 n2 n3 n4 n5 n6 M.bk now M.wd M.wi M.dl wy x y s = some (v, m) := by
  have e1 : ∀ n : Nat, iZ (n : Int) + 1 = iZ ((n + 1 : Nat) : Int) := by intro n; rw [show (1 : Int32) = iZ 1 from rfl, z_add]; rfl
  obtain ⟨z, z1, z2, rfl⟩ := z_of x
  obtain ⟨u, u1, u2, rfl⟩ := z_of y
  obtain ⟨p, p1, p2, rfl⟩ := z_of s
  obtain ⟨A, B, b, W, K, C, D, N, F, S, N2, F2, S2, h⟩ := hT
  have hw := within_z z1 z2 (a := 0) (b := 10) (by omega) (by omega) (by omega) (by omega)
  have hw2 := in_z z1 z2 (a := 0) (b := 10) (by omega) (by omega) (by omega) (by omega)
  have hu := within_z u1 u2 (a := 0) (b := 12) (by omega) (by omega) (by omega) (by omega)
  have hu2 := in_z u1 u2 (a := 0) (b := 12) (by omega) (by omega) (by omega) (by omega)
  have hp := within_z p1 p2 (a := 0) (b := 1) (by omega) (by omega) (by omega) (by omega)
  have hp2 := in_z p1 p2 (a := 0) (b := 1) (by omega) (by omega) (by omega) (by omega)
  unfold f_X10_chance f_X11_chance
  rw [show f_X10_within (iZ z) 0 10 = _ from hw, show f_X11_in (iZ z) 0 10 = _ from hw2, show f_X10_within (iZ u) 0 12 = _ from hu, show f_X11_in (iZ u) 0 12 = _ from hu2, show f_X10_within (iZ p) 0 1 = _ from hp, show f_X11_in (iZ p) 0 1 = _ from hp2, bd1_s, bd1_s, bd1_s, bd1_s, bd1_s, bd1_s]
  by_cases ha : 0 ≤ z ∧ z ≤ 10
  · rw [if_neg (show ¬ bz (0 ≤ z ∧ z ≤ 10) = 0 from bzN ha), if_neg (show ¬ bz (0 ≤ z ∧ z ≤ 10) = 0 from bzN ha)]
    by_cases hb : 0 ≤ u ∧ u ≤ 12
    · rw [if_neg (show ¬ bz (0 ≤ u ∧ u ≤ 12) = 0 from bzN hb), if_neg (show ¬ bz (0 ≤ u ∧ u ≤ 12) = 0 from bzN hb)]
      by_cases hc : 0 ≤ p ∧ p ≤ 1
      · rw [if_neg (show ¬ bz (0 ≤ p ∧ p ≤ 1) = 0 from bzN hc), if_neg (show ¬ bz (0 ≤ p ∧ p ≤ 1) = 0 from bzN hc), plain_s, bd3_s]
        obtain ⟨t, rfl⟩ : ∃ v : Nat, z = v := ⟨z.toNat, by omega⟩
        obtain ⟨k, rfl⟩ : ∃ v : Nat, u = v := ⟨u.toNat, by omega⟩
        obtain ⟨hTC, hTM⟩ := tOf h.h1 h.h3 h.h4
        obtain ⟨tw, fs, wh, tr, g1, g2⟩ := count_both (now := cp 15 M.bk now) hTC hTM h.hR (h.hB.cp h.hW) h.hW (dz := -6) (by omega) (by omega) (v := 0) (by omega) (fun k _ => (wider0 C k).symm) m5
        have hle := nCl_le C W (D 0) (D 1) h.hW
        rw [g1, bd5_s, g2, bd4_s]
        generalize nCl C W (D 0) (D 1) A B = m at hle
        by_cases hm : m ≤ 12
        · have hm2 : iZ (m : Int) ≤ 12 := by rw [show (12 : Int32) = iZ 12 from rfl, z_le] <;> omega
          obtain ⟨wt', r1⟩ := reckon_s (t := t) (m := m) (k := k) (by omega) hm (by omega) wt
          obtain ⟨x1, w1, x2, x3, w2, q1, q2, rfl, q4⟩ := waysM_s (t := t) (m := m) (by omega) wy hm
          have hs := suN_le (t := t) (m := m) (k := k) (by omega) hm 13
          have ht2 := ten_le hm
          have hpos : 0 < 10 ^ m := Nat.pow_pos (by omega)
          have hsum : loopN (fun (q : Int64 × Int32) => f_X11_chance_b179 w2 q.1 q.2) FU (0, iZ k) = some (lZ ((suN t m k 13 : Nat) : Int), iZ 13) := by
            refine loop_FU (fun i : Nat => ((lZ ((suN t m k (k + i) : Nat) : Int) : Int64), (iZ ((k + i : Nat) : Int) : Int32))) (13 - k) ?_ ?_ ?_ (by omega)
            · have h0 : suN t m k k = 0 := by
                unfold suN
                rw [sumF_congr (h := fun _ => 0) k (fun i hi => if_neg (by omega)), sumF_zero]
              rw [Nat.add_zero, h0]
              rfl
            · intro i hi
              dsimp only
              unfold f_X11_chance_b179
              rw [if_neg (by rw [show (13 : Int32) = iZ 13 from rfl, z_le] <;> omega), e1, gd_z (by omega) (by omega) (by omega), z_cl (by omega) (by omega), Int.toNat_natCast, q4 _ (by omega), nmv_s, l_add]
              unfold suN
              rw [show k + (i + 1) = (k + i) + 1 by omega, sumF, if_pos (by omega)]
              rfl
            · dsimp only
              rw [show k + (13 - k) = 13 by omega]
              unfold f_X11_chance_b179
              rw [if_pos (by decide)]
              rfl
          obtain ⟨y1, hcd⟩ := cdM_loop 44 (suN t m k 13) (10 ^ m) FU (by have : (2 : Nat) ^ 44 = 17592186044416 := by decide
                                                                         omega) (by omega) (by omega) (by unfold FU; omega)
          have hg0 : 0 < Nat.gcd (suN t m k 13) (10 ^ m) := Nat.gcd_pos_of_pos_right _ hpos
          have hg1 : Nat.gcd (suN t m k 13) (10 ^ m) ≤ 10 ^ m := Nat.gcd_le_right _ hpos
          unfold nzl
          rw [if_pos hm2, if_pos hm2, r1, bd3_s, q1, bd2_s, q2, bd3_s, hsum, bd2_s, hcd, bd2_s, if_neg (lz_ne hg0 (by omega)), if_neg (lz_ne hg0 (by omega)), l_div (by omega) (by omega) (by omega) (by omega), l_div (by omega) (by omega) (by omega) (by omega)]
          by_cases h0 : iZ p = 0
          · rw [if_pos h0, if_pos h0]
            exact ⟨_, _, _, rfl, rfl⟩
          · rw [if_neg h0, if_neg h0]
            exact ⟨_, _, _, rfl, rfl⟩
        · have hm2 : ¬ iZ (m : Int) ≤ 12 := by rw [show (12 : Int32) = iZ 12 from rfl, z_le] <;> omega
          rw [if_neg hm2, if_neg hm2]
          exact ⟨_, _, _, rfl, rfl⟩
      · rw [if_pos (show bz (0 ≤ p ∧ p ≤ 1) = 0 from bzP hc), if_pos (show bz (0 ≤ p ∧ p ≤ 1) = 0 from bzP hc)]
        exact ⟨_, _, _, rfl, rfl⟩
    · rw [if_pos (show bz (0 ≤ u ∧ u ≤ 12) = 0 from bzP hb), if_pos (show bz (0 ≤ u ∧ u ≤ 12) = 0 from bzP hb)]
      exact ⟨_, _, _, rfl, rfl⟩
  · rw [if_pos (show bz (0 ≤ z ∧ z ≤ 10) = 0 from bzP ha), if_pos (show bz (0 ≤ z ∧ z ≤ 10) = 0 from bzP ha)]
    exact ⟨_, _, _, rfl, rfl⟩
