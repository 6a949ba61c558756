/-! odds -/
theorem q_cmp0 {a : Nat} (h : a < 2 ^ 63) : (lg_cmp (lN a) 0 = nI 0) = (a = 0) := propext ((lg_cmp_eq (lN a) (lN 0)).trans (pk_lEQ h (by decide)))
theorem q_cmpp {a : Nat} (h : a < 2 ^ 63) : (nI 0 < lg_cmp (lN a) 0) = (0 < a) := propext ((lg_cmp_gt (lN a) (lN 0)).trans (pk_lLT (by decide) h))
theorem q_l0 {a : Nat} (h : a < 2 ^ 63) : (lN a = 0) = (a = 0) := propext (pk_lEQ (b := 0) h (by decide))
theorem half_mod {b r k : Nat} (hr : 0 < r) (hb : r < b) (h : b < 2 ^ (k + 1)) : b % r < 2 ^ k := by
  have h1 := Nat.mod_lt b hr
  have h2 : r * 1 ≤ r * (b / r) := Nat.mul_le_mul_left r (Nat.div_pos (Nat.le_of_lt hb) hr)
  have h3 := Nat.div_add_mod b r
  rw [Nat.pow_succ] at h
  omega
theorem gcd_c : ∀ (k a b n t : Nat) (kk : Int64 → Option Int64), a < 2 ^ 31 → b < 2 ^ 31 → b < 2 ^ k → 2 * k < n → t + 2 * k ≤ 200 → fX4_commonDivisor_L3 kk n (lN a) (lN b) (nI t) = kk (lN (Nat.gcd b a))
  | 0, a, b, n + 1, t, kk, ha, hb, hk, hn, ht => by
    have e : b = 0 := by omega
    subst e
    rw [Nat.gcd_zero_left]
    by_cases e2 : 200 ≤ t
    · simp (disch := omega) only [fX4_commonDivisor_L3, lt, jn, q_lit, q_bnd, q_cl, q_le, q_lt, q_eq, pk_mul, nI_add, q_sub, q_div, q_pos, q_neg, q_T, q_F, q_max0, q_flg1, q_flg0, q_min, q_min2, q_bit, q_some]
    · simp (disch := omega) only [fX4_commonDivisor_L3, lt, jn, q_lit, q_bnd, q_cl, q_le, q_lt, q_eq, pk_mul, nI_add, q_sub, q_div, q_pos, q_neg, q_T, q_F, q_max0, q_flg1, q_flg0, q_min, q_min2, q_bit, q_some, q_cmp0]
  | k + 1, a, b, n + 2, t, kk, ha, hb, hk, hn, ht => by
    by_cases e : b = 0
    · subst e
      rw [Nat.gcd_zero_left]
      simp (disch := omega) only [fX4_commonDivisor_L3, lt, jn, q_lit, q_bnd, q_cl, q_le, q_lt, q_eq, pk_mul, nI_add, q_sub, q_div, q_pos, q_neg, q_T, q_F, q_max0, q_flg1, q_flg0, q_min, q_min2, q_bit, q_some, q_cmp0]
    · have h1 := Nat.mod_lt a (show 0 < b by omega)
      rw [Nat.gcd_rec b a]
      by_cases e2 : a % b = 0
      · rw [e2, Nat.gcd_zero_left]
        simp (disch := omega) only [fX4_commonDivisor_L3, lt, jn, q_lit, q_bnd, q_cl, q_le, q_lt, q_eq, pk_mul, nI_add, q_sub, q_div, q_pos, q_neg, q_T, q_F, q_max0, q_flg1, q_flg0, q_min, q_min2, q_bit, q_some, q_cmp0, q_l0, pk_lRem, e2]
      · have ih := gcd_c k (a % b) (b % (a % b)) n (t + 1 + 1) kk (by omega) (by have := Nat.mod_lt b (show 0 < a % b by omega); omega) (half_mod (by omega) h1 hk) (by omega) (by omega)
        rw [Nat.gcd_rec (a % b) b, ← ih]
        have h2 := Nat.mod_lt b (show 0 < a % b by omega)
        simp (disch := omega) only [fX4_commonDivisor_L3, lt, jn, q_lit, q_bnd, q_cl, q_le, q_lt, q_eq, pk_mul, nI_add, q_sub, q_div, q_pos, q_neg, q_T, q_F, q_max0, q_flg1, q_flg0, q_min, q_min2, q_bit, q_some, q_cmp0, q_l0, pk_lRem]
theorem gcd_m : ∀ (k a b n : Nat) (kk : Int64 → Option Int64), a < 2 ^ 31 → b < 2 ^ 31 → b < 2 ^ k → 2 * k < n → fX5_common_L6 kk n (lN a) (lN b) = kk (lN (Nat.gcd b a))
  | 0, a, b, n + 1, kk, ha, hb, hk, hn => by
    have e : b = 0 := by omega
    subst e
    rw [Nat.gcd_zero_left]
    simp (disch := omega) only [fX5_common_L6, lt, jn, q_lit, q_bnd, q_cl, q_le, q_lt, q_eq, pk_mul, nI_add, q_sub, q_div, q_pos, q_neg, q_T, q_F, q_max0, q_flg1, q_flg0, q_min, q_min2, q_bit, q_some, q_cmp0]
  | k + 1, a, b, n + 2, kk, ha, hb, hk, hn => by
    by_cases e : b = 0
    · subst e
      rw [Nat.gcd_zero_left]
      simp (disch := omega) only [fX5_common_L6, lt, jn, q_lit, q_bnd, q_cl, q_le, q_lt, q_eq, pk_mul, nI_add, q_sub, q_div, q_pos, q_neg, q_T, q_F, q_max0, q_flg1, q_flg0, q_min, q_min2, q_bit, q_some, q_cmp0]
    · have h1 := Nat.mod_lt a (show 0 < b by omega)
      rw [Nat.gcd_rec b a]
      by_cases e2 : a % b = 0
      · rw [e2, Nat.gcd_zero_left]
        simp (disch := omega) only [fX5_common_L6, lt, jn, q_lit, q_bnd, q_cl, q_le, q_lt, q_eq, pk_mul, nI_add, q_sub, q_div, q_pos, q_neg, q_T, q_F, q_max0, q_flg1, q_flg0, q_min, q_min2, q_bit, q_some, q_cmp0, q_l0, pk_lRem, e2]
      · have ih := gcd_m k (a % b) (b % (a % b)) n kk (by omega) (by have := Nat.mod_lt b (show 0 < a % b by omega); omega) (half_mod (by omega) h1 hk) (by omega)
        rw [Nat.gcd_rec (a % b) b, ← ih]
        have h2 := Nat.mod_lt b (show 0 < a % b by omega)
        simp (disch := omega) only [fX5_common_L6, lt, jn, q_lit, q_bnd, q_cl, q_le, q_lt, q_eq, pk_mul, nI_add, q_sub, q_div, q_pos, q_neg, q_T, q_F, q_max0, q_flg1, q_flg0, q_min, q_min2, q_bit, q_some, q_cmp0, q_l0, pk_lRem]
def spWay (v fl : Nat) : Nat → Nat
  | 0 => 1
  | t + 1 => spWay v fl t * if fl.testBit t = true then v else 10 - v
theorem spWay_le {v fl : Nat} (hv : v ≤ 10) : ∀ t, spWay v fl t ≤ 10 ^ t
  | 0 => Nat.le_refl 1
  | t + 1 => by
    rw [spWay, Nat.pow_succ]
    refine Nat.mul_le_mul (spWay_le hv t) ?_
    split <;> omega
theorem t_way_L {X : M3} {n v fl : Nat} (h7 : X 2 7 0 = nI n) (hn : n ≤ 4) (hv : v ≤ 10) (hf : fl < 32) (kk : Int64 → Option Int64) : ∀ d t f : Nat, t + d = n → d < f → fX4_weight_L5 X (nI v) (nI fl) kk f (lN (spWay v fl t)) (nI t) = kk (lN (spWay v fl n))
  | 0, t, f + 1, ht, hd => by
    have e : t = n := by omega
    simp (disch := omega) only [fX4_weight_L5, lt, jn, q_lit, q_bnd, q_cl, q_le, q_lt, q_eq, pk_mul, nI_add, q_sub, q_div, q_pos, q_neg, q_T, q_F, q_max0, q_flg1, q_flg0, q_min, q_min2, q_bit, q_some, h7, e]
  | d + 1, t, f + 1, ht, hd => by
    have ih := t_way_L h7 hn hv hf kk d (t + 1) f (by omega) (by omega)
    rw [spWay] at ih
    simp (disch := omega) only [fX4_weight_L5, lt, jn, q_lit, q_bnd, q_cl, q_le, q_lt, q_eq, pk_mul, nI_add, q_sub, q_div, q_pos, q_neg, q_T, q_F, q_max0, q_flg1, q_flg0, q_min, q_min2, q_bit, q_some, h7, q_b1, nI_l, lN_mul]
    split
    · rename_i e
      rw [if_pos e] at ih
      exact ih
    · rename_i e
      rw [if_neg e] at ih
      exact ih
theorem m_way_L {S : M2} {n v fl : Nat} (h7 : S 4 0 = nI n) (hn : n ≤ 4) (hv : v ≤ 10) (hf : fl < 32) (kk : Int64 → Option Int64) : ∀ d t f : Nat, t + d = n → d < f → fX5_waysOf_L5 S (nI fl) (nI v) kk f (lN (spWay v fl t)) (nI t) = kk (lN (spWay v fl n))
  | 0, t, f + 1, ht, hd => by
    have e : t = n := by omega
    simp (disch := omega) only [fX5_waysOf_L5, lt, jn, q_lit, q_bnd, q_cl, q_le, q_lt, q_eq, pk_mul, nI_add, q_sub, q_div, q_pos, q_neg, q_T, q_F, q_max0, q_flg1, q_flg0, q_min, q_min2, q_bit, q_some, h7, e]
  | d + 1, t, f + 1, ht, hd => by
    have ih := m_way_L h7 hn hv hf kk d (t + 1) f (by omega) (by omega)
    rw [spWay] at ih
    simp (disch := omega) only [fX5_waysOf_L5, lt, jn, q_lit, q_bnd, q_cl, q_le, q_lt, q_eq, pk_mul, nI_add, q_sub, q_div, q_pos, q_neg, q_T, q_F, q_max0, q_flg1, q_flg0, q_min, q_min2, q_bit, q_some, h7, q_b1, nI_l, lN_mul]
    split
    · rename_i e
      rw [if_pos e] at ih
      exact ih
    · rename_i e
      rw [if_neg e] at ih
      exact ih
theorem t_way {X : M3} {n v fl : Nat} (h7 : X 2 7 0 = nI n) (hn : n ≤ 4) (hv : v ≤ 10) (hf : fl < 32) : fX4_weight (nI v) (nI fl) X = some (lN (spWay v fl n)) :=
  t_way_L h7 hn hv hf (fun p => some p) n 0 400 (by omega) (by omega)
theorem m_way {S : M2} {n v fl : Nat} (h7 : S 4 0 = nI n) (hn : n ≤ 4) (hv : v ≤ 10) (hf : fl < 32) : fX5_waysOf (nI fl) (nI v) S = some (lN (spWay v fl n)) :=
  m_way_L h7 hn hv hf (fun p => some p) n 0 400 (by omega) (by omega)
theorem t_cases_L {X : M3} {n : Nat} (h7 : X 2 7 0 = nI n) (hn : n ≤ 4) (l1 : Int64) (i3 : Int32) (kk : Int64 → Option Int64) : ∀ d t f : Nat, t + d = n → d < f → fX4_partOfFraction_L6 X l1 i3 kk f (lN (10 ^ t)) (nI t) = kk (lN (10 ^ n))
  | 0, t, f + 1, ht, hd => by
    have e : t = n := by omega
    simp (disch := omega) only [fX4_partOfFraction_L6, lt, jn, q_lit, q_bnd, q_cl, q_le, q_lt, q_eq, pk_mul, nI_add, q_sub, q_div, q_pos, q_neg, q_T, q_F, q_max0, q_flg1, q_flg0, q_min, q_min2, q_bit, q_some, h7, e]
  | d + 1, t, f + 1, ht, hd => by
    have ih := t_cases_L h7 hn l1 i3 kk d (t + 1) f (by omega) (by omega)
    rw [Nat.pow_succ, ← lN_mul] at ih
    simp (disch := omega) only [fX4_partOfFraction_L6, lt, jn, q_lit, q_bnd, q_cl, q_le, q_lt, q_eq, pk_mul, nI_add, q_sub, q_div, q_pos, q_neg, q_T, q_F, q_max0, q_flg1, q_flg0, q_min, q_min2, q_bit, q_some, h7]
    exact ih
theorem m_cases_L {S : M2} {n : Nat} (h7 : S 4 0 = nI n) (hn : n ≤ 4) (kk : Int64 → Option Int64) : ∀ d t f : Nat, t + d = n → d < f → fX5_allWays_L4 S kk f (lN (10 ^ t)) (nI t) = kk (lN (10 ^ n))
  | 0, t, f + 1, ht, hd => by
    have e : t = n := by omega
    simp (disch := omega) only [fX5_allWays_L4, lt, jn, q_lit, q_bnd, q_cl, q_le, q_lt, q_eq, pk_mul, nI_add, q_sub, q_div, q_pos, q_neg, q_T, q_F, q_max0, q_flg1, q_flg0, q_min, q_min2, q_bit, q_some, h7, e]
  | d + 1, t, f + 1, ht, hd => by
    have ih := m_cases_L h7 hn kk d (t + 1) f (by omega) (by omega)
    rw [Nat.pow_succ, ← lN_mul] at ih
    simp (disch := omega) only [fX5_allWays_L4, lt, jn, q_lit, q_bnd, q_cl, q_le, q_lt, q_eq, pk_mul, nI_add, q_sub, q_div, q_pos, q_neg, q_T, q_F, q_max0, q_flg1, q_flg0, q_min, q_min2, q_bit, q_some, h7]
    exact ih
theorem frac {X : M3} {S : M2} {n s : Nat} (h7 : X 2 7 0 = nI n) (h4 : S 4 0 = nI n) (hn : n ≤ 4) (hs : s < 2 ^ 31) {j : Nat} (hj : j < 2) : ∃ a, fX4_partOfFraction (lN s) (nI j) X = some a ∧ ((fX5_allWays S).bind fun r => fX5_told (lN s) r (nI j)) = some a := by
  have hp : 0 < 10 ^ n := Nat.pow_pos (by decide)
  have hp2 : 10 ^ n ≤ 10 ^ 4 := Nat.pow_le_pow_right (by decide) hn
  have hg : 0 < Nat.gcd s (10 ^ n) := Nat.gcd_pos_of_pos_right _ hp
  have hg2 : Nat.gcd s (10 ^ n) ≤ 10 ^ n := Nat.gcd_le_right _ hp
  have e1 : fX4_commonDivisor (lN (10 ^ n)) (lN s) = some (lN (Nat.gcd s (10 ^ n))) := gcd_c 31 (10 ^ n) s 400 0 _ (by omega) hs hs (by omega) (by omega)
  have e2 : fX5_common (lN (10 ^ n)) (lN s) = some (lN (Nat.gcd s (10 ^ n))) := gcd_m 31 (10 ^ n) s 400 _ (by omega) hs hs (by omega)
  have e3 : fX5_allWays S = some (lN (10 ^ n)) := m_cases_L h4 hn _ n 0 400 (by omega) (by omega)
  have e4 := fun kk => t_cases_L (X := X) h7 hn (lN s) (nI j) kk n 0 400 (by omega) (by omega)
  rw [Nat.pow_zero] at e4
  have e4' : ∀ kk, fX4_partOfFraction_L6 X (lN s) (nI j) kk 400 (1 : Int64) (nI 0) = kk (lN (10 ^ n)) := e4
  rcases (by omega : j = 0 ∨ j = 1) with rfl | rfl
  · refine ⟨lN (s / Nat.gcd s (10 ^ n)), ?_, ?_⟩
    · simp (disch := omega) only [fX4_partOfFraction, lt, jn, q_lit, q_bnd, q_cl, q_le, q_lt, q_eq, pk_mul, nI_add, q_sub, q_div, q_pos, q_neg, q_T, q_F, q_max0, q_flg1, q_flg0, q_min, q_min2, q_bit, q_some, e4', e1, q_cmpp, q_l0, pk_lDiv]
    · simp (disch := omega) only [fX5_told, lt, jn, q_lit, q_bnd, q_cl, q_le, q_lt, q_eq, pk_mul, nI_add, q_sub, q_div, q_pos, q_neg, q_T, q_F, q_max0, q_flg1, q_flg0, q_min, q_min2, q_bit, q_some, e3, e2, q_l0, pk_lDiv]
  · refine ⟨lN (10 ^ n / Nat.gcd s (10 ^ n)), ?_, ?_⟩
    · simp (disch := omega) only [fX4_partOfFraction, lt, jn, q_lit, q_bnd, q_cl, q_le, q_lt, q_eq, pk_mul, nI_add, q_sub, q_div, q_pos, q_neg, q_T, q_F, q_max0, q_flg1, q_flg0, q_min, q_min2, q_bit, q_some, e4', e1, q_cmpp, q_l0, pk_lDiv]
    · simp (disch := omega) only [fX5_told, lt, jn, q_lit, q_bnd, q_cl, q_le, q_lt, q_eq, pk_mul, nI_add, q_sub, q_div, q_pos, q_neg, q_T, q_F, q_max0, q_flg1, q_flg0, q_min, q_min2, q_bit, q_some, e3, e2, q_l0, pk_lDiv]
theorem m_every' {S : M2} {n : Nat} (h : S 4 0 = nI n) (hn : n ≤ 4) : fX5_everyMoth S = some (nI (2 ^ n - 1)) := by
  have hp : 0 < 2 ^ n := Nat.two_pow_pos _
  unfold fX5_everyMoth
  simp (disch := omega) only [lt, jn, q_lit, q_bnd, q_cl, q_le, q_lt, q_eq, pk_mul, nI_add, q_sub, q_div, q_pos, q_neg, q_T, q_F, q_max0, q_flg1, q_flg0, q_min, q_min2, q_bit, q_some, h, q_shl]
def spMean (N : NN) (B : BB) (v : Nat) : Nat → Nat
  | 0 => 0
  | t + 1 => spMean N B v t + spWay v t (N 7 0) * spAll (spNight N B t) B
def spLuck (N : NN) (B : BB) (v b : Nat) : Nat → Nat
  | 0 => 0
  | t + 1 => spLuck N B v b t + if spEaten (spNight N B t) b = true then spWay v t (N 7 0) else 0
theorem pw_fl {m t : Nat} (hm : m ≤ 4) (ht : t < 2 ^ m) : t < 32 := by
  have : 2 ^ m ≤ 2 ^ 4 := Nat.pow_le_pow_right (by decide) hm
  omega
theorem WF.night {N : NN} {B : BB} {fl : Nat} (hW : WF N B) (hf : fl < 32) {Q : M2} (hC : CS N B Q) : WF (spNight N B fl) B := (t_loose hf hC hW).choose_spec.2.2
theorem mean_L {X : M3} {S : M2} {N : NN} {B : BB} (hC : CS N B (X 2)) (hW : WF N B) (h3 : S 3 0 = nI (N 0 0)) (h4 : S 4 0 = nI (N 7 0)) (hM : MS N B (S 0)) {v : Nat} (hv : v ≤ 10) (w : Int32) : ∀ (d t f g : Nat) (X1 : M3) (S1 : M2), t + d = 2 ^ N 7 0 → d < f → d < g → (∀ q, q ≠ 3 → X1 q = X q) → ME S S1 → ∃ (X' : M3) (S' : M2), (∀ kk : (Int64 × M3) → Option (Int64 × M3), fX4_mean_L28 (nI v) w kk f (lN (spMean N B v t)) (nI t) X1 = kk (lN (spMean N B v (2 ^ N 7 0)), X')) ∧ (∀ kk : (Int64 × M2) → Option (Int64 × M2), fX5_mean_L28 (nI v) w kk g (lN (spMean N B v t)) (nI t) S1 = kk (lN (spMean N B v (2 ^ N 7 0)), S')) ∧ (∀ q, q ≠ 3 → X' q = X q) ∧ ME S S'
  | 0, t, f + 1, g + 1, X1, S1, ht, hf, hg, hX, hE => by
    have w1 := hW.1
    have hp : 0 < 2 ^ N 7 0 := Nat.two_pow_pos _
    have hp2 : 2 ^ N 7 0 ≤ 2 ^ 4 := Nat.pow_le_pow_right (by decide) w1.2.1
    have x2 := hX 2 (by decide)
    have h4' : S1 4 0 = nI (N 7 0) := by rw [hE 4 (by decide)]; exact h4
    have e : t = 2 ^ N 7 0 := by omega
    subst e
    refine ⟨X1, S1, fun kk => ?_, fun kk => ?_, hX, hE⟩
    · simp (disch := omega) only [fX4_mean_L28, lt, jn, q_lit, q_bnd, q_cl, q_le, q_lt, q_eq, pk_mul, nI_add, q_sub, q_div, q_pos, q_neg, q_T, q_F, q_max0, q_flg1, q_flg0, q_min, q_min2, q_bit, q_some, x2, hC.1.2.2.1, q_shl]
    · simp (disch := omega) only [fX5_mean_L28, lt, jn, q_lit, q_bnd, q_cl, q_le, q_lt, q_eq, pk_mul, nI_add, q_sub, q_div, q_pos, q_neg, q_T, q_F, q_max0, q_flg1, q_flg0, q_min, q_min2, q_bit, q_some, m_every' h4' w1.2.1]
  | d + 1, t, f + 1, g + 1, X1, S1, ht, hf, hg, hX, hE => by
    have w1 := hW.1
    have hp : 0 < 2 ^ N 7 0 := Nat.two_pow_pos _
    have hp2 : 2 ^ N 7 0 ≤ 2 ^ 4 := Nat.pow_le_pow_right (by decide) w1.2.1
    have x2 := hX 2 (by decide)
    have h4' : S1 4 0 = nI (N 7 0) := by rw [hE 4 (by decide)]; exact h4
    have hfl : t < 32 := by omega
    have hC1 : CS N B (X1 2) := by rw [x2]; exact hC
    obtain ⟨Q, q1, q2, q3⟩ := t_try (X := X1) hfl hC1 hW
    have qd := t_dutyAll q2 q3
    have ql := spAll_le q3
    have e7 : va_up X1 3 Q 2 7 0 = nI (N 7 0) := hC1.1.2.2.1
    have qw := t_way e7 w1.2.1 hv hfl
    obtain ⟨S2, i1, i2⟩ := m_starts hE h3 h4 hM hW
    obtain ⟨S3, j1, j2, j3⟩ := m_night hfl i2 hW
    have jd := m_dutyAll j2 j3
    have e3 : spAll (spPass N B t) B = spAll (spNight N B t) B := rfl
    rw [e3] at jd
    have jw := m_way (S := S3) (n := N 7 0) j2.m w1.2.1 hv hfl
    obtain ⟨X', S', r1, r2, r3⟩ := mean_L hC hW h3 h4 hM hv w d (t + 1) f g (va_up X1 3 Q) S3 (by omega) (by omega) (by omega) (fun q hq => by rw [q_up, if_neg hq]; exact hX q hq) (ME.ma j2)
    rw [spMean, ← lN_add, ← lN_mul] at r1 r2
    refine ⟨X', S', fun kk => ?_, fun kk => ?_, r3⟩
    · rw [← r1 kk]
      simp (disch := omega) only [fX4_mean_L28, lt, jn, q_lit, q_bnd, q_cl, q_le, q_lt, q_eq, pk_mul, nI_add, q_sub, q_div, q_pos, q_neg, q_T, q_F, q_max0, q_flg1, q_flg0, q_min, q_min2, q_bit, q_some, x2, hC.1.2.2.1, q_shl, q1, qw, q_up, qd, nI_l]
    · rw [← r2 kk, Int64.mul_comm]
      simp (disch := omega) only [fX5_mean_L28, lt, jn, q_lit, q_bnd, q_cl, q_le, q_lt, q_eq, pk_mul, nI_add, q_sub, q_div, q_pos, q_neg, q_T, q_F, q_max0, q_flg1, q_flg0, q_min, q_min2, q_bit, q_some, m_every' h4' w1.2.1, i1, j1, jd, jw, nI_l]
theorem luck_L {X : M3} {S : M2} {N : NN} {B : BB} (hC : CS N B (X 2)) (hW : WF N B) (h3 : S 3 0 = nI (N 0 0)) (h4 : S 4 0 = nI (N 7 0)) (hM : MS N B (S 0)) {v b : Nat} (hv : v ≤ 10) (hb : b < N 0 0) (w : Int32) : ∀ (d t f g : Nat) (X1 : M3) (S1 : M2), t + d = 2 ^ N 7 0 → d < f → d < g → (∀ q, q ≠ 3 → X1 q = X q) → ME S S1 → ∃ (X' : M3) (S' : M2), (∀ kk : (Int64 × M3) → Option (Int64 × M3), fX4_luck_L40 (nI v) (nI b) w kk f (lN (spLuck N B v b t)) (nI t) X1 = kk (lN (spLuck N B v b (2 ^ N 7 0)), X')) ∧ (∀ kk : (Int64 × M2) → Option (Int64 × M2), fX5_luck_L37 (nI v) (nI b) w kk g (lN (spLuck N B v b t)) (nI t) S1 = kk (lN (spLuck N B v b (2 ^ N 7 0)), S')) ∧ (∀ q, q ≠ 3 → X' q = X q) ∧ ME S S'
  | 0, t, f + 1, g + 1, X1, S1, ht, hf, hg, hX, hE => by
    have w1 := hW.1
    have hp : 0 < 2 ^ N 7 0 := Nat.two_pow_pos _
    have hp2 : 2 ^ N 7 0 ≤ 2 ^ 4 := Nat.pow_le_pow_right (by decide) w1.2.1
    have x2 := hX 2 (by decide)
    have h4' : S1 4 0 = nI (N 7 0) := by rw [hE 4 (by decide)]; exact h4
    have e : t = 2 ^ N 7 0 := by omega
    subst e
    refine ⟨X1, S1, fun kk => ?_, fun kk => ?_, hX, hE⟩
    · simp (disch := omega) only [fX4_luck_L40, lt, jn, q_lit, q_bnd, q_cl, q_le, q_lt, q_eq, pk_mul, nI_add, q_sub, q_div, q_pos, q_neg, q_T, q_F, q_max0, q_flg1, q_flg0, q_min, q_min2, q_bit, q_some, x2, hC.1.2.2.1, q_shl]
    · simp (disch := omega) only [fX5_luck_L37, lt, jn, q_lit, q_bnd, q_cl, q_le, q_lt, q_eq, pk_mul, nI_add, q_sub, q_div, q_pos, q_neg, q_T, q_F, q_max0, q_flg1, q_flg0, q_min, q_min2, q_bit, q_some, m_every' h4' w1.2.1]
  | d + 1, t, f + 1, g + 1, X1, S1, ht, hf, hg, hX, hE => by
    have w1 := hW.1
    have hp : 0 < 2 ^ N 7 0 := Nat.two_pow_pos _
    have hp2 : 2 ^ N 7 0 ≤ 2 ^ 4 := Nat.pow_le_pow_right (by decide) w1.2.1
    have x2 := hX 2 (by decide)
    have h4' : S1 4 0 = nI (N 7 0) := by rw [hE 4 (by decide)]; exact h4
    have hfl : t < 32 := by omega
    have hC1 : CS N B (X1 2) := by rw [x2]; exact hC
    obtain ⟨Q, q1, q2, q3⟩ := t_try (X := X1) hfl hC1 hW
    have hb2 : b < spNight N B t 0 0 := hb
    have qe := t_eaten q2 q3 hb2
    have e7 : va_up X1 3 Q 2 7 0 = nI (N 7 0) := hC1.1.2.2.1
    have qw := t_way e7 w1.2.1 hv hfl
    obtain ⟨S2, i1, i2⟩ := m_starts hE h3 h4 hM hW
    obtain ⟨S3, j1, j2, j3⟩ := m_night hfl i2 hW
    have je : fX5_isEaten (nI b) S3 = some (nI (spEaten (spNight N B t) b).toNat) := m_eaten1 j2 j3 hb
    have jw := m_way (S := S3) (n := N 7 0) j2.m w1.2.1 hv hfl
    obtain ⟨X', S', r1, r2, r3⟩ := luck_L hC hW h3 h4 hM hv hb w d (t + 1) f g (va_up X1 3 Q) S3 (by omega) (by omega) (by omega) (fun q hq => by rw [q_up, if_neg hq]; exact hX q hq) (ME.ma j2)
    rw [spLuck] at r1 r2
    by_cases e : spEaten (spNight N B t) b = true
    · rw [if_pos e, ← lN_add] at r1 r2
      refine ⟨X', S', fun kk => ?_, fun kk => ?_, r3⟩
      · rw [← r1 kk]
        simp (disch := omega) only [fX4_luck_L40, lt, jn, q_lit, q_bnd, q_cl, q_le, q_lt, q_eq, pk_mul, nI_add, q_sub, q_div, q_pos, q_neg, q_T, q_F, q_max0, q_flg1, q_flg0, q_min, q_min2, q_bit, q_some, x2, hC.1.2.2.1, q_shl, q1, qw, q_up, qe, q_b0, e, Bool.true_eq_false]
      · rw [← r2 kk]
        simp (disch := omega) only [fX5_luck_L37, lt, jn, q_lit, q_bnd, q_cl, q_le, q_lt, q_eq, pk_mul, nI_add, q_sub, q_div, q_pos, q_neg, q_T, q_F, q_max0, q_flg1, q_flg0, q_min, q_min2, q_bit, q_some, m_every' h4' w1.2.1, i1, j1, je, jw, q_b0, e, Bool.true_eq_false]
    · have e' : spEaten (spNight N B t) b = false := by simpa using e
      rw [if_neg e, Nat.add_zero] at r1 r2
      refine ⟨X', S', fun kk => ?_, fun kk => ?_, r3⟩
      · rw [← r1 kk]
        simp (disch := omega) only [fX4_luck_L40, lt, jn, q_lit, q_bnd, q_cl, q_le, q_lt, q_eq, pk_mul, nI_add, q_sub, q_div, q_pos, q_neg, q_T, q_F, q_max0, q_flg1, q_flg0, q_min, q_min2, q_bit, q_some, x2, hC.1.2.2.1, q_shl, q1, qw, q_up, qe, q_b0, e', Int64.add_zero]
      · rw [← r2 kk]
        simp (disch := omega) only [fX5_luck_L37, lt, jn, q_lit, q_bnd, q_cl, q_le, q_lt, q_eq, pk_mul, nI_add, q_sub, q_div, q_pos, q_neg, q_T, q_F, q_max0, q_flg1, q_flg0, q_min, q_min2, q_bit, q_some, m_every' h4' w1.2.1, i1, j1, je, jw, q_b0, e', Int64.add_zero]
theorem spMean_le {N : NN} {B : BB} {v : Nat} (hv : v ≤ 10) (h7 : N 7 0 ≤ 4) : ∀ t, (∀ j, j < t → spAll (spNight N B j) B ≤ 405) → spMean N B v t ≤ t * 4050000
  | 0, _ => Nat.zero_le _
  | t + 1, h => by
    have h1 := spMean_le (N := N) (B := B) hv h7 t fun j hj => h j (by omega)
    have h2 := h t (by omega)
    have h3 := spWay_le (v := v) (fl := t) hv (N 7 0)
    have h4 : 10 ^ N 7 0 ≤ 10 ^ 4 := Nat.pow_le_pow_right (by decide) h7
    have h5 : spWay v t (N 7 0) * spAll (spNight N B t) B ≤ 10 ^ 4 * 405 := Nat.mul_le_mul (by omega) h2
    rw [spMean]
    omega
theorem spLuck_le {N : NN} {B : BB} {v b : Nat} (hv : v ≤ 10) (h7 : N 7 0 ≤ 4) : ∀ t, spLuck N B v b t ≤ t * 10000
  | 0 => Nat.zero_le _
  | t + 1 => by
    have h1 := spLuck_le (N := N) (B := B) (b := b) hv h7 t
    have h3 := spWay_le (v := v) (fl := t) hv (N 7 0)
    have h4 : 10 ^ N 7 0 ≤ 10 ^ 4 := Nat.pow_le_pow_right (by decide) h7
    have h5 : spWay v t (N 7 0) ≤ 10000 := Nat.le_trans h3 h4
    rw [spLuck, Nat.succ_mul]
    refine Nat.add_le_add h1 ?_
    by_cases e : spEaten (spNight N B t) b = true
    · rw [if_pos e]
      exact h5
    · rw [if_neg e]
      exact Nat.zero_le _
theorem k_mean {X : M3} {S : M2} (h : R X S) (x w : Int32) : ∃ a X' S', fX4_mean x w X = some (a, X') ∧ fX5_mean x w S = some (a, S') ∧ R X' S' := by
  obtain ⟨N, B, hW, hn, hC, hM, e3, e4, hN, hK⟩ := h.data
  have w1 := hW.1
  have hp : 0 < 2 ^ N 7 0 := Nat.two_pow_pos _
  have hp2 : 2 ^ N 7 0 ≤ 2 ^ 4 := Nat.pow_le_pow_right (by decide) w1.2.1
  rcases q_within x (a := 0) (b := 10) (by omega) with ⟨v, -, v2, rfl⟩ | ⟨-, v2⟩
  · rcases t_isPart w with ⟨j, j2, rfl, e6, e7⟩ | ⟨j1, e6, e7⟩
    · obtain ⟨X', S', r1, r2, r3, r4⟩ := mean_L hC hW e3 e4 hM v2 (nI j) (2 ^ N 7 0) 0 400 400 X S (by omega) (by omega) (by omega) (fun _ _ => rfl) (fun _ _ => rfl)
      have hs := spMean_le (N := N) (B := B) v2 w1.2.1 (2 ^ N 7 0) fun j hj => spAll_le (hW.night (by omega) hC)
      have f7 : X' 2 7 0 = nI (N 7 0) := by rw [r3 2 (by decide)]; exact hC.1.2.2.1
      have f4 : S' 4 0 = nI (N 7 0) := by rw [r4 4 (by decide)]; exact e4
      obtain ⟨a, a1, a2⟩ := frac f7 f4 w1.2.1 (s := spMean N B v (2 ^ N 7 0)) (by omega) j2
      have r1' : ∀ kk, fX4_mean_L28 (nI v) (nI j) kk 400 (0 : Int64) (nI 0) X = kk (lN (spMean N B v (2 ^ N 7 0)), X') := r1
      have r2' : ∀ kk, fX5_mean_L28 (nI v) (nI j) kk 400 (0 : Int64) (nI 0) S = kk (lN (spMean N B v (2 ^ N 7 0)), S') := r2
      have a2' : (fX5_allWays S').bind (fun r17 => (fX5_told (lN (spMean N B v (2 ^ N 7 0))) r17 (nI j)).bind fun r18 => some (r18, S')) = some (a, S') := by
        rw [← Option.bind_assoc, a2, q_some]
      refine ⟨a, X', S', ?_, ?_, (h.xe fun k a1 _ _ => r3 k a1).me r4⟩
      · simp (disch := omega) only [fX4_mean, q_win, lt, q_lit, q_some, q_eq, q_neg, r1', a1]
      · simp (disch := omega) only [fX5_mean, q_win, q_in_0_127, q_in_0_1, q_in_0_2, q_in_0_3, q_in_0_4, q_in_0_5, q_in_0_9, q_in_0_10, q_in_0_20, q_in_1_20, q_in_48_57, q_in_97_122, q_inB, lt, q_lit, q_some, q_eq, q_neg, e6, r2', a2']
    · refine ⟨-1, X, S, ?_, ?_, h⟩
      · simp (disch := omega) only [fX4_mean, q_win, lt, jn, q_lit, q_bnd, q_cl, q_le, q_lt, q_eq, pk_mul, nI_add, q_sub, q_div, q_pos, q_neg, q_T, q_F, q_max0, q_flg1, q_flg0, q_min, q_min2, q_bit, q_some, e7]
      · simp (disch := omega) only [fX5_mean, q_win, lt, jn, q_lit, q_bnd, q_cl, q_le, q_lt, q_eq, pk_mul, nI_add, q_sub, q_div, q_pos, q_neg, q_T, q_F, q_max0, q_flg1, q_flg0, q_min, q_min2, q_bit, q_some, q_in_0_127, q_in_0_1, q_in_0_2, q_in_0_3, q_in_0_4, q_in_0_5, q_in_0_9, q_in_0_10, q_in_0_20, q_in_1_20, q_in_48_57, q_in_97_122, q_inB, e6]
  · refine ⟨-1, X, S, ?_, ?_, h⟩
    · simp (disch := omega) only [fX4_mean, lt, jn, q_lit, q_bnd, q_cl, q_le, q_lt, q_eq, pk_mul, nI_add, q_sub, q_div, q_pos, q_neg, q_T, q_F, q_max0, q_flg1, q_flg0, q_min, q_min2, q_bit, q_some, v2]
    · simp (disch := omega) only [fX5_mean, lt, jn, q_lit, q_bnd, q_cl, q_le, q_lt, q_eq, pk_mul, nI_add, q_sub, q_div, q_pos, q_neg, q_T, q_F, q_max0, q_flg1, q_flg0, q_min, q_min2, q_bit, q_some, q_in_0_127, q_in_0_1, q_in_0_2, q_in_0_3, q_in_0_4, q_in_0_5, q_in_0_9, q_in_0_10, q_in_0_20, q_in_1_20, q_in_48_57, q_in_97_122, q_inB, v2]
theorem k_luck {X : M3} {S : M2} (h : R X S) (x y w : Int32) : ∃ a X' S', fX4_luck x y w X = some (a, X') ∧ fX5_luck x y w S = some (a, S') ∧ R X' S' := by
  obtain ⟨N, B, hW, hn, hC, hM, e3, e4, hN, hK⟩ := h.data
  have w1 := hW.1
  have hp : 0 < 2 ^ N 7 0 := Nat.two_pow_pos _
  have hp2 : 2 ^ N 7 0 ≤ 2 ^ 4 := Nat.pow_le_pow_right (by decide) w1.2.1
  have eb : fX5_isBolt y S = fX1_hasBolt y (X 2) := m_isBolt (e3.trans hC.1.1.symm) y
  rcases q_within x (a := 0) (b := 10) (by omega) with ⟨v, -, v2, rfl⟩ | ⟨-, v2⟩
  · rcases t_hasBolt hC.1.1 w1.1 y with ⟨b, hb, rfl, h1⟩ | ⟨-, h1⟩
    · rw [h1] at eb
      rcases t_isPart w with ⟨j, j2, rfl, e6, e7⟩ | ⟨j1, e6, e7⟩
      · obtain ⟨X', S', r1, r2, r3, r4⟩ := luck_L hC hW e3 e4 hM v2 hb (nI j) (2 ^ N 7 0) 0 400 400 X S (by omega) (by omega) (by omega) (fun _ _ => rfl) (fun _ _ => rfl)
        have hs := spLuck_le (N := N) (B := B) (b := b) v2 w1.2.1 (2 ^ N 7 0)
        have f7 : X' 2 7 0 = nI (N 7 0) := by rw [r3 2 (by decide)]; exact hC.1.2.2.1
        have f4 : S' 4 0 = nI (N 7 0) := by rw [r4 4 (by decide)]; exact e4
        obtain ⟨a, a1, a2⟩ := frac f7 f4 w1.2.1 (s := spLuck N B v b (2 ^ N 7 0)) (by omega) j2
        have r1' : ∀ kk, fX4_luck_L40 (nI v) (nI b) (nI j) kk 400 (0 : Int64) (nI 0) X = kk (lN (spLuck N B v b (2 ^ N 7 0)), X') := r1
        have r2' : ∀ kk, fX5_luck_L37 (nI v) (nI b) (nI j) kk 400 (0 : Int64) (nI 0) S = kk (lN (spLuck N B v b (2 ^ N 7 0)), S') := r2
        have a2' : (fX5_allWays S').bind (fun r17 => (fX5_told (lN (spLuck N B v b (2 ^ N 7 0))) r17 (nI j)).bind fun r18 => some (r18, S')) = some (a, S') := by
          rw [← Option.bind_assoc, a2, q_some]
        refine ⟨a, X', S', ?_, ?_, (h.xe fun k a1 _ _ => r3 k a1).me r4⟩
        · simp (disch := omega) only [fX4_luck, q_win, lt, q_lit, q_some, q_eq, q_neg, h1, e7, r1', a1]
        · simp (disch := omega) only [fX5_luck, q_win, q_in_0_127, q_in_0_1, q_in_0_2, q_in_0_3, q_in_0_4, q_in_0_5, q_in_0_9, q_in_0_10, q_in_0_20, q_in_1_20, q_in_48_57, q_in_97_122, q_inB, lt, q_lit, q_some, q_eq, q_neg, eb, e6, r2', a2']
      · refine ⟨-1, X, S, ?_, ?_, h⟩
        · simp (disch := omega) only [fX4_luck, q_win, lt, jn, q_lit, q_bnd, q_cl, q_le, q_lt, q_eq, pk_mul, nI_add, q_sub, q_div, q_pos, q_neg, q_T, q_F, q_max0, q_flg1, q_flg0, q_min, q_min2, q_bit, q_some, h1, e7]
        · simp (disch := omega) only [fX5_luck, q_win, lt, jn, q_lit, q_bnd, q_cl, q_le, q_lt, q_eq, pk_mul, nI_add, q_sub, q_div, q_pos, q_neg, q_T, q_F, q_max0, q_flg1, q_flg0, q_min, q_min2, q_bit, q_some, q_in_0_127, q_in_0_1, q_in_0_2, q_in_0_3, q_in_0_4, q_in_0_5, q_in_0_9, q_in_0_10, q_in_0_20, q_in_1_20, q_in_48_57, q_in_97_122, q_inB, eb, e6]
    · rw [h1] at eb
      refine ⟨-1, X, S, ?_, ?_, h⟩
      · simp (disch := omega) only [fX4_luck, q_win, lt, jn, q_lit, q_bnd, q_cl, q_le, q_lt, q_eq, pk_mul, nI_add, q_sub, q_div, q_pos, q_neg, q_T, q_F, q_max0, q_flg1, q_flg0, q_min, q_min2, q_bit, q_some, h1]
      · simp (disch := omega) only [fX5_luck, q_win, lt, jn, q_lit, q_bnd, q_cl, q_le, q_lt, q_eq, pk_mul, nI_add, q_sub, q_div, q_pos, q_neg, q_T, q_F, q_max0, q_flg1, q_flg0, q_min, q_min2, q_bit, q_some, q_in_0_127, q_in_0_1, q_in_0_2, q_in_0_3, q_in_0_4, q_in_0_5, q_in_0_9, q_in_0_10, q_in_0_20, q_in_1_20, q_in_48_57, q_in_97_122, q_inB, eb]
  · refine ⟨-1, X, S, ?_, ?_, h⟩
    · simp (disch := omega) only [fX4_luck, lt, jn, q_lit, q_bnd, q_cl, q_le, q_lt, q_eq, pk_mul, nI_add, q_sub, q_div, q_pos, q_neg, q_T, q_F, q_max0, q_flg1, q_flg0, q_min, q_min2, q_bit, q_some, v2]
    · simp (disch := omega) only [fX5_luck, lt, jn, q_lit, q_bnd, q_cl, q_le, q_lt, q_eq, pk_mul, nI_add, q_sub, q_div, q_pos, q_neg, q_T, q_F, q_max0, q_flg1, q_flg0, q_min, q_min2, q_bit, q_some, q_in_0_127, q_in_0_1, q_in_0_2, q_in_0_3, q_in_0_4, q_in_0_5, q_in_0_9, q_in_0_10, q_in_0_20, q_in_1_20, q_in_48_57, q_in_97_122, q_inB, v2]
