theorem spLoose_congr {N : NN} {B : BB} {f g : Nat} : ∀ t : Nat, (∀ i, i < t → f.testBit i = g.testBit i) → spLoose N B f t = spLoose N B g t
  | 0, _ => rfl
  | t + 1, h => by rw [spLoose, spLoose, h t (by omega), spLoose_congr t fun i hi => h i (by omega)]
theorem spNight_all {N : NN} {B : BB} (h : N 7 0 ≤ 4) : spNight N B (2 ^ N 7 0 - 1) = spNight N B 15 := by
  unfold spNight
  rw [spLoose_congr (N 7 0) fun i hi => ?_]
  rw [Nat.testBit_two_pow_sub_one, show (15 : Nat) = 2 ^ 4 - 1 from rfl, Nat.testBit_two_pow_sub_one, decide_eq_true hi, decide_eq_true (by omega)]
theorem spPass_all {N : NN} {B : BB} (h : N 7 0 ≤ 4) : spPass N B (2 ^ N 7 0 - 1) = spPass N B 15 := by
  unfold spPass
  rw [spNight_all h]
theorem m_every {N : NN} {B : BB} {S0 S : M2} (hS : MA N B S0 S) (h : N 7 0 ≤ 4) : fX5_everyMoth S = some (nI (2 ^ N 7 0 - 1)) := by
  have hp : 0 < 2 ^ N 7 0 := Nat.two_pow_pos _
  unfold fX5_everyMoth
  simp (disch := omega) only [lt, jn, q_lit, q_bnd, q_cl, q_le, q_lt, q_eq, pk_mul, nI_add, q_sub, q_div, q_pos, q_neg, q_T, q_F, q_max0, q_flg1, q_flg0, q_min, q_min2, q_bit, q_some, hS.m, q_shl]
theorem pw4 {m : Nat} (h : m ≤ 4) : 2 ^ m - 1 < 32 := by
  have : 2 ^ m ≤ 2 ^ 4 := Nat.pow_le_pow_right (by decide) h
  omega
theorem m_pass {N : NN} {B : BB} {S0 S : M2} (hS : MA N B S0 S) (hW : WF N B) : ∃ S', fX5_nightGoes (nI (2 ^ N 7 0 - 1)) S = some S' ∧ MA (spPass N B 15) B S0 S' ∧ WF (spPass N B 15) B := by
  have h := hW.1.2.1
  have := m_night (pw4 h) hS hW
  rw [spPass_all h] at this
  exact this
def spNights (N : NN) (B : BB) : Nat → NN
  | 0 => N
  | n + 1 => spPass (spNights N B n) B 15
theorem m_nights_L {N : NN} {B : BB} {S0 : M2} {n : Nat} (hn : n ≤ 100) : ∀ (d t f : Nat) (S : M2), t + d = n → d < f → MA (spNights N B t) B S0 S → WF (spNights N B t) B → ∃ S', (∀ kk : M2 → Option M2, fX5_nightsGo_L2 (nI n) kk f (nI t) S = kk S') ∧ MA (spNights N B n) B S0 S' ∧ WF (spNights N B n) B
  | 0, t, f + 1, S, ht, hd, hS, hW => by
    have e2 : t = n := by omega
    subst e2
    refine ⟨S, fun kk => ?_, hS, hW⟩
    simp (disch := omega) only [fX5_nightsGo_L2, lt, jn, q_lit, q_bnd, q_cl, q_le, q_lt, q_eq, pk_mul, nI_add, q_sub, q_div, q_pos, q_neg, q_T, q_F, q_max0, q_flg1, q_flg0, q_min, q_min2, q_bit, q_some]
  | d + 1, t, f + 1, S, ht, hd, hS, hW => by
    obtain ⟨S1, i1, i2, i3⟩ := m_pass hS hW
    obtain ⟨S2, j1, j2⟩ := m_nights_L (N := N) (B := B) (S0 := S0) hn d (t + 1) f S1 (by omega) (by omega) i2 i3
    refine ⟨S2, fun kk => ?_, j2⟩
    have e := m_every hS hW.1.2.1
    simp (disch := omega) only [fX5_nightsGo_L2, lt, jn, q_lit, q_bnd, q_cl, q_le, q_lt, q_eq, pk_mul, nI_add, q_sub, q_div, q_pos, q_neg, q_T, q_F, q_max0, q_flg1, q_flg0, q_min, q_min2, q_bit, q_some, e, i1, j1]
theorem m_nights {N : NN} {B : BB} {S0 S : M2} {n : Nat} (hn : n ≤ 100) (hS : MA N B S0 S) (hW : WF N B) : ∃ S', fX5_nightsGo (nI n) S = some S' ∧ MA (spNights N B n) B S0 S' ∧ WF (spNights N B n) B := by
  obtain ⟨S', i1, i2⟩ := m_nights_L hn n 0 400 S (by omega) (by omega) hS hW
  exact ⟨S', i1 _, i2⟩
theorem m_duty_L {N : NN} {B : BB} {S0 S : M2} (hS : MA N B S0 S) (hW : WF N B) {k : Nat} (hk : k < 3) (kk : Int32 → Option Int32) : ∀ (l pre : List Nat) (a s f : Nat), B k = pre ++ l → (pre = [] ∧ a = 0 ∨ ∃ p c, pre = p ++ [c] ∧ a = N 3 c) → s ≤ 9 * pre.length → l.length < f → fX5_dutyOf_L11 S (nI k) (nI (B k).length) kk f (nI s) (nI pre.length) = kk (nI (s + spDuty (N 3) a l))
  | [], pre, a, s, f + 1, hB, ha, hs, hf => by
    have w1 := hW.1
    have w2 := hW.2.2.2.2.le hk
    simp only [List.append_nil] at hB
    have hl : (B k).length = pre.length := by rw [hB]
    simp (disch := omega) only [fX5_dutyOf_L11, lt, jn, q_lit, q_bnd, q_cl, q_le, q_lt, q_eq, pk_mul, nI_add, q_sub, q_div, q_pos, q_neg, q_T, q_F, q_max0, q_flg1, q_flg0, q_min, q_min2, q_bit, q_some, hl, spDuty, Nat.add_zero]
  | b :: l, pre, a, s, f + 1, hB, ha, hs, hf => by
    have w1 := hW.1
    have w2 := hW.2.2.2.2.le hk
    have hl : (B k).length = pre.length + (l.length + 1) := by rw [hB]; simp
    have hbm : b ∈ B k := by rw [hB]; simp
    have hb1 : b < N 0 0 := hW.2.2.2.2.lt hk hbm
    have c := hW.2.1 b hb1
    have g3 := (hS.2.2.2.2.1 b hb1).2.2.1
    have eb : fX5_boltAt (nI k) (nI pre.length) S = some (nI b) := m_boltAt hS hW hk (by rw [hB]; simp)
    have ih := m_duty_L hS hW hk kk l (pre ++ [b]) (N 3 b) (s + (N 3 b - min a (N 3 b))) f (by rw [hB]; simp) (Or.inr ⟨pre, b, rfl, rfl⟩) (by simp; omega) (by simp at hf; omega)
    rw [List.length_append, List.length_singleton, hl] at ih
    rw [hl, spDuty, Nat.min_comm, ← Nat.add_assoc s, ← ih]
    rcases ha with ⟨rfl, rfl⟩ | ⟨p, q, rfl, rfl⟩
    · rw [List.length_nil] at *
      simp (disch := omega) only [fX5_dutyOf_L11, fX5_of, lt, jn, q_lit, q_bnd, q_cl, q_le, q_lt, q_eq, pk_mul, nI_add, q_sub, q_div, q_pos, q_neg, q_T, q_F, q_max0, q_flg1, q_flg0, q_min, q_min2, q_bit, q_some, hl, eb, g3, Nat.zero_min, Nat.sub_zero, Nat.sub_self]
    · have hq1 : q < N 0 0 := hW.2.2.2.2.lt hk (by rw [hB]; simp)
      have cq := hW.2.1 q hq1
      have g3q := (hS.2.2.2.2.1 q hq1).2.2.1
      have eq : fX5_boltAt (nI k) (nI p.length) S = some (nI q) := m_boltAt hS hW hk (by rw [hB]; simp)
      rw [List.length_append, List.length_singleton] at *
      simp (disch := omega) only [fX5_dutyOf_L11, fX5_of, lt, jn, q_lit, q_bnd, q_cl, q_le, q_lt, q_eq, pk_mul, nI_add, q_sub, q_div, q_pos, q_neg, q_T, q_F, q_max0, q_flg1, q_flg0, q_min, q_min2, q_bit, q_some, hl, eb, g3, Nat.add_sub_cancel, eq, g3q]
      by_cases e9 : N 3 q ≤ N 3 b
      · rw [if_pos e9, Nat.min_eq_left e9]
      · rw [if_neg e9, Nat.min_eq_right (by omega)]
theorem m_duty {N : NN} {B : BB} {S0 S : M2} (hS : MA N B S0 S) (hW : WF N B) {k : Nat} (hk : k < 3) : fX5_dutyOf (nI k) S = some (nI (spDuty (N 3) 0 (B k) * N 13 0)) := by
  have w1 := hW.1
  have w2 := hW.2.2.2.2.le hk
  have e47 : S 1 47 = nI (N 13 0) := hS.2.2.2.1.2.1
  have := fun kk => m_duty_L hS hW hk kk (B k) [] 0 0 400 rfl (Or.inl ⟨rfl, rfl⟩) (by omega) (by omega)
  unfold fX5_dutyOf
  rw [List.length_nil] at this
  simp (disch := omega) only [lt, jn, q_lit, q_bnd, q_cl, q_le, q_lt, q_eq, pk_mul, nI_add, q_sub, q_div, q_pos, q_neg, q_T, q_F, q_max0, q_flg1, q_flg0, q_min, q_min2, q_bit, q_some, m_lies hS hW hk, this, e47, Nat.zero_add]
theorem m_dutyAll {N : NN} {B : BB} {S0 S : M2} (hS : MA N B S0 S) (hW : WF N B) : fX5_dutyAll S = some (nI (spAll N B)) := by
  unfold fX5_dutyAll spAll
  simp (disch := omega) only [lt, jn, q_lit, q_bnd, q_cl, q_le, q_lt, q_eq, pk_mul, nI_add, q_sub, q_div, q_pos, q_neg, q_T, q_F, q_max0, q_flg1, q_flg0, q_min, q_min2, q_bit, q_some, m_duty hS hW (show 0 < 3 by omega), m_duty hS hW (show 1 < 3 by omega), m_duty hS hW (show 2 < 3 by omega)]
theorem m_next {N : NN} {B : BB} {S0 S : M2} (hS : MA N B S0 S) (hW : WF N B) : ∃ S', fX5_dutyNext S = some (nI (spAll (spNight N B 15) B), S') ∧ MA (spPass N B 15) B S0 S' ∧ WF (spPass N B 15) B := by
  obtain ⟨S1, i1, i2, i3⟩ := m_pass hS hW
  refine ⟨S1, ?_, i2, i3⟩
  have e := m_every hS hW.1.2.1
  have e2 := m_dutyAll i2 i3
  have e3 : spAll (spPass N B 15) B = spAll (spNight N B 15) B := rfl
  rw [e3] at e2
  unfold fX5_dutyNext
  simp (disch := omega) only [lt, jn, q_lit, q_bnd, q_cl, q_le, q_lt, q_eq, pk_mul, nI_add, q_sub, q_div, q_pos, q_neg, q_T, q_F, q_max0, q_flg1, q_flg0, q_min, q_min2, q_bit, q_some, e, i1, e2]
theorem m_sum_L {N : NN} {B : BB} {S0 S : M2} (hS : MA N B S0 S) (hW : WF N B) (kk : Int32 → Option Int32) : ∀ d b f : Nat, b + d = N 0 0 → d < f → fX5_allHoles_L4 S kk f (nI (spSum (N 3) b)) (nI b) = kk (nI (spSum (N 3) (N 0 0)))
  | 0, b, f + 1, hb, hf => by
    have w1 := hW.1
    have e : b = N 0 0 := by omega
    simp (disch := omega) only [fX5_allHoles_L4, lt, jn, q_lit, q_bnd, q_cl, q_le, q_lt, q_eq, pk_mul, nI_add, q_sub, q_div, q_pos, q_neg, q_T, q_F, q_max0, q_flg1, q_flg0, q_min, q_min2, q_bit, q_some, hS.n, e]
  | d + 1, b, f + 1, hb, hf => by
    have w1 := hW.1
    have h1 : b < N 0 0 := by omega
    have ih := m_sum_L hS hW kk d (b + 1) f (by omega) (by omega)
    simp (disch := omega) only [fX5_allHoles_L4, fX5_of, lt, jn, q_lit, q_bnd, q_cl, q_le, q_lt, q_eq, pk_mul, nI_add, q_sub, q_div, q_pos, q_neg, q_T, q_F, q_max0, q_flg1, q_flg0, q_min, q_min2, q_bit, q_some, hS.n, (hS.2.2.2.2.1 b h1).2.2.1]
    exact ih
theorem m_sum {N : NN} {B : BB} {S0 S : M2} (hS : MA N B S0 S) (hW : WF N B) : fX5_allHoles S = some (nI (spSum (N 3) (N 0 0))) :=
  m_sum_L hS hW _ (N 0 0) 0 400 (by omega) (by have := hW.1; omega)
theorem m_eaten1 {N : NN} {B : BB} {S0 S : M2} (hS : MA N B S0 S) (hW : WF N B) {b : Nat} (hb : b < N 0 0) : fX5_isEaten (nI b) S = some (nI (spEaten N b).toNat) := by
  have w1 := hW.1
  obtain ⟨g1, g2, g3, g4⟩ := hS.2.2.2.2.1 b hb
  obtain ⟨c1, c2, c3⟩ := hW.2.1 b hb
  unfold spEaten
  simp (disch := omega) only [fX5_isEaten, fX5_of, lt, jn, q_lit, q_bnd, q_cl, q_le, q_lt, q_eq, pk_mul, nI_add, q_sub, q_div, q_pos, q_neg, q_T, q_F, q_max0, q_flg1, q_flg0, q_min, q_min2, q_bit, q_some, g2, g3]
  by_cases e1 : N 2 b ≤ 0
  · have : ¬ (0 < N 2 b ∧ N 3 b = N 2 b) := by omega
    simp (disch := omega) only [q_pos, this, decide_false, Bool.toNat_false]
  · by_cases e2 : N 3 b = N 2 b
    · have : (0 < N 2 b ∧ N 3 b = N 2 b) := by omega
      rw [if_neg e1, if_pos e2, decide_eq_true this]
      rfl
    · have : ¬ (0 < N 2 b ∧ N 3 b = N 2 b) := by omega
      rw [if_neg e1, if_neg e2, decide_eq_false this]
      rfl
/-- a bit more, or none -/
theorem q_orf {c b : Nat} (hb : b < 31) (p : Bool) : nI c ||| (nI p.toNat <<< (nI b &&& nI 31)) = nI (if p = true then c ||| 2 ^ b else c) := by
  cases p
  · rw [if_neg (by decide)]
    have e : nI false.toNat <<< (nI b &&& nI 31) = nI 0 := by
      have := pk_shlN (n := 0) (nI b &&& 31) b (q_s31 b (by omega)) (by omega)
      rw [Nat.zero_mul] at this
      exact this
    rw [e, q_or, Nat.or_zero]
  · rw [if_pos rfl]
    have e : nI true.toNat <<< (nI b &&& nI 31) = nI (2 ^ b) := q_shl hb
    rw [e, q_or]
theorem m_eaten_L {N : NN} {B : BB} {S0 S : M2} (hS : MA N B S0 S) (hW : WF N B) (kk : Int32 → Option Int32) : ∀ d b f : Nat, b + d = N 0 0 → d < f → fX5_eaten_L4 S kk f (nI (spBits (spEaten N) b)) (nI b) = kk (nI (spBits (spEaten N) (N 0 0)))
  | 0, b, f + 1, hb, hf => by
    have w1 := hW.1
    have e : b = N 0 0 := by omega
    simp (disch := omega) only [fX5_eaten_L4, lt, jn, q_lit, q_bnd, q_cl, q_le, q_lt, q_eq, pk_mul, nI_add, q_sub, q_div, q_pos, q_neg, q_T, q_F, q_max0, q_flg1, q_flg0, q_min, q_min2, q_bit, q_some, hS.n, e]
  | d + 1, b, f + 1, hb, hf => by
    have w1 := hW.1
    have h1 : b < N 0 0 := by omega
    have ih := m_eaten_L hS hW kk d (b + 1) f (by omega) (by omega)
    simp (disch := omega) only [fX5_eaten_L4, lt, jn, q_lit, q_bnd, q_cl, q_le, q_lt, q_eq, pk_mul, nI_add, q_sub, q_div, q_pos, q_neg, q_T, q_F, q_max0, q_flg1, q_flg0, q_min, q_min2, q_bit, q_some, hS.n, m_eaten1 hS hW h1, q_flag, q_orf]
    exact ih
theorem m_eaten {N : NN} {B : BB} {S0 S : M2} (hS : MA N B S0 S) (hW : WF N B) : fX5_eaten S = some (nI (spBits (spEaten N) (N 0 0))) :=
  m_eaten_L hS hW _ (N 0 0) 0 400 (by omega) (by have := hW.1; omega)
/-- what was seen, in the row st -/
def SN (N : NN) (S : M2) : Prop := S 0 49 = nI (N 15 0) ∧ ∀ i, i < N 15 0 → S 0 (50 + 2 * i) = nI (N 16 i) ∧ S 0 (50 + 2 * i + 1) = nI (N 17 i)
theorem m_seen_L {N : NN} {B : BB} {S0 S : M2} (hS : MA N B S0 S) (hW : WF N B) (hN : SN N S) {st : Nat} (hst : st < 32) (kk : Int32 → Option Int32) : ∀ (d i f : Nat) (p : Bool), i + d = N 15 0 → d < f → fX5_isSo_L4 S (nI st) kk f (nI p.toNat) (nI i) = kk (nI (p && spSeen N st d i).toNat)
  | 0, i, f + 1, p, hi, hf => by
    have w1 := hW.1
    have e : i = N 15 0 := by omega
    simp (disch := omega) only [fX5_isSo_L4, lt, jn, q_lit, q_bnd, q_cl, q_le, q_lt, q_eq, pk_mul, nI_add, q_sub, q_div, q_pos, q_neg, q_T, q_F, q_max0, q_flg1, q_flg0, q_min, q_min2, q_bit, q_some, hN.1, e, spSeen, Bool.and_true]
  | d + 1, i, f + 1, p, hi, hf => by
    have w1 := hW.1
    have h1 : i < N 15 0 := by omega
    obtain ⟨h16, h17⟩ := hN.2 i h1
    obtain ⟨w16, w17⟩ := hW.2.2.2.1 i h1
    obtain ⟨g1, g2, g3, g4⟩ := hS.2.2.2.2.1 _ w16
    obtain ⟨c1, c2, c3⟩ := hW.2.1 _ w16
    have ih := fun p => m_seen_L hS hW hN hst kk d (i + 1) f p (by omega) (by omega)
    have iht := ih true
    have ihf := ih false
    rw [Bool.true_and, Bool.toNat_true] at iht
    rw [Bool.false_and, Bool.toNat_false] at ihf
    rw [spSeen]
    simp (disch := omega) only [fX5_isSo_L4, fX5_of, lt, jn, q_lit, q_bnd, q_cl, q_le, q_lt, q_eq, pk_mul, nI_add, q_sub, q_div, q_pos, q_neg, q_T, q_F, q_max0, q_flg1, q_flg0, q_min, q_min2, q_bit, q_some, hN.1, h16, h17, g2, g3, q_b0, q_b1, iht, ihf]
    cases p
    · simp only [Bool.false_and, Bool.toNat_false, if_true]
      split
      · split <;> rfl
      · rfl
    · simp only [Bool.true_and, Bool.true_eq_false, if_false]
      by_cases e1 : st.testBit (N 16 i) = true
      · by_cases e2 : N 2 (N 16 i) ≤ N 3 (N 16 i)
        · have e3 : ¬ N 3 (N 16 i) < N 2 (N 16 i) := by omega
          simp only [e1, e2, e3, if_true, decide_false, Bool.and_false, Bool.toNat_false, Nat.add_zero]
          by_cases e4 : N 3 (N 16 i) = N 17 i <;> simp [e4]
        · have e3 : N 3 (N 16 i) < N 2 (N 16 i) := by omega
          simp only [e1, e2, e3, if_true, if_false, decide_true, Bool.and_true, Bool.toNat_true]
          by_cases e4 : N 3 (N 16 i) + 1 = N 17 i <;> simp [e4]
      · simp only [e1, if_false, Bool.false_and, Bool.toNat_false, Nat.add_zero, Bool.false_eq_true]
        by_cases e4 : N 3 (N 16 i) = N 17 i <;> simp [e4]
theorem m_seen {N : NN} {B : BB} {S0 S : M2} (hS : MA N B S0 S) (hW : WF N B) (hN : SN N S) {st : Nat} (hst : st < 32) : fX5_isSo (nI st) S = some (nI (spSeen N st (N 15 0) 0).toNat) := by
  have w1 := hW.1
  have := m_seen_L hS hW hN hst (fun p22 => zb p22 (some p22)) (N 15 0) 0 400 true (by omega) (by omega)
  rw [Bool.true_and, q_zb] at this
  exact this
