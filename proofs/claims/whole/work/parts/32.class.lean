theorem t_hasBolt {S : M2} {n : Nat} (h : S 0 0 = nI n) (hn : n ≤ 5) (x : Int32) : (∃ j, j < n ∧ x = nI j ∧ fX1_hasBolt x S = some (nI 1)) ∨ ((∀ j, j < n → x ≠ nI j) ∧ fX1_hasBolt x S = some (nI 0)) := by
  rcases q_has x n (by omega) with ⟨j, h1, h2, h3⟩ | ⟨h2, h3⟩
  · refine Or.inl ⟨j, h1, h2, ?_⟩
    unfold fX1_hasBolt
    rw [h, q_lit, q_lit, h3]
    rfl
  · refine Or.inr ⟨h2, ?_⟩
    unfold fX1_hasBolt
    rw [h, q_lit, q_lit, h3]
    rfl
theorem t_hasMoth {S : M2} {n : Nat} (h : S 7 0 = nI n) (hn : n ≤ 5) (x : Int32) : (∃ j, j < n ∧ x = nI j ∧ fX1_hasMoth x S = some (nI 1)) ∨ ((∀ j, j < n → x ≠ nI j) ∧ fX1_hasMoth x S = some (nI 0)) := by
  rcases q_has x n (by omega) with ⟨j, h1, h2, h3⟩ | ⟨h2, h3⟩
  · refine Or.inl ⟨j, h1, h2, ?_⟩
    unfold fX1_hasMoth
    rw [h, q_lit, q_lit, h3]
    rfl
  · refine Or.inr ⟨h2, ?_⟩
    unfold fX1_hasMoth
    rw [h, q_lit, q_lit, h3]
    rfl
theorem t_isBale (x : Int32) : (∃ j, j < 3 ∧ x = nI j ∧ fX4_isBale x = some (nI 1)) ∨ ((∀ j, j < 3 → x ≠ nI j) ∧ fX4_isBale x = some (nI 0)) := by
  unfold fX4_isBale
  rcases q_within x (a := 0) (b := 2) (by omega) with ⟨j, h1, h2, rfl⟩ | ⟨h1, h2⟩
  · refine Or.inl ⟨j, by omega, rfl, ?_⟩
    rw [q_lit, q_lit, q_win (by omega)]
    rfl
  · refine Or.inr ⟨fun j h3 => h1 j (by omega) (by omega), ?_⟩
    rw [q_lit, q_lit, h2]
    rfl
theorem t_hasCam {N : NN} {B : BB} {S : M2} (hS : CS N B S) (hc : N 4 0 < 32) {b : Nat} (hb : b < 5) : fX1_hasCamphor (nI b) S = some (nI ((N 4 0).testBit b).toNat) := by
  simp (disch := omega) only [fX1_hasCamphor, lt, jn, q_lit, q_bnd, q_cl, q_le, q_lt, q_eq, pk_mul, nI_add, q_sub, q_div, q_pos, q_neg, q_T, q_F, q_max0, q_flg1, q_flg0, q_min, q_min2, q_bit, q_some, hS.1.2.1, q_b1, q_fl]
theorem t_appetite {N : NN} {B : BB} {S : M2} (hS : CS N B S) (hW : WF N B) {m : Nat} (hm : m < N 7 0) : fX1_appetite (nI m) S = some (nI (spApp N m)) := by
  obtain ⟨h8, h9, h10, h11⟩ := hS.2.2.1 m hm
  obtain ⟨b8, b9, b10, b11⟩ := hW.2.2.1 m hm
  have w1 := hW.1
  have h12 := hS.1.2.2.2.1
  unfold spApp
  by_cases e1 : N 8 m = 1
  · by_cases e2 : N 10 m + N 12 0 = 0
    · have a1 : N 10 m = 0 := by omega
      have a2 : N 12 0 = 0 := by omega
      simp (disch := omega) only [fX1_appetite, lt, jn, q_lit, q_bnd, q_cl, q_le, q_lt, q_eq, pk_mul, nI_add, q_sub, q_div, q_pos, q_neg, q_T, q_F, q_max0, q_flg1, q_flg0, q_min, q_min2, q_bit, q_some, h8, h10, h12, e1, a1, a2]
      decide
    · simp (disch := omega) only [fX1_appetite, lt, jn, q_lit, q_bnd, q_cl, q_le, q_lt, q_eq, pk_mul, nI_add, q_sub, q_div, q_pos, q_neg, q_T, q_F, q_max0, q_flg1, q_flg0, q_min, q_min2, q_bit, q_some, h8, h10, h12, e1]
  · by_cases e2 : N 8 m = 2
    · simp (disch := omega) only [fX1_appetite, lt, jn, q_lit, q_bnd, q_cl, q_le, q_lt, q_eq, pk_mul, nI_add, q_sub, q_div, q_pos, q_neg, q_T, q_F, q_max0, q_flg1, q_flg0, q_min, q_min2, q_bit, q_some, h8, h10, h12, e2]
    · by_cases e3 : N 8 m = 3
      · simp (disch := omega) only [fX1_appetite, lt, jn, q_lit, q_bnd, q_cl, q_le, q_lt, q_eq, pk_mul, nI_add, q_sub, q_div, q_pos, q_neg, q_T, q_F, q_max0, q_flg1, q_flg0, q_min, q_min2, q_bit, q_some, h8, h10, h12, e3]
      · simp (disch := omega) only [fX1_appetite, lt, jn, q_lit, q_bnd, q_cl, q_le, q_lt, q_eq, pk_mul, nI_add, q_sub, q_div, q_pos, q_neg, q_T, q_F, q_max0, q_flg1, q_flg0, q_min, q_min2, q_bit, q_some, h8, h10, h12]
theorem q_gt1 {a b : Nat} (h : a < 2 ^ 30 ∧ b < 2 ^ 30) : (nI 1 < nI a - nI b) = (b + 1 < a) := by
  rw [Int32.lt_iff_toInt_lt, pk_sub_toInt h.1 h.2, nI_toInt (by decide)]
  exact propext ⟨fun h => by omega, fun h => by omega⟩
theorem t_likes {N : NN} {B : BB} {S : M2} (hS : CS N B S) (hW : WF N B) {m b : Nat} (hm : m < N 7 0) (hb : b < N 0 0) : fX1_likes (nI m) (nI b) S = some (nI (spLik N m b).toNat) := by
  obtain ⟨h8, h9, h10, h11⟩ := hS.2.2.1 m hm
  obtain ⟨b8, b9, b10, b11⟩ := hW.2.2.1 m hm
  obtain ⟨g1, g2, g3⟩ := hS.2.1 b hb
  obtain ⟨c1, c2, c3⟩ := hW.2.1 b hb
  have w1 := hW.1
  unfold spLik
  by_cases e1 : N 8 m = 1
  · simp (disch := omega) only [fX1_likes, lt, jn, q_lit, q_bnd, q_cl, q_le, q_lt, q_eq, pk_mul, nI_add, q_sub, q_div, q_pos, q_neg, q_T, q_F, q_max0, q_flg1, q_flg0, q_min, q_min2, q_bit, q_some, h8, h9, g1, e1]
    by_cases e2 : N 1 b = N 9 m
    · simp (disch := omega) only [q_T, e2, decide_true, Bool.toNat_true]
    · simp (disch := omega) only [q_F, e2, decide_false, Bool.toNat_false]
  · by_cases e2 : N 8 m = 2
    · simp (disch := omega) only [fX1_likes, lt, jn, q_lit, q_bnd, q_cl, q_le, q_lt, q_eq, pk_mul, nI_add, q_sub, q_div, q_pos, q_neg, q_T, q_F, q_max0, q_flg1, q_flg0, q_min, q_min2, q_bit, q_some, h8, h9, g1, e2, Bool.toNat_true]
    · simp (disch := omega) only [fX1_likes, lt, jn, q_lit, q_bnd, q_cl, q_le, q_lt, q_eq, pk_mul, nI_add, q_sub, q_div, q_pos, q_neg, q_T, q_F, q_max0, q_flg1, q_flg0, q_min, q_min2, q_bit, q_some, h8, h9, g1, q_gt1]
      by_cases e3 : N 9 m + 1 < N 1 b
      · have : ¬ (N 1 b ≤ N 9 m + 1 ∧ N 9 m ≤ N 1 b + 1) := by omega
        simp (disch := omega) only [q_pos, this, decide_false, Bool.toNat_false]
      · by_cases e4 : N 1 b + 1 < N 9 m
        · have : ¬ (N 1 b ≤ N 9 m + 1 ∧ N 9 m ≤ N 1 b + 1) := by omega
          simp (disch := omega) only [q_pos, q_neg, this, decide_false, Bool.toNat_false]
        · have : (N 1 b ≤ N 9 m + 1 ∧ N 9 m ≤ N 1 b + 1) := by omega
          simp (disch := omega) only [q_neg, this, and_self, decide_true, Bool.toNat_true]

theorem t_liked_L {N : NN} {B : BB} {S : M2} (hS : CS N B S) (hW : WF N B) {m : Nat} (hm : m < N 7 0) (kk : Int32 → Option Int32) : ∀ d b f : Nat, b + d = N 0 0 → d < f → fX1_liked_L4 S (nI m) kk f (nI (spBits (spLik N m) b)) (nI b) = kk (nI (spBits (spLik N m) (N 0 0)))
  | 0, b, f + 1, hb, hf => by
    have w1 := hW.1
    have e : b = N 0 0 := by omega
    simp (disch := omega) only [fX1_liked_L4, lt, jn, q_lit, q_bnd, q_cl, q_le, q_lt, q_eq, pk_mul, nI_add, q_sub, q_div, q_pos, q_neg, q_T, q_F, q_max0, q_flg1, q_flg0, q_min, q_min2, q_bit, q_some, hS.1.1, e]
  | d + 1, b, f + 1, hb, hf => by
    have w1 := hW.1
    have h1 : b < N 0 0 := by omega
    have ih := t_liked_L hS hW hm kk d (b + 1) f (by omega) (by omega)
    simp (disch := omega) only [fX1_liked_L4, lt, jn, q_lit, q_bnd, q_cl, q_le, q_lt, q_eq, pk_mul, nI_add, q_sub, q_div, q_pos, q_neg, q_T, q_F, q_max0, q_flg1, q_flg0, q_min, q_min2, q_bit, q_some, hS.1.1, t_likes hS hW hm h1, q_b0, q_tf, q_shl, q_or]
    rw [spBits] at ih
    split
    · rename_i h2
      rw [if_pos h2] at ih
      exact ih
    · rename_i h2
      rw [if_neg h2] at ih
      exact ih
theorem t_liked {N : NN} {B : BB} {S : M2} (hS : CS N B S) (hW : WF N B) {m : Nat} (hm : m < N 7 0) : fX1_liked (nI m) S = some (nI (spBits (spLik N m) (N 0 0))) :=
  t_liked_L hS hW hm _ (N 0 0) 0 400 (by omega) (by have := hW.1; omega)
theorem t_sum_L {N : NN} {B : BB} {S : M2} (hS : CS N B S) (hW : WF N B) (kk : Int32 → Option Int32) : ∀ d b f : Nat, b + d = N 0 0 → d < f → fX1_holesInAll_L4 S kk f (nI (spSum (N 3) b)) (nI b) = kk (nI (spSum (N 3) (N 0 0)))
  | 0, b, f + 1, hb, hf => by
    have w1 := hW.1
    have e : b = N 0 0 := by omega
    simp (disch := omega) only [fX1_holesInAll_L4, lt, jn, q_lit, q_bnd, q_cl, q_le, q_lt, q_eq, pk_mul, nI_add, q_sub, q_div, q_pos, q_neg, q_T, q_F, q_max0, q_flg1, q_flg0, q_min, q_min2, q_bit, q_some, hS.1.1, e]
  | d + 1, b, f + 1, hb, hf => by
    have w1 := hW.1
    have h1 : b < N 0 0 := by omega
    have ih := t_sum_L hS hW kk d (b + 1) f (by omega) (by omega)
    simp (disch := omega) only [fX1_holesInAll_L4, lt, jn, q_lit, q_bnd, q_cl, q_le, q_lt, q_eq, pk_mul, nI_add, q_sub, q_div, q_pos, q_neg, q_T, q_F, q_max0, q_flg1, q_flg0, q_min, q_min2, q_bit, q_some, hS.1.1, (hS.2.1 b h1).2.2]
    exact ih
theorem t_sum {N : NN} {B : BB} {S : M2} (hS : CS N B S) (hW : WF N B) : fX1_holesInAll S = some (nI (spSum (N 3) (N 0 0))) :=
  t_sum_L hS hW _ (N 0 0) 0 400 (by omega) (by have := hW.1; omega)
theorem t_eaten {N : NN} {B : BB} {S : M2} (hS : CS N B S) (hW : WF N B) {b : Nat} (hb : b < N 0 0) : fX1_isEatenUp (nI b) S = some (nI (spEaten N b).toNat) := by
  have w1 := hW.1
  obtain ⟨g1, g2, g3⟩ := hS.2.1 b hb
  obtain ⟨c1, c2, c3⟩ := hW.2.1 b hb
  unfold spEaten
  simp (disch := omega) only [fX1_isEatenUp, lt, jn, q_lit, q_bnd, q_cl, q_le, q_lt, q_eq, pk_mul, nI_add, q_sub, q_div, q_pos, q_neg, q_T, q_F, q_max0, q_flg1, q_flg0, q_min, q_min2, q_bit, q_some, g2, g3]
  by_cases e1 : N 2 b ≤ 0
  · have : ¬ (0 < N 2 b ∧ N 3 b = N 2 b) := by omega
    simp (disch := omega) only [q_pos, this, decide_false, Bool.toNat_false]
  · by_cases e2 : N 3 b = N 2 b
    · have : (0 < N 2 b ∧ N 3 b = N 2 b) := by omega
      rw [if_neg e1, if_pos e2, decide_eq_true this]
      rfl
    · have : ¬ (0 < N 2 b ∧ N 3 b = N 2 b) := by omega
      rw [if_neg e1, if_neg e2, decide_eq_false this]
      rfl
theorem t_eatenUp_L {N : NN} {B : BB} {S : M2} (hS : CS N B S) (hW : WF N B) (kk : Int32 → Option Int32) : ∀ d b f : Nat, b + d = N 0 0 → d < f → fX1_eatenUp_L4 S kk f (nI (spBits (spEaten N) b)) (nI b) = kk (nI (spBits (spEaten N) (N 0 0)))
  | 0, b, f + 1, hb, hf => by
    have w1 := hW.1
    have e : b = N 0 0 := by omega
    simp (disch := omega) only [fX1_eatenUp_L4, lt, jn, q_lit, q_bnd, q_cl, q_le, q_lt, q_eq, pk_mul, nI_add, q_sub, q_div, q_pos, q_neg, q_T, q_F, q_max0, q_flg1, q_flg0, q_min, q_min2, q_bit, q_some, hS.1.1, e]
  | d + 1, b, f + 1, hb, hf => by
    have w1 := hW.1
    have h1 : b < N 0 0 := by omega
    have ih := t_eatenUp_L hS hW kk d (b + 1) f (by omega) (by omega)
    simp (disch := omega) only [fX1_eatenUp_L4, lt, jn, q_lit, q_bnd, q_cl, q_le, q_lt, q_eq, pk_mul, nI_add, q_sub, q_div, q_pos, q_neg, q_T, q_F, q_max0, q_flg1, q_flg0, q_min, q_min2, q_bit, q_some, hS.1.1, t_eaten hS hW h1, q_b0, q_tf, q_shl, q_or]
    rw [spBits] at ih
    split
    · rename_i h2
      rw [if_pos h2] at ih
      exact ih
    · rename_i h2
      rw [if_neg h2] at ih
      exact ih
theorem t_eatenUp {N : NN} {B : BB} {S : M2} (hS : CS N B S) (hW : WF N B) : fX1_eatenUp S = some (nI (spBits (spEaten N) (N 0 0))) :=
  t_eatenUp_L hS hW _ (N 0 0) 0 400 (by omega) (by have := hW.1; omega)
theorem t_duty_L {N : NN} {B : BB} {S : M2} (hS : CS N B S) (hW : WF N B) {k : Nat} (hk : k < 3) (kk : Int32 → Option Int32) : ∀ (l pre : List Nat) (a s f : Nat), B k = pre ++ l → a ≤ 9 → s ≤ 9 * pre.length → l.length < f → fX1_dutyOf_L7 S (nI k) kk f (nI s) (nI a) (nI pre.length) = kk (nI (s + spDuty (N 3) a l))
  | [], pre, a, s, f + 1, hB, ha, hs, hf => by
    have w1 := hW.1
    have w2 := hW.2.2.2.2.le hk
    have h6 := (hS.2.2.2.2 k hk).1
    simp only [List.append_nil] at hB
    have hl : (B k).length = pre.length := by rw [hB]
    simp (disch := omega) only [fX1_dutyOf_L7, lt, jn, q_lit, q_bnd, q_cl, q_le, q_lt, q_eq, pk_mul, nI_add, q_sub, q_div, q_pos, q_neg, q_T, q_F, q_max0, q_flg1, q_flg0, q_min, q_min2, q_bit, q_some, h6, hl, spDuty, Nat.add_zero]
  | b :: l, pre, a, s, f + 1, hB, ha, hs, hf => by
    have w1 := hW.1
    have w2 := hW.2.2.2.2.le hk
    have h6 := (hS.2.2.2.2 k hk).1
    have hl : (B k).length = pre.length + (l.length + 1) := by rw [hB]; simp
    have hbm : b ∈ B k := by rw [hB]; simp
    have hb1 : b < N 0 0 := hW.2.2.2.2.lt hk hbm
    have c := hW.2.1 b hb1
    have h5' := (hS.2.2.2.2 k hk).2 pre.length b (by rw [hB]; simp)
    have h3 := (hS.2.1 b hb1).2.2
    have ih := t_duty_L hS hW hk kk l (pre ++ [b]) (N 3 b) (s + (N 3 b - min a (N 3 b))) f (by rw [hB]; simp) (by omega) (by simp; omega) (by simp at hf; omega)
    rw [List.length_append, List.length_singleton] at ih
    simp (disch := omega) only [fX1_dutyOf_L7, lt, jn, q_lit, q_bnd, q_cl, q_le, q_lt, q_eq, pk_mul, nI_add, q_sub, q_div, q_pos, q_neg, q_T, q_F, q_max0, q_flg1, q_flg0, q_min, q_min2, q_bit, q_some, h6, hl, h5', h3]
    rw [ih, spDuty, Nat.add_assoc, Nat.min_comm]
theorem t_duty {N : NN} {B : BB} {S : M2} (hS : CS N B S) (hW : WF N B) {k : Nat} (hk : k < 3) : fX1_dutyOf (nI k) S = some (nI (spDuty (N 3) 0 (B k) * N 13 0)) := by
  have w1 := hW.1
  have w2 := hW.2.2.2.2.le hk
  have := t_duty_L hS hW hk (fun p8 => some (p8 * (S 13 0))) (B k) [] 0 0 400 rfl (by omega) (by omega) (by omega)
  unfold fX1_dutyOf
  rw [Nat.zero_add] at this
  refine this.trans ?_
  rw [hS.1.2.2.2.2.1, pk_mul]
theorem t_dutyAll_L {N : NN} {B : BB} {S : M2} (hS : CS N B S) (hW : WF N B) (kk : Int32 → Option Int32) (f : Nat) : fX1_dutyOfAll_L4 S kk (f + 4) (nI 0) (nI 0) = kk (nI (spAll N B)) := by
  have h0 := t_duty hS hW (k := 0) (by omega)
  have h1 := t_duty hS hW (k := 1) (by omega)
  have h2 := t_duty hS hW (k := 2) (by omega)
  unfold spAll
  rw [fX1_dutyOfAll_L4]
  simp (disch := omega) only [lt, jn, q_lit, q_bnd, q_cl, q_le, q_lt, q_eq, pk_mul, nI_add, q_sub, q_div, q_pos, q_neg, q_T, q_F, q_max0, q_flg1, q_flg0, q_min, q_min2, q_bit, q_some, h0]
  rw [fX1_dutyOfAll_L4]
  simp (disch := omega) only [lt, jn, q_lit, q_bnd, q_cl, q_le, q_lt, q_eq, pk_mul, nI_add, q_sub, q_div, q_pos, q_neg, q_T, q_F, q_max0, q_flg1, q_flg0, q_min, q_min2, q_bit, q_some, h1]
  rw [fX1_dutyOfAll_L4]
  simp (disch := omega) only [lt, jn, q_lit, q_bnd, q_cl, q_le, q_lt, q_eq, pk_mul, nI_add, q_sub, q_div, q_pos, q_neg, q_T, q_F, q_max0, q_flg1, q_flg0, q_min, q_min2, q_bit, q_some, h2]
  rw [fX1_dutyOfAll_L4]
  simp (disch := omega) only [lt, jn, q_lit, q_bnd, q_cl, q_le, q_lt, q_eq, pk_mul, nI_add, q_sub, q_div, q_pos, q_neg, q_T, q_F, q_max0, q_flg1, q_flg0, q_min, q_min2, q_bit, q_some, Nat.zero_add]
theorem t_dutyAll {N : NN} {B : BB} {S : M2} (hS : CS N B S) (hW : WF N B) : fX1_dutyOfAll S = some (nI (spAll N B)) :=
  t_dutyAll_L hS hW (fun p7 => some p7) 396
theorem t_seen_L {N : NN} {B : BB} {S : M2} (hS : CS N B S) (hW : WF N B) {st : Nat} (hst : st < 32) : ∀ d i f : Nat, i + d = N 15 0 → d < f → fX1_isAsSeen_L2 S (nI st) (fun _ => some (1 : Int32)) f (nI i) = some (nI (spSeen N st d i).toNat)
  | 0, i, f + 1, hi, hf => by
    have w1 := hW.1
    have e : i = N 15 0 := by omega
    simp (disch := omega) only [fX1_isAsSeen_L2, lt, jn, q_lit, q_bnd, q_cl, q_le, q_lt, q_eq, pk_mul, nI_add, q_sub, q_div, q_pos, q_neg, q_T, q_F, q_max0, q_flg1, q_flg0, q_min, q_min2, q_bit, q_some, hS.1.2.2.2.2.2.2, e, spSeen, Bool.toNat_true]
  | d + 1, i, f + 1, hi, hf => by
    have w1 := hW.1
    have h1 : i < N 15 0 := by omega
    obtain ⟨h16, h17⟩ := hS.2.2.2.1 i h1
    obtain ⟨w16, w17⟩ := hW.2.2.2.1 i h1
    obtain ⟨g1, g2, g3⟩ := hS.2.1 _ w16
    obtain ⟨c1, c2, c3⟩ := hW.2.1 _ w16
    have ih := t_seen_L hS hW hst d (i + 1) f (by omega) (by omega)
    rw [spSeen]
    simp (disch := omega) only [fX1_isAsSeen_L2, lt, jn, q_lit, q_bnd, q_cl, q_le, q_lt, q_eq, pk_mul, nI_add, q_sub, q_div, q_pos, q_neg, q_T, q_F, q_max0, q_flg1, q_flg0, q_min, q_min2, q_bit, q_some, hS.1.2.2.2.2.2.2, h16, h17, g2, g3, q_b1, ih]
    by_cases e1 : st.testBit (N 16 i) = true
    · by_cases e2 : N 3 (N 16 i) < N 2 (N 16 i)
      · have e3 : ¬ N 2 (N 16 i) ≤ N 3 (N 16 i) := by omega
        simp only [e1, e2, e3, q_T, q_F, decide_true, Bool.and_true, Bool.toNat_true, Bool.true_and]
        by_cases e4 : N 3 (N 16 i) + 1 = N 17 i <;> simp [e4]
        exact ih
      · have e3 : N 2 (N 16 i) ≤ N 3 (N 16 i) := by omega
        simp only [e1, e2, e3, q_T, q_F, decide_false, Bool.and_false, Bool.toNat_false, Nat.add_zero]
        by_cases e4 : N 3 (N 16 i) = N 17 i <;> simp [e4]
        exact ih
    · simp only [e1, q_F, Bool.false_and, Bool.toNat_false, Nat.add_zero, Bool.false_eq_true]
      by_cases e4 : N 3 (N 16 i) = N 17 i <;> simp [e4]
      exact ih
theorem t_seen {N : NN} {B : BB} {S : M2} (hS : CS N B S) (hW : WF N B) {st : Nat} (hst : st < 32) : fX1_isAsSeen (nI st) S = some (nI (spSeen N st (N 15 0) 0).toNat) :=
  t_seen_L hS hW hst (N 15 0) 0 400 (by omega) (by have := hW.1; omega)
/-! nights -/
theorem spEat_zero (N : NN) (m : Nat) : ∀ (l : List Nat) (h : Nat → Nat), spEat N m l 0 h = h
  | [], h => rfl
  | b :: l, h => by
    have e : va_up h b (h b + min 0 (N 2 b - h b)) = h := by
      funext j
      rw [Nat.zero_min, Nat.add_zero]
      unfold va_up
      split
      · rename_i e
        rw [e]
      · rfl
    rw [spEat, Nat.zero_sub, e, spEat_zero N m l h]
    split
    · rfl
    · split <;> rfl
theorem CS.holes {N : NN} {B : BB} {S : M2} {h : Nat → Nat} (hS : CS (va_up N 3 h) B S) {b v : Nat} : CS (va_up N 3 (va_up h b v)) B (va_up S 3 (upd (S 3) b (nI v))) := by
  obtain ⟨h1, h2, h3, h4, h5⟩ := hS
  refine ⟨h1, fun b' hb' => ⟨(h2 b' hb').1, (h2 b' hb').2.1, ?_⟩, h3, h4, h5⟩
  show upd (S 3) b (nI v) b' = nI (va_up h b v b')
  rw [q_ud, q_up]
  split
  · rfl
  · exact (h2 b' hb').2.2
theorem WF.holes {N : NN} {B : BB} {h : Nat → Nat} (hW : WF (va_up N 3 h) B) {b v : Nat} (hv : v ≤ N 2 b) : WF (va_up N 3 (va_up h b v)) B := by
  obtain ⟨h1, h2, h3, h4, h5⟩ := hW
  refine ⟨h1, fun b' hb' => ⟨(h2 b' hb').1, (h2 b' hb').2.1, ?_⟩, h3, h4, h5⟩
  show va_up h b v b' ≤ N 2 b'
  rw [q_up]
  split
  · rename_i e
    rw [e]
    exact hv
  · exact (h2 b' hb').2.2
theorem t_eat_L {N : NN} {B : BB} {m k : Nat} (hm : m < N 7 0) (hk : k < 3) : ∀ (l pre : List Nat) (a f : Nat) (h : Nat → Nat) (S : M2), B k = pre ++ l → CS (va_up N 3 h) B S → WF (va_up N 3 h) B → a ≤ 100 → l.length < f → ∃ S', fX1_eatDown_L16 (nI m) (nI k) (fun p => some p) f (nI a) (nI pre.length) S = some S' ∧ CS (va_up N 3 (spEat N m l a h)) B S' ∧ WF (va_up N 3 (spEat N m l a h)) B
  | [], pre, a, f + 1, h, S, hB, hS, hW, ha, hf => by
    have w1 := hW.1
    have w2 := hW.2.2.2.2.le hk
    have h6 := (hS.2.2.2.2 k hk).1
    simp only [List.append_nil] at hB
    have hl : (B k).length = pre.length := by rw [hB]
    have w3 : N 0 0 ≤ 5 := w1.1
    have w4 : (B k).length ≤ N 0 0 := w2
    refine ⟨S, ?_, hS, hW⟩
    simp (disch := omega) only [fX1_eatDown_L16, lt, jn, q_lit, q_bnd, q_cl, q_le, q_lt, q_eq, pk_mul, nI_add, q_sub, q_div, q_pos, q_neg, q_T, q_F, q_max0, q_flg1, q_flg0, q_min, q_min2, q_bit, q_some, h6, hl]
  | b :: l, pre, a, f + 1, h, S, hB, hS, hW, ha, hf => by
    have w1 := hW.1
    have w2 : (B k).length ≤ N 0 0 := hW.2.2.2.2.le hk
    have w3 : N 0 0 ≤ 5 := w1.1
    have w4 : N 4 0 < 2 ^ N 0 0 := w1.2.2.1
    have w5 : 2 ^ N 0 0 ≤ 2 ^ 5 := Nat.pow_le_pow_right (by decide) w3
    have h6 := (hS.2.2.2.2 k hk).1
    have hl : (B k).length = pre.length + (l.length + 1) := by rw [hB]; simp
    have hbm : b ∈ B k := by rw [hB]; simp
    have hb1 : b < N 0 0 := hW.2.2.2.2.lt hk hbm
    have c2 : N 2 b ≤ 9 := (hW.2.1 b hb1).2.1
    have c3 : h b ≤ N 2 b := (hW.2.1 b hb1).2.2
    have h5' := (hS.2.2.2.2 k hk).2 pre.length b (by rw [hB]; simp)
    have g2 : S 2 b = nI (N 2 b) := (hS.2.1 b hb1).2.1
    have g3 : S 3 b = nI (h b) := (hS.2.1 b hb1).2.2
    have ec : fX1_hasCamphor (nI b) S = some (nI ((N 4 0).testBit b).toNat) := t_hasCam hS (by show N 4 0 < 32; omega) (by omega)
    have el : fX1_likes (nI m) (nI b) S = some (nI (spLik N m b).toNat) := t_likes hS hW hm hb1
    rw [spEat]
    by_cases e0 : a = 0
    · subst e0
      refine ⟨S, ?_, ?_⟩
      · simp (disch := omega) only [fX1_eatDown_L16, lt, jn, q_lit, q_bnd, q_cl, q_le, q_lt, q_eq, pk_mul, nI_add, q_sub, q_div, q_pos, q_neg, q_T, q_F, q_max0, q_flg1, q_flg0, q_min, q_min2, q_bit, q_some, h6, hl]
      · rw [← spEat, spEat_zero]
        exact ⟨hS, hW⟩
    · by_cases e1 : (N 4 0).testBit b = true
      · refine ⟨S, ?_, ?_⟩
        · simp (disch := omega) only [fX1_eatDown_L16, lt, jn, q_lit, q_bnd, q_cl, q_le, q_lt, q_eq, pk_mul, nI_add, q_sub, q_div, q_pos, q_neg, q_T, q_F, q_max0, q_flg1, q_flg0, q_min, q_min2, q_bit, q_some, h6, hl, h5', ec, q_b0, e1, Bool.true_eq_false]
        · rw [if_pos e1]
          exact ⟨hS, hW⟩
      · rw [if_neg e1]
        have e1' : (N 4 0).testBit b = false := by simpa using e1
        by_cases e2 : spLik N m b = true
        · rw [if_pos e2]
          have ih := t_eat_L hm hk l (pre ++ [b]) (a - min a (N 2 b - h b)) f (va_up h b (h b + min a (N 2 b - h b))) (va_up S 3 (upd (S 3) b (nI (h b + min a (N 2 b - h b))))) (by rw [hB]; simp) hS.holes (hW.holes (by omega)) (by omega) (by simp at hf; omega)
          rw [List.length_append, List.length_singleton] at ih
          obtain ⟨S', i1, i2⟩ := ih
          refine ⟨S', ?_, i2⟩
          simp (disch := omega) only [fX1_eatDown_L16, lt, jn, q_lit, q_bnd, q_cl, q_le, q_lt, q_eq, pk_mul, nI_add, q_sub, q_div, q_pos, q_neg, q_T, q_F, q_max0, q_flg1, q_flg0, q_min, q_min2, q_bit, q_some, h6, hl, h5', ec, el, q_b0, e1', e2, Bool.true_eq_false, g2, g3]
          rw [Nat.min_comm]
          exact i1
        · rw [if_neg e2]
          have e2' : spLik N m b = false := by simpa using e2
          have ih := t_eat_L hm hk l (pre ++ [b]) a f h S (by rw [hB]; simp) hS hW ha (by simp at hf; omega)
          rw [List.length_append, List.length_singleton] at ih
          obtain ⟨S', i1, i2⟩ := ih
          refine ⟨S', ?_, i2⟩
          simp (disch := omega) only [fX1_eatDown_L16, lt, jn, q_lit, q_bnd, q_cl, q_le, q_lt, q_eq, pk_mul, nI_add, q_sub, q_div, q_pos, q_neg, q_T, q_F, q_max0, q_flg1, q_flg0, q_min, q_min2, q_bit, q_some, h6, hl, h5', ec, el, q_b0, e1', e2', Bool.true_eq_false]
          exact i1
