/-! the relation of the two states -/
def RN (N : NN) (B : BB) (X2 : M2) (r : Nat → Int32) (s3 s4 : Int32) : Prop := WF N B ∧ N 14 0 ≤ 999 ∧ CS N B X2 ∧ MS N B r ∧ s3 = nI (N 0 0) ∧ s4 = nI (N 7 0)
def RK (N : NN) (kept : Int32) (im : Nat → M2) (st : Nat → Int32) (isk : Nat → Int32) : Prop := ∃ kp : Nat, kp < 4 ∧ kept = nI kp ∧ ∀ k, k < 2 → isk k = nI (kp.testBit k).toNat ∧ (kp.testBit k = true → ∃ (N' : NN) (B' : BB), WF N' B' ∧ N' 14 0 ≤ 999 ∧ N' 0 0 = N 0 0 ∧ N' 7 0 = N 7 0 ∧ CS N' B' (im k) ∧ MS N' B' (fun x => st (62 * (k + 1) + x)))
def im2 (a b : M2) (k : Nat) : M2 := if k = 0 then a else b
def sh4 (a b c d : M2) (k : Nat) : M2 := if k = 0 then a else if k = 1 then b else if k = 2 then c else d
theorem im2_x {X : M3} {k : Nat} (h : k < 2) : im2 (X 4) (X 5) k = X (4 + k) := by
  rcases (by omega : k = 0 ∨ k = 1) with rfl | rfl <;> rfl
theorem sh4_x {X : M3} {k : Nat} (h : k < 4) : sh4 (X 6) (X 7) (X 8) (X 9) k = X (6 + k) := by
  rcases (by omega : k = 0 ∨ k = 1 ∨ k = 2 ∨ k = 3) with rfl | rfl | rfl | rfl <;> rfl
def RT (T : M2) (tp : Nat → Int32) (s12 s17 : Int32) : Prop := (∃ n, n ≤ 160 ∧ T 1 0 = nI n ∧ s12 = nI n ∧ ∀ i, i < n → ∃ c, c < 128 ∧ T 0 i = nI c ∧ tp i = nI c) ∧ T 2 0 = s17
def RS (sh : Nat → M2) (lanes sizes cells : Nat → Int32) : Prop := ∀ k, k < 4 → (sh k 0 0 = nI 0 ∧ lanes k = -4) ∨ (sh k 0 0 = nI 1 ∧ ∃ l n : Nat, l < 3 ∧ n ≤ 40 ∧ sh k 1 0 = nI l ∧ lanes k = nI l ∧ sh k 2 0 = nI n ∧ sizes k = nI n ∧ ∀ i, i < n → sh k 3 i = cells (40 * k + i))
def R (X : M3) (S : M2) : Prop := (∃ N B, RN N B (X 2) (S 0) (S 3 0) (S 4 0) ∧ RK N (X 0 6 0) (im2 (X 4) (X 5)) (S 0) (S 2)) ∧ RT (X 1) (S 11) (S 12 0) (S 17 0) ∧ RS (sh4 (X 6) (X 7) (X 8) (X 9)) (S 20) (S 21) (S 22) ∧ X 0 7 0 = S 23 0
theorem R.me {X : M3} {S S' : M2} (h : R X S) (e : ME S S') : R X S' := by
  have e0 := e 0 (by decide)
  have e2 := e 2 (by decide)
  have e3 := e 3 (by decide)
  have e4 := e 4 (by decide)
  have e11 := e 11 (by decide)
  have e12 := e 12 (by decide)
  have e17 := e 17 (by decide)
  have e20 := e 20 (by decide)
  have e21 := e 21 (by decide)
  have e22 := e 22 (by decide)
  have e23 := e 23 (by decide)
  unfold R at h ⊢
  rw [e0, e2, e3, e4, e11, e12, e17, e20, e21, e22, e23]
  exact h
theorem R.xe {X X' : M3} {S : M2} (h : R X S) (e : ∀ k, k ≠ 3 → k ≠ 10 → k ≠ 11 → X' k = X k) : R X' S := by
  have e0 := e 0 (by decide) (by decide) (by decide)
  have e1 := e 1 (by decide) (by decide) (by decide)
  have e2 := e 2 (by decide) (by decide) (by decide)
  have e4 := e 4 (by decide) (by decide) (by decide)
  have e5 := e 5 (by decide) (by decide) (by decide)
  have e6 := e 6 (by decide) (by decide) (by decide)
  have e7 := e 7 (by decide) (by decide) (by decide)
  have e8 := e 8 (by decide) (by decide) (by decide)
  have e9 := e 9 (by decide) (by decide) (by decide)
  unfold R at h ⊢
  rw [e0, e1, e2, e4, e5, e6, e7, e8, e9]
  exact h
theorem ME.ma {N : NN} {B : BB} {S0 S : M2} (h : MA N B S0 S) : ME S0 S := h.1
theorem xe3 {X : M3} {q : M2} : ∀ k, k ≠ 3 → k ≠ 10 → k ≠ 11 → va_up X 3 q k = X k := fun k h _ _ => by rw [q_up, if_neg h]
/-- from the model's state between two calls -/
theorem RN.starts {N : NN} {B : BB} {X2 : M2} {S : M2} (h : RN N B X2 (S 0) (S 3 0) (S 4 0)) : ∃ S', fX5_starts S = some S' ∧ MA N B S S' ∧ SN N S' := by
  obtain ⟨S', i1, i2⟩ := m_starts (S0 := S) (S := S) (fun _ _ => rfl) h.2.2.2.2.1 h.2.2.2.2.2 h.2.2.2.1 h.1
  refine ⟨S', i1, i2, ?_, fun i hi => ?_⟩
  · rw [i2.1 0 (by decide)]
    exact h.2.2.2.1.1.2.2.2
  · rw [i2.1 0 (by decide)]
    exact h.2.2.2.1.2.2.2.1 i hi
/-! calls -/
theorem k_feed {X : M3} {S : M2} (h : R X S) (x : Int32) : ∃ a X' S', fX4_feed x X = some (a, X') ∧ fX5_feed x S = some (a, S') ∧ R X' S' := by
  obtain ⟨h1, ⟨⟨n, n1, n2, n3, n4⟩, h2⟩, h3, h4⟩ := id h
  rcases q_within x (a := 0) (b := 127) (by omega) with ⟨j, j1, j2, rfl⟩ | ⟨j1, j2⟩
  · by_cases hn : n < 160
    · refine ⟨nI (n + 1), va_up X 1 (va_up (va_up (X 1) 0 (upd (X 1 0) n (nI j))) 1 (fun _ => nI (n + 1))), va_up (va_up S 11 (upd (S 11) n (nI j))) 12 (fun _ => nI (n + 1)), ?_, ?_, ?_⟩
      · simp (disch := omega) only [fX4_feed, q_win, lt, jn, q_lit, q_bnd, q_cl, q_le, q_lt, q_eq, pk_mul, nI_add, q_sub, q_div, q_pos, q_neg, q_T, q_F, q_max0, q_flg1, q_flg0, q_min, q_min2, q_bit, q_some, n2, q_up, up_up]
      · simp (disch := omega) only [fX5_feed, q_in_0_127, q_in_0_1, q_in_0_2, q_in_0_3, q_in_0_4, q_in_0_5, q_in_0_9, q_in_0_10, q_in_0_20, q_in_1_20, q_in_48_57, q_in_97_122, q_inB, q_win, lt, jn, q_lit, q_bnd, q_cl, q_le, q_lt, q_eq, pk_mul, nI_add, q_sub, q_div, q_pos, q_neg, q_T, q_F, q_max0, q_flg1, q_flg0, q_min, q_min2, q_bit, q_some, n3, q_up]
      · refine ⟨h1, ⟨⟨n + 1, by omega, rfl, rfl, fun i hi => ?_⟩, h2⟩, h3, h4⟩
        show ∃ c, c < 128 ∧ upd (X 1 0) n (nI j) i = nI c ∧ upd (S 11) n (nI j) i = nI c
        rw [q_ud, q_ud]
        by_cases e : i = n
        · rw [if_pos e, if_pos e]
          exact ⟨j, by omega, rfl, rfl⟩
        · rw [if_neg e, if_neg e]
          exact n4 i (by omega)
    · refine ⟨-3, X, S, ?_, ?_, h⟩
      · simp (disch := omega) only [fX4_feed, q_win, lt, jn, q_lit, q_bnd, q_cl, q_le, q_lt, q_eq, pk_mul, nI_add, q_sub, q_div, q_pos, q_neg, q_T, q_F, q_max0, q_flg1, q_flg0, q_min, q_min2, q_bit, q_some, n2]
      · simp (disch := omega) only [fX5_feed, q_in_0_127, q_in_0_1, q_in_0_2, q_in_0_3, q_in_0_4, q_in_0_5, q_in_0_9, q_in_0_10, q_in_0_20, q_in_1_20, q_in_48_57, q_in_97_122, q_inB, q_win, lt, jn, q_lit, q_bnd, q_cl, q_le, q_lt, q_eq, pk_mul, nI_add, q_sub, q_div, q_pos, q_neg, q_T, q_F, q_max0, q_flg1, q_flg0, q_min, q_min2, q_bit, q_some, n3]
  · refine ⟨-1, X, S, ?_, ?_, h⟩
    · simp (disch := omega) only [fX4_feed, lt, jn, q_lit, q_bnd, q_cl, q_le, q_lt, q_eq, pk_mul, nI_add, q_sub, q_div, q_pos, q_neg, q_T, q_F, q_max0, q_flg1, q_flg0, q_min, q_min2, q_bit, q_some, j2]
    · simp (disch := omega) only [fX5_feed, q_in_0_127, q_in_0_1, q_in_0_2, q_in_0_3, q_in_0_4, q_in_0_5, q_in_0_9, q_in_0_10, q_in_0_20, q_in_1_20, q_in_48_57, q_in_97_122, q_inB, lt, jn, q_lit, q_bnd, q_cl, q_le, q_lt, q_eq, pk_mul, nI_add, q_sub, q_div, q_pos, q_neg, q_T, q_F, q_max0, q_flg1, q_flg0, q_min, q_min2, q_bit, q_some, j2]
theorem k_end {X : M3} {S : M2} (h : R X S) (x : Int32) : ∃ a X' S', fX4_end x X = some (a, X') ∧ fX5_end x S = some (a, S') ∧ R X' S' := by
  obtain ⟨h1, ⟨⟨n, n1, n2, n3, n4⟩, h2⟩, h3, h4⟩ := id h
  rcases q_within x (a := 0) (b := n) (by omega) with ⟨j, j1, j2, rfl⟩ | ⟨j1, j2⟩
  · refine ⟨nI n, va_up X 1 (va_up (X 1) 1 (fun _ => nI j)), va_up S 12 (fun _ => nI j), ?_, ?_, h1, ⟨⟨j, by omega, rfl, rfl, fun i hi => n4 i (by omega)⟩, h2⟩, h3, h4⟩
    · simp (disch := omega) only [fX4_end, q_win, lt, jn, q_lit, q_bnd, q_cl, q_le, q_lt, q_eq, pk_mul, nI_add, q_sub, q_div, q_pos, q_neg, q_T, q_F, q_max0, q_flg1, q_flg0, q_min, q_min2, q_bit, q_some, n2]
    · simp (disch := omega) only [fX5_end, q_in_0_127, q_in_0_1, q_in_0_2, q_in_0_3, q_in_0_4, q_in_0_5, q_in_0_9, q_in_0_10, q_in_0_20, q_in_1_20, q_in_48_57, q_in_97_122, q_inB, q_win, lt, jn, q_lit, q_bnd, q_cl, q_le, q_lt, q_eq, pk_mul, nI_add, q_sub, q_div, q_pos, q_neg, q_T, q_F, q_max0, q_flg1, q_flg0, q_min, q_min2, q_bit, q_some, n3]
  · refine ⟨-1, X, S, ?_, ?_, h⟩
    · simp (disch := omega) only [fX4_end, lt, jn, q_lit, q_bnd, q_cl, q_le, q_lt, q_eq, pk_mul, nI_add, q_sub, q_div, q_pos, q_neg, q_T, q_F, q_max0, q_flg1, q_flg0, q_min, q_min2, q_bit, q_some, n2, j2]
    · simp (disch := omega) only [fX5_end, q_in_0_127, q_in_0_1, q_in_0_2, q_in_0_3, q_in_0_4, q_in_0_5, q_in_0_9, q_in_0_10, q_in_0_20, q_in_1_20, q_in_48_57, q_in_97_122, q_inB, lt, jn, q_lit, q_bnd, q_cl, q_le, q_lt, q_eq, pk_mul, nI_add, q_sub, q_div, q_pos, q_neg, q_T, q_F, q_max0, q_flg1, q_flg0, q_min, q_min2, q_bit, q_some, n3, j2]
theorem k_fault {X : M3} {S : M2} (h : R X S) : ∃ a, fX4_fault X = some a ∧ fX5_fault S = some a := ⟨_, rfl, by unfold fX5_fault; rw [← h.2.1.2]⟩
theorem k_torn {X : M3} {S : M2} (h : R X S) : ∃ a, fX4_torn X = some a ∧ fX5_torn S = some a := ⟨_, rfl, by unfold fX5_torn; rw [← h.2.2.2]⟩
theorem spBits_at (p : Nat → Bool) (i : Nat) : ∀ n : Nat, (spBits p n).testBit i = (decide (i < n) && p i)
  | 0 => by simp [spBits]
  | n + 1 => by
    rw [spBits]
    by_cases e : p n = true
    · rw [if_pos e, Nat.testBit_or, spBits_at p i n, Nat.testBit_two_pow]
      by_cases e2 : n = i
      · subst e2
        simp [e]
      · have e3 : (i < n + 1) = (i < n) := propext ⟨fun _ => by omega, fun _ => by omega⟩
        simp [e2, e3]
    · rw [if_neg e, spBits_at p i n]
      by_cases e2 : n = i
      · subst e2
        simp [e]
      · have e3 : (i < n + 1) = (i < n) := propext ⟨fun _ => by omega, fun _ => by omega⟩
        simp [e3]
theorem spBits_self {c n : Nat} (h : c < 2 ^ n) : spBits c.testBit n = c := by
  apply Nat.eq_of_testBit_eq
  intro i
  rw [spBits_at]
  by_cases e : i < n
  · simp [e]
  · have : c.testBit i = false := Nat.testBit_lt_two_pow (Nat.lt_of_lt_of_le h (Nat.pow_le_pow_right (by decide) (by omega)))
    simp [e, this]
theorem m_cam_L {N : NN} {B : BB} {S0 S : M2} (hS : MA N B S0 S) (hW : WF N B) (i1 : Int32) (kk : Int32 → Option (Int32 × M2)) : ∀ d b f : Nat, b + d = N 0 0 → d < f → fX5_rule_L8 i1 S kk f (nI (spBits (N 4 0).testBit b)) (nI b) = kk (nI (N 4 0))
  | 0, b, f + 1, hb, hf => by
    have w1 := hW.1
    have e : b = N 0 0 := by omega
    subst e
    rw [spBits_self w1.2.2.1]
    simp (disch := omega) only [fX5_rule_L8, lt, jn, q_lit, q_bnd, q_cl, q_le, q_lt, q_eq, pk_mul, nI_add, q_sub, q_div, q_pos, q_neg, q_T, q_F, q_max0, q_flg1, q_flg0, q_min, q_min2, q_bit, q_some, hS.n]
  | d + 1, b, f + 1, hb, hf => by
    have w1 := hW.1
    have h1 : b < N 0 0 := by omega
    have ih := m_cam_L hS hW i1 kk d (b + 1) f (by omega) (by omega)
    simp (disch := omega) only [fX5_rule_L8, fX5_of, lt, jn, q_lit, q_bnd, q_cl, q_le, q_lt, q_eq, pk_mul, nI_add, q_sub, q_div, q_pos, q_neg, q_T, q_F, q_max0, q_flg1, q_flg0, q_min, q_min2, q_bit, q_some, hS.n, (hS.2.2.2.2.1 b h1).2.2.2, q_orf]
    exact ih
theorem k_rule {X : M3} {S : M2} (h : R X S) (x : Int32) : ∃ a S', fX4_rule x X = some a ∧ fX5_rule x S = some (a, S') ∧ R X S' := by
  obtain ⟨⟨N, B, h1, h2⟩, -⟩ := id h
  obtain ⟨hW, hn, hC, hM, e3, e4⟩ := id h1
  have w1 := hW.1
  obtain ⟨S', i1, i2, -⟩ := h1.starts
  have cam := fun kk => m_cam_L i2 hW x kk (N 0 0) 0 400 (by omega) (by omega)
  rw [spBits] at cam
  have hR := h.me (ME.ma i2)
  have st : S' 0 = S 0 := i2.1 0 (by decide)
  have ee : fX5_eaten S' = some (nI (spBits (spEaten N) (N 0 0))) := m_eaten i2 hW
  have ec : fX1_eatenUp (X 2) = some (nI (spBits (spEaten N) (N 0 0))) := t_eatenUp hC hW
  obtain ⟨c0, c4, c7, c12, c13, c14, c15⟩ := hC.1
  obtain ⟨m46, m47, m48, m49⟩ := hM.1
  rcases q_within x (a := 0) (b := 6) (by omega) with ⟨j, -, j2, rfl⟩ | ⟨j1, -⟩
  · rcases (by omega : j = 0 ∨ j = 1 ∨ j = 2 ∨ j = 3 ∨ j = 4 ∨ j = 5 ∨ j = 6) with rfl | rfl | rfl | rfl | rfl | rfl | rfl
    · refine ⟨nI (N 0 0), S', ?_, ?_, hR⟩
      · simp (disch := omega) only [fX4_rule, lt, jn, q_lit, q_bnd, q_cl, q_le, q_lt, q_eq, pk_mul, nI_add, q_sub, q_div, q_pos, q_neg, q_T, q_F, q_max0, q_flg1, q_flg0, q_min, q_min2, q_bit, q_some, c0]
      · simp (disch := omega) only [fX5_rule, lt, jn, q_lit, q_bnd, q_cl, q_le, q_lt, q_eq, pk_mul, nI_add, q_sub, q_div, q_pos, q_neg, q_T, q_F, q_max0, q_flg1, q_flg0, q_min, q_min2, q_bit, q_some, i1, cam, i2.n]
    · refine ⟨nI (N 7 0), S', ?_, ?_, hR⟩
      · simp (disch := omega) only [fX4_rule, lt, jn, q_lit, q_bnd, q_cl, q_le, q_lt, q_eq, pk_mul, nI_add, q_sub, q_div, q_pos, q_neg, q_T, q_F, q_max0, q_flg1, q_flg0, q_min, q_min2, q_bit, q_some, c7]
      · simp (disch := omega) only [fX5_rule, lt, jn, q_lit, q_bnd, q_cl, q_le, q_lt, q_eq, pk_mul, nI_add, q_sub, q_div, q_pos, q_neg, q_T, q_F, q_max0, q_flg1, q_flg0, q_min, q_min2, q_bit, q_some, i1, cam, i2.m]
    · refine ⟨nI (N 12 0), S', ?_, ?_, hR⟩
      · simp (disch := omega) only [fX4_rule, lt, jn, q_lit, q_bnd, q_cl, q_le, q_lt, q_eq, pk_mul, nI_add, q_sub, q_div, q_pos, q_neg, q_T, q_F, q_max0, q_flg1, q_flg0, q_min, q_min2, q_bit, q_some, c12]
      · simp (disch := omega) only [fX5_rule, lt, jn, q_lit, q_bnd, q_cl, q_le, q_lt, q_eq, pk_mul, nI_add, q_sub, q_div, q_pos, q_neg, q_T, q_F, q_max0, q_flg1, q_flg0, q_min, q_min2, q_bit, q_some, i1, cam, st, Nat.add_sub_cancel, m46]
    · refine ⟨nI (N 13 0), S', ?_, ?_, hR⟩
      · simp (disch := omega) only [fX4_rule, lt, jn, q_lit, q_bnd, q_cl, q_le, q_lt, q_eq, pk_mul, nI_add, q_sub, q_div, q_pos, q_neg, q_T, q_F, q_max0, q_flg1, q_flg0, q_min, q_min2, q_bit, q_some, c13]
      · simp (disch := omega) only [fX5_rule, lt, jn, q_lit, q_bnd, q_cl, q_le, q_lt, q_eq, pk_mul, nI_add, q_sub, q_div, q_pos, q_neg, q_T, q_F, q_max0, q_flg1, q_flg0, q_min, q_min2, q_bit, q_some, i1, cam, st, Nat.reduceAdd, Nat.reduceSub, m47]
    · refine ⟨nI (N 14 0), S', ?_, ?_, hR⟩
      · simp (disch := omega) only [fX4_rule, lt, jn, q_lit, q_bnd, q_cl, q_le, q_lt, q_eq, pk_mul, nI_add, q_sub, q_div, q_pos, q_neg, q_T, q_F, q_max0, q_flg1, q_flg0, q_min, q_min2, q_bit, q_some, c14]
      · simp (disch := omega) only [fX5_rule, lt, jn, q_lit, q_bnd, q_cl, q_le, q_lt, q_eq, pk_mul, nI_add, q_sub, q_div, q_pos, q_neg, q_T, q_F, q_max0, q_flg1, q_flg0, q_min, q_min2, q_bit, q_some, i1, cam, st, Nat.reduceAdd, Nat.reduceSub, m48]
    · refine ⟨nI (N 4 0), S', ?_, ?_, hR⟩
      · simp (disch := omega) only [fX4_rule, lt, jn, q_lit, q_bnd, q_cl, q_le, q_lt, q_eq, pk_mul, nI_add, q_sub, q_div, q_pos, q_neg, q_T, q_F, q_max0, q_flg1, q_flg0, q_min, q_min2, q_bit, q_some, c4]
      · simp (disch := omega) only [fX5_rule, lt, jn, q_lit, q_bnd, q_cl, q_le, q_lt, q_eq, pk_mul, nI_add, q_sub, q_div, q_pos, q_neg, q_T, q_F, q_max0, q_flg1, q_flg0, q_min, q_min2, q_bit, q_some, i1, cam]
    · refine ⟨nI (spBits (spEaten N) (N 0 0)), S', ?_, ?_, hR⟩
      · simp (disch := omega) only [fX4_rule, lt, jn, q_lit, q_bnd, q_cl, q_le, q_lt, q_eq, pk_mul, nI_add, q_sub, q_div, q_pos, q_neg, q_T, q_F, q_max0, q_flg1, q_flg0, q_min, q_min2, q_bit, q_some, ec]
      · simp (disch := omega) only [fX5_rule, lt, jn, q_lit, q_bnd, q_cl, q_le, q_lt, q_eq, pk_mul, nI_add, q_sub, q_div, q_pos, q_neg, q_T, q_F, q_max0, q_flg1, q_flg0, q_min, q_min2, q_bit, q_some, i1, cam, ee]
  · have x0 := j1 0 (by omega) (by omega)
    have x1 := j1 1 (by omega) (by omega)
    have x2 := j1 2 (by omega) (by omega)
    have x3 := j1 3 (by omega) (by omega)
    have x4 := j1 4 (by omega) (by omega)
    have x5 := j1 5 (by omega) (by omega)
    have x6 := j1 6 (by omega) (by omega)
    refine ⟨-1, S', ?_, ?_, hR⟩
    · simp (disch := omega) only [fX4_rule, lt, jn, q_lit, q_bnd, q_cl, q_le, q_lt, q_eq, pk_mul, nI_add, q_sub, q_div, q_pos, q_neg, q_T, q_F, q_max0, q_flg1, q_flg0, q_min, q_min2, q_bit, q_some, x0, x1, x2, x3, x4, x5, x6]
    · simp (disch := omega) only [fX5_rule, lt, jn, q_lit, q_bnd, q_cl, q_le, q_lt, q_eq, pk_mul, nI_add, q_sub, q_div, q_pos, q_neg, q_T, q_F, q_max0, q_flg1, q_flg0, q_min, q_min2, q_bit, q_some, i1, cam, x0, x1, x2, x3, x4, x5, x6]
