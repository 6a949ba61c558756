theorem R.data {X : M3} {S : M2} (h : R X S) : ∃ N B, WF N B ∧ N 14 0 ≤ 999 ∧ CS N B (X 2) ∧ MS N B (S 0) ∧ S 3 0 = nI (N 0 0) ∧ S 4 0 = nI (N 7 0) ∧ RN N B (X 2) (S 0) (S 3 0) (S 4 0) ∧ RK N (X 0 6 0) (im2 (X 4) (X 5)) (S 0) (S 2) := by
  obtain ⟨⟨N, B, h1, h2⟩, -⟩ := h
  exact ⟨N, B, h1.1, h1.2.1, h1.2.2.1, h1.2.2.2.1, h1.2.2.2.2.1, h1.2.2.2.2.2, h1, h2⟩
theorem RK.st {N N' : NN} {kept : Int32} {im : Nat → M2} {st st' isk : Nat → Int32} (h : RK N kept im st isk) (n0 : N' 0 0 = N 0 0) (n7 : N' 7 0 = N 7 0) (e : ∀ x, 62 ≤ x → st' x = st x) : RK N' kept im st' isk := by
  obtain ⟨kp, k1, k2, k3⟩ := h
  refine ⟨kp, k1, k2, fun k hk => ⟨(k3 k hk).1, fun hb => ?_⟩⟩
  obtain ⟨N2, B2, a1, a2, a3, a4, a5, a6⟩ := (k3 k hk).2 hb
  refine ⟨N2, B2, a1, a2, a3.trans n0.symm, a4.trans n7.symm, a5, ?_⟩
  have : (fun x => st' (62 * (k + 1) + x)) = fun x => st (62 * (k + 1) + x) := funext fun x => e _ (by omega)
  rw [this]
  exact a6
/-- what is now becomes N' and B' -/
theorem R.now {X : M3} {S S' : M2} {N N' : NN} {B' : BB} {Q : M2} (h : R X S) (hK : RK N (X 0 6 0) (im2 (X 4) (X 5)) (S 0) (S 2)) (e3 : S 3 0 = nI (N 0 0)) (e4 : S 4 0 = nI (N 7 0)) (n0 : N' 0 0 = N 0 0) (n7 : N' 7 0 = N 7 0) (hW : WF N' B') (hn : N' 14 0 ≤ 999) (hC : CS N' B' Q) (hM : MS N' B' (S' 0)) (hs : ∀ k, k ≠ 0 → k ≠ 1 → S' k = S k) (h62 : ∀ x, 62 ≤ x → S' 0 x = S 0 x) : R (va_up X 2 Q) S' := by
  obtain ⟨-, h2, h3, h4⟩ := h
  have f2 := hs 2 (by decide) (by decide)
  have f3 := hs 3 (by decide) (by decide)
  have f4 := hs 4 (by decide) (by decide)
  have f11 := hs 11 (by decide) (by decide)
  have f12 := hs 12 (by decide) (by decide)
  have f17 := hs 17 (by decide) (by decide)
  have f20 := hs 20 (by decide) (by decide)
  have f21 := hs 21 (by decide) (by decide)
  have f22 := hs 22 (by decide) (by decide)
  have f23 := hs 23 (by decide) (by decide)
  refine ⟨⟨N', B', ⟨hW, hn, hC, hM, ?_, ?_⟩, ?_⟩, ?_, ?_, ?_⟩
  · rw [f3, n0]; exact e3
  · rw [f4, n7]; exact e4
  · rw [f2]
    exact hK.st n0 n7 h62
  · rw [f11, f12, f17]; exact h2
  · rw [f20, f21, f22]; exact h3
  · rw [f23]; exact h4
theorem u62 {S : M2} {i : Nat} {v : Int32} (h : i < 62) : ∀ x, 62 ≤ x → va_up S 0 (upd (S 0) i v) 0 x = S 0 x := fun x hx => by rw [q_up, if_pos rfl, q_ud, if_neg (by omega)]
theorem us0 {S : M2} {f : Nat → Int32} : ∀ k, k ≠ 0 → k ≠ 1 → va_up S 0 f k = S k := fun k h _ => by rw [q_up, if_neg h]
theorem k_bolt {X : M3} {S : M2} (h : R X S) (x w : Int32) : ∃ a, fX4_bolt x w X = some a ∧ fX5_bolt x w S = some a := by
  obtain ⟨N, B, hW, hn, hC, hM, e3, e4, hN, hK⟩ := h.data
  have w1 := hW.1
  have eb : fX5_isBolt x S = fX1_hasBolt x (X 2) := m_isBolt (e3.trans hC.1.1.symm) x
  rcases t_hasBolt hC.1.1 w1.1 x with ⟨b, hb, rfl, h1⟩ | ⟨-, h1⟩
  · rw [h1] at eb
    obtain ⟨k, i, hk, hi⟩ := hW.2.2.2.2.ex hb
    obtain ⟨g1, g2, g3⟩ := hC.2.1 b hb
    obtain ⟨m1, m2, m3, m4⟩ := hM.2.1 b hb
    obtain ⟨m5, m6⟩ := hM.2.2.2.2 k hk i b hi
    have w4 : N 4 0 < 2 ^ 5 := Nat.lt_of_lt_of_le w1.2.2.1 (Nat.pow_le_pow_right (by decide) w1.1)
    rcases q_within w (a := 0) (b := 5) (by omega) with ⟨j, -, j2, rfl⟩ | ⟨j1, j2⟩
    · rcases (by omega : j = 0 ∨ j = 1 ∨ j = 2 ∨ j = 3 ∨ j = 4 ∨ j = 5) with rfl | rfl | rfl | rfl | rfl | rfl
      · refine ⟨nI (N 1 b), ?_, ?_⟩
        · simp (disch := omega) only [fX4_bolt, lt, jn, q_lit, q_bnd, q_cl, q_le, q_lt, q_eq, pk_mul, nI_add, q_sub, q_div, q_pos, q_neg, q_T, q_F, q_max0, q_flg1, q_flg0, q_min, q_min2, q_bit, q_some, h1, g1]
        · simp (disch := omega) only [fX5_bolt, lt, jn, q_lit, q_bnd, q_cl, q_le, q_lt, q_eq, pk_mul, nI_add, q_sub, q_div, q_pos, q_neg, q_T, q_F, q_max0, q_flg1, q_flg0, q_min, q_min2, q_bit, q_some, q_in_0_127, q_in_0_1, q_in_0_2, q_in_0_3, q_in_0_4, q_in_0_5, q_in_0_9, q_in_0_10, q_in_0_20, q_in_1_20, q_in_48_57, q_in_97_122, q_inB, q_win, eb, m1, Nat.add_zero]
      · refine ⟨nI (N 2 b), ?_, ?_⟩
        · simp (disch := omega) only [fX4_bolt, lt, jn, q_lit, q_bnd, q_cl, q_le, q_lt, q_eq, pk_mul, nI_add, q_sub, q_div, q_pos, q_neg, q_T, q_F, q_max0, q_flg1, q_flg0, q_min, q_min2, q_bit, q_some, h1, g2]
        · simp (disch := omega) only [fX5_bolt, lt, jn, q_lit, q_bnd, q_cl, q_le, q_lt, q_eq, pk_mul, nI_add, q_sub, q_div, q_pos, q_neg, q_T, q_F, q_max0, q_flg1, q_flg0, q_min, q_min2, q_bit, q_some, q_in_0_127, q_in_0_1, q_in_0_2, q_in_0_3, q_in_0_4, q_in_0_5, q_in_0_9, q_in_0_10, q_in_0_20, q_in_1_20, q_in_48_57, q_in_97_122, q_inB, q_win, eb, m2]
      · refine ⟨nI (N 3 b), ?_, ?_⟩
        · simp (disch := omega) only [fX4_bolt, lt, jn, q_lit, q_bnd, q_cl, q_le, q_lt, q_eq, pk_mul, nI_add, q_sub, q_div, q_pos, q_neg, q_T, q_F, q_max0, q_flg1, q_flg0, q_min, q_min2, q_bit, q_some, h1, g3]
        · simp (disch := omega) only [fX5_bolt, lt, jn, q_lit, q_bnd, q_cl, q_le, q_lt, q_eq, pk_mul, nI_add, q_sub, q_div, q_pos, q_neg, q_T, q_F, q_max0, q_flg1, q_flg0, q_min, q_min2, q_bit, q_some, q_in_0_127, q_in_0_1, q_in_0_2, q_in_0_3, q_in_0_4, q_in_0_5, q_in_0_9, q_in_0_10, q_in_0_20, q_in_1_20, q_in_48_57, q_in_97_122, q_inB, q_win, eb, m3]
      · refine ⟨nI ((N 4 0).testBit b).toNat, ?_, ?_⟩
        · simp (disch := omega) only [fX4_bolt, lt, jn, q_lit, q_bnd, q_cl, q_le, q_lt, q_eq, pk_mul, nI_add, q_sub, q_div, q_pos, q_neg, q_T, q_F, q_max0, q_flg1, q_flg0, q_min, q_min2, q_bit, q_some, h1, hC.1.2.1]
        · simp (disch := omega) only [fX5_bolt, lt, jn, q_lit, q_bnd, q_cl, q_le, q_lt, q_eq, pk_mul, nI_add, q_sub, q_div, q_pos, q_neg, q_T, q_F, q_max0, q_flg1, q_flg0, q_min, q_min2, q_bit, q_some, q_in_0_127, q_in_0_1, q_in_0_2, q_in_0_3, q_in_0_4, q_in_0_5, q_in_0_9, q_in_0_10, q_in_0_20, q_in_1_20, q_in_48_57, q_in_97_122, q_inB, q_win, eb, m4]
      · refine ⟨nI k, ?_, ?_⟩
        · simp (disch := omega) only [fX4_bolt, lt, jn, q_lit, q_bnd, q_cl, q_le, q_lt, q_eq, pk_mul, nI_add, q_sub, q_div, q_pos, q_neg, q_T, q_F, q_max0, q_flg1, q_flg0, q_min, q_min2, q_bit, q_some, h1, t_baleOf hC hW hk hi]
        · simp (disch := omega) only [fX5_bolt, lt, jn, q_lit, q_bnd, q_cl, q_le, q_lt, q_eq, pk_mul, nI_add, q_sub, q_div, q_pos, q_neg, q_T, q_F, q_max0, q_flg1, q_flg0, q_min, q_min2, q_bit, q_some, q_in_0_127, q_in_0_1, q_in_0_2, q_in_0_3, q_in_0_4, q_in_0_5, q_in_0_9, q_in_0_10, q_in_0_20, q_in_1_20, q_in_48_57, q_in_97_122, q_inB, q_win, eb, m5]
      · refine ⟨nI i, ?_, ?_⟩
        · simp (disch := omega) only [fX4_bolt, lt, jn, q_lit, q_bnd, q_cl, q_le, q_lt, q_eq, pk_mul, nI_add, q_sub, q_div, q_pos, q_neg, q_T, q_F, q_max0, q_flg1, q_flg0, q_min, q_min2, q_bit, q_some, h1, t_layerOf hC hW hk hi]
        · simp (disch := omega) only [fX5_bolt, lt, jn, q_lit, q_bnd, q_cl, q_le, q_lt, q_eq, pk_mul, nI_add, q_sub, q_div, q_pos, q_neg, q_T, q_F, q_max0, q_flg1, q_flg0, q_min, q_min2, q_bit, q_some, q_in_0_127, q_in_0_1, q_in_0_2, q_in_0_3, q_in_0_4, q_in_0_5, q_in_0_9, q_in_0_10, q_in_0_20, q_in_1_20, q_in_48_57, q_in_97_122, q_inB, q_win, eb, m6]
    · have x0 := j1 0 (by omega) (by omega)
      have x1 := j1 1 (by omega) (by omega)
      have x2 := j1 2 (by omega) (by omega)
      have x3 := j1 3 (by omega) (by omega)
      have x4 := j1 4 (by omega) (by omega)
      have x5 := j1 5 (by omega) (by omega)
      refine ⟨-1, ?_, ?_⟩
      · simp (disch := omega) only [fX4_bolt, lt, jn, q_lit, q_bnd, q_cl, q_le, q_lt, q_eq, pk_mul, nI_add, q_sub, q_div, q_pos, q_neg, q_T, q_F, q_max0, q_flg1, q_flg0, q_min, q_min2, q_bit, q_some, h1, x0, x1, x2, x3, x4, x5]
      · simp (disch := omega) only [fX5_bolt, lt, jn, q_lit, q_bnd, q_cl, q_le, q_lt, q_eq, pk_mul, nI_add, q_sub, q_div, q_pos, q_neg, q_T, q_F, q_max0, q_flg1, q_flg0, q_min, q_min2, q_bit, q_some, q_in_0_127, q_in_0_1, q_in_0_2, q_in_0_3, q_in_0_4, q_in_0_5, q_in_0_9, q_in_0_10, q_in_0_20, q_in_1_20, q_in_48_57, q_in_97_122, q_inB, eb, j2]
  · rw [h1] at eb
    refine ⟨-1, ?_, ?_⟩
    · simp (disch := omega) only [fX4_bolt, lt, jn, q_lit, q_bnd, q_cl, q_le, q_lt, q_eq, pk_mul, nI_add, q_sub, q_div, q_pos, q_neg, q_T, q_F, q_max0, q_flg1, q_flg0, q_min, q_min2, q_bit, q_some, h1]
    · simp (disch := omega) only [fX5_bolt, lt, jn, q_lit, q_bnd, q_cl, q_le, q_lt, q_eq, pk_mul, nI_add, q_sub, q_div, q_pos, q_neg, q_T, q_F, q_max0, q_flg1, q_flg0, q_min, q_min2, q_bit, q_some, eb]
theorem m_lik_L {N : NN} {B : BB} {S0 S : M2} (hS : MA N B S0 S) (hW : WF N B) {m : Nat} (hm : m < N 7 0) (w : Int32) (kk : Int32 → Option (Int32 × M2)) : ∀ d b f : Nat, b + d = N 0 0 → d < f → fX5_moth_L31 (nI m) w S kk f (nI (spBits (spLik N m) b)) (nI b) = kk (nI (spBits (spLik N m) (N 0 0)))
  | 0, b, f + 1, hb, hf => by
    have w1 := hW.1
    have e : b = N 0 0 := by omega
    simp (disch := omega) only [fX5_moth_L31, lt, jn, q_lit, q_bnd, q_cl, q_le, q_lt, q_eq, pk_mul, nI_add, q_sub, q_div, q_pos, q_neg, q_T, q_F, q_max0, q_flg1, q_flg0, q_min, q_min2, q_bit, q_some, hS.n, e]
  | d + 1, b, f + 1, hb, hf => by
    have w1 := hW.1
    have h1 : b < N 0 0 := by omega
    have ih := m_lik_L hS hW hm w kk d (b + 1) f (by omega) (by omega)
    simp (disch := omega) only [fX5_moth_L31, lt, jn, q_lit, q_bnd, q_cl, q_le, q_lt, q_eq, pk_mul, nI_add, q_sub, q_div, q_pos, q_neg, q_T, q_F, q_max0, q_flg1, q_flg0, q_min, q_min2, q_bit, q_some, hS.n, m_likes hS hW hm h1, q_flag, q_orf]
    exact ih
theorem k_moth {X : M3} {S : M2} (h : R X S) (x w : Int32) : ∃ a S', fX4_moth x w X = some a ∧ fX5_moth x w S = some (a, S') ∧ R X S' := by
  obtain ⟨N, B, hW, hn, hC, hM, e3, e4, hN, hK⟩ := h.data
  have w1 := hW.1
  have c7 := hC.1.2.2.1
  have eb : fX5_isMoth x S = fX1_hasMoth x (X 2) := m_isMoth (e4.trans c7.symm) x
  rcases t_hasMoth c7 (by omega) x with ⟨m, hm, rfl, h1⟩ | ⟨-, h1⟩
  · rw [h1] at eb
    obtain ⟨g1, g2, g3, g4⟩ := hC.2.2.1 m hm
    rcases q_within w (a := 0) (b := 5) (by omega) with ⟨j, -, j2, rfl⟩ | ⟨j1, j2⟩
    · obtain ⟨S', i1, i2, -⟩ := hN.starts
      have hR := h.me (ME.ma i2)
      obtain ⟨m1, m2, m3, m4⟩ := i2.2.2.2.2.2.1 m hm
      have lik := fun w kk => m_lik_L i2 hW hm w kk (N 0 0) 0 400 (by omega) (by omega)
      rw [spBits] at lik
      have ea := t_appetite hC hW hm
      have em := m_appetite i2 hW hm
      have el := t_liked hC hW hm
      rcases (by omega : j = 0 ∨ j = 1 ∨ j = 2 ∨ j = 3 ∨ j = 4 ∨ j = 5) with rfl | rfl | rfl | rfl | rfl | rfl
      · refine ⟨nI (N 8 m), S', ?_, ?_, hR⟩
        · simp (disch := omega) only [fX4_moth, fX1_trait, lt, jn, q_lit, q_bnd, q_cl, q_le, q_lt, q_eq, pk_mul, nI_add, q_sub, q_div, q_pos, q_neg, q_T, q_F, q_max0, q_flg1, q_flg0, q_min, q_min2, q_bit, q_some, h1, g1]
        · simp (disch := omega) only [fX5_moth, fX5_mothOf, lt, jn, q_lit, q_bnd, q_cl, q_le, q_lt, q_eq, pk_mul, nI_add, q_sub, q_div, q_pos, q_neg, q_T, q_F, q_max0, q_flg1, q_flg0, q_min, q_min2, q_bit, q_some, q_in_0_127, q_in_0_1, q_in_0_2, q_in_0_3, q_in_0_4, q_in_0_5, q_in_0_9, q_in_0_10, q_in_0_20, q_in_1_20, q_in_48_57, q_in_97_122, q_inB, q_win, eb, i1, lik, m1, Nat.add_zero]
      · refine ⟨nI (N 9 m), S', ?_, ?_, hR⟩
        · simp (disch := omega) only [fX4_moth, fX1_trait, lt, jn, q_lit, q_bnd, q_cl, q_le, q_lt, q_eq, pk_mul, nI_add, q_sub, q_div, q_pos, q_neg, q_T, q_F, q_max0, q_flg1, q_flg0, q_min, q_min2, q_bit, q_some, h1, g2]
        · simp (disch := omega) only [fX5_moth, fX5_mothOf, lt, jn, q_lit, q_bnd, q_cl, q_le, q_lt, q_eq, pk_mul, nI_add, q_sub, q_div, q_pos, q_neg, q_T, q_F, q_max0, q_flg1, q_flg0, q_min, q_min2, q_bit, q_some, q_in_0_127, q_in_0_1, q_in_0_2, q_in_0_3, q_in_0_4, q_in_0_5, q_in_0_9, q_in_0_10, q_in_0_20, q_in_1_20, q_in_48_57, q_in_97_122, q_inB, q_win, eb, i1, lik, m2]
      · refine ⟨nI (N 10 m), S', ?_, ?_, hR⟩
        · simp (disch := omega) only [fX4_moth, fX1_trait, lt, jn, q_lit, q_bnd, q_cl, q_le, q_lt, q_eq, pk_mul, nI_add, q_sub, q_div, q_pos, q_neg, q_T, q_F, q_max0, q_flg1, q_flg0, q_min, q_min2, q_bit, q_some, h1, g3]
        · simp (disch := omega) only [fX5_moth, fX5_mothOf, lt, jn, q_lit, q_bnd, q_cl, q_le, q_lt, q_eq, pk_mul, nI_add, q_sub, q_div, q_pos, q_neg, q_T, q_F, q_max0, q_flg1, q_flg0, q_min, q_min2, q_bit, q_some, q_in_0_127, q_in_0_1, q_in_0_2, q_in_0_3, q_in_0_4, q_in_0_5, q_in_0_9, q_in_0_10, q_in_0_20, q_in_1_20, q_in_48_57, q_in_97_122, q_inB, q_win, eb, i1, lik, m3]
      · refine ⟨nI (N 11 m), S', ?_, ?_, hR⟩
        · simp (disch := omega) only [fX4_moth, fX1_trait, lt, jn, q_lit, q_bnd, q_cl, q_le, q_lt, q_eq, pk_mul, nI_add, q_sub, q_div, q_pos, q_neg, q_T, q_F, q_max0, q_flg1, q_flg0, q_min, q_min2, q_bit, q_some, h1, g4]
        · simp (disch := omega) only [fX5_moth, fX5_mothOf, lt, jn, q_lit, q_bnd, q_cl, q_le, q_lt, q_eq, pk_mul, nI_add, q_sub, q_div, q_pos, q_neg, q_T, q_F, q_max0, q_flg1, q_flg0, q_min, q_min2, q_bit, q_some, q_in_0_127, q_in_0_1, q_in_0_2, q_in_0_3, q_in_0_4, q_in_0_5, q_in_0_9, q_in_0_10, q_in_0_20, q_in_1_20, q_in_48_57, q_in_97_122, q_inB, q_win, eb, i1, lik, m4]
      · refine ⟨nI (spApp N m), S', ?_, ?_, hR⟩
        · simp (disch := omega) only [fX4_moth, fX1_trait, lt, jn, q_lit, q_bnd, q_cl, q_le, q_lt, q_eq, pk_mul, nI_add, q_sub, q_div, q_pos, q_neg, q_T, q_F, q_max0, q_flg1, q_flg0, q_min, q_min2, q_bit, q_some, h1, ea]
        · simp (disch := omega) only [fX5_moth, lt, jn, q_lit, q_bnd, q_cl, q_le, q_lt, q_eq, pk_mul, nI_add, q_sub, q_div, q_pos, q_neg, q_T, q_F, q_max0, q_flg1, q_flg0, q_min, q_min2, q_bit, q_some, q_in_0_127, q_in_0_1, q_in_0_2, q_in_0_3, q_in_0_4, q_in_0_5, q_in_0_9, q_in_0_10, q_in_0_20, q_in_1_20, q_in_48_57, q_in_97_122, q_inB, q_win, eb, i1, lik, em]
      · refine ⟨nI (spBits (spLik N m) (N 0 0)), S', ?_, ?_, hR⟩
        · simp (disch := omega) only [fX4_moth, fX1_trait, lt, jn, q_lit, q_bnd, q_cl, q_le, q_lt, q_eq, pk_mul, nI_add, q_sub, q_div, q_pos, q_neg, q_T, q_F, q_max0, q_flg1, q_flg0, q_min, q_min2, q_bit, q_some, h1, el]
        · simp (disch := omega) only [fX5_moth, lt, jn, q_lit, q_bnd, q_cl, q_le, q_lt, q_eq, pk_mul, nI_add, q_sub, q_div, q_pos, q_neg, q_T, q_F, q_max0, q_flg1, q_flg0, q_min, q_min2, q_bit, q_some, q_in_0_127, q_in_0_1, q_in_0_2, q_in_0_3, q_in_0_4, q_in_0_5, q_in_0_9, q_in_0_10, q_in_0_20, q_in_1_20, q_in_48_57, q_in_97_122, q_inB, q_win, eb, i1, lik]
    · have x0 := j1 0 (by omega) (by omega)
      have x1 := j1 1 (by omega) (by omega)
      have x2 := j1 2 (by omega) (by omega)
      have x3 := j1 3 (by omega) (by omega)
      have x4 := j1 4 (by omega) (by omega)
      have x5 := j1 5 (by omega) (by omega)
      refine ⟨-1, S, ?_, ?_, h⟩
      · simp (disch := omega) only [fX4_moth, fX1_trait, lt, jn, q_lit, q_bnd, q_cl, q_le, q_lt, q_eq, pk_mul, nI_add, q_sub, q_div, q_pos, q_neg, q_T, q_F, q_max0, q_flg1, q_flg0, q_min, q_min2, q_bit, q_some, h1, x0, x1, x2, x3, x4, x5]
      · simp (disch := omega) only [fX5_moth, lt, jn, q_lit, q_bnd, q_cl, q_le, q_lt, q_eq, pk_mul, nI_add, q_sub, q_div, q_pos, q_neg, q_T, q_F, q_max0, q_flg1, q_flg0, q_min, q_min2, q_bit, q_some, q_in_0_127, q_in_0_1, q_in_0_2, q_in_0_3, q_in_0_4, q_in_0_5, q_in_0_9, q_in_0_10, q_in_0_20, q_in_1_20, q_in_48_57, q_in_97_122, q_inB, eb, j2]
  · rw [h1] at eb
    refine ⟨-1, S, ?_, ?_, h⟩
    · simp (disch := omega) only [fX4_moth, lt, jn, q_lit, q_bnd, q_cl, q_le, q_lt, q_eq, pk_mul, nI_add, q_sub, q_div, q_pos, q_neg, q_T, q_F, q_max0, q_flg1, q_flg0, q_min, q_min2, q_bit, q_some, h1]
    · simp (disch := omega) only [fX5_moth, lt, jn, q_lit, q_bnd, q_cl, q_le, q_lt, q_eq, pk_mul, nI_add, q_sub, q_div, q_pos, q_neg, q_T, q_F, q_max0, q_flg1, q_flg0, q_min, q_min2, q_bit, q_some, eb]
theorem q_win10 (x : Int32) : fX4_within (x - nI 10) (nI 0) (nI 4) = fX4_within x (nI 10) (nI 14) := by
  rcases q_within x (a := 10) (b := 14) (by omega) with ⟨j, j1, j2, rfl⟩ | ⟨j1, j2⟩
  · rw [q_win (by omega), q_sub (by omega), q_win (by omega)]
  · rw [j2]
    rcases q_within (x - nI 10) (a := 0) (b := 4) (by omega) with ⟨i, i1, i2, i3⟩ | ⟨i1, i2⟩
    · have : x = nI (i + 10) := by rw [← nI_add, ← i3, Int32.sub_add_cancel]
      exact absurd this (j1 _ (by omega) (by omega))
    · exact i2
theorem k_bale {X : M3} {S : M2} (h : R X S) (x w : Int32) : ∃ a S', fX4_bale x w X = some a ∧ fX5_bale x w S = some (a, S') ∧ R X S' := by
  obtain ⟨N, B, hW, hn, hC, hM, e3, e4, hN, hK⟩ := h.data
  have w1 := hW.1
  have eb : fX5_isBale x = fX4_isBale x := m_isBale x
  rcases t_isBale x with ⟨k, hk, rfl, h1⟩ | ⟨-, h1⟩
  · rw [h1] at eb
    obtain ⟨S', i1, i2, -⟩ := hN.starts
    have hR := h.me (ME.ma i2)
    have h6 := (hC.2.2.2.2 k hk).1
    have le := hW.2.2.2.2.le hk
    by_cases w0 : w = nI 0
    · subst w0
      refine ⟨nI (B k).length, S', ?_, ?_, hR⟩
      · simp (disch := omega) only [fX4_bale, lt, jn, q_lit, q_bnd, q_cl, q_le, q_lt, q_eq, pk_mul, nI_add, q_sub, q_div, q_pos, q_neg, q_T, q_F, q_max0, q_flg1, q_flg0, q_min, q_min2, q_bit, q_some, h1, h6]
      · simp (disch := omega) only [fX5_bale, lt, jn, q_lit, q_bnd, q_cl, q_le, q_lt, q_eq, pk_mul, nI_add, q_sub, q_div, q_pos, q_neg, q_T, q_F, q_max0, q_flg1, q_flg0, q_min, q_min2, q_bit, q_some, eb, i1, m_lies i2 hW hk]
    · by_cases w2 : w = nI 1
      · subst w2
        refine ⟨nI (spDuty (N 3) 0 (B k) * N 13 0), S', ?_, ?_, hR⟩
        · simp (disch := omega) only [fX4_bale, lt, jn, q_lit, q_bnd, q_cl, q_le, q_lt, q_eq, pk_mul, nI_add, q_sub, q_div, q_pos, q_neg, q_T, q_F, q_max0, q_flg1, q_flg0, q_min, q_min2, q_bit, q_some, h1, t_duty hC hW hk]
        · simp (disch := omega) only [fX5_bale, lt, jn, q_lit, q_bnd, q_cl, q_le, q_lt, q_eq, pk_mul, nI_add, q_sub, q_div, q_pos, q_neg, q_T, q_F, q_max0, q_flg1, q_flg0, q_min, q_min2, q_bit, q_some, eb, i1, m_duty i2 hW hk]
      · rcases q_within w (a := 10) (b := 14) (by omega) with ⟨j, j1, j2, rfl⟩ | ⟨j1, j2⟩
        · by_cases hj : (B k).length ≤ j - 10
          · have hno : (B k)[j - 10]? = none := List.getElem?_eq_none hj
            refine ⟨-4, S', ?_, ?_, hR⟩
            · simp (disch := omega) only [fX4_bale, lt, jn, q_lit, q_bnd, q_cl, q_le, q_lt, q_eq, pk_mul, nI_add, q_sub, q_div, q_pos, q_neg, q_T, q_F, q_max0, q_flg1, q_flg0, q_min, q_min2, q_bit, q_some, h1, q_win, h6]
            · simp (disch := omega) only [fX5_bale, lt, jn, q_lit, q_bnd, q_cl, q_le, q_lt, q_eq, pk_mul, nI_add, q_sub, q_div, q_pos, q_neg, q_T, q_F, q_max0, q_flg1, q_flg0, q_min, q_min2, q_bit, q_some, q_in_0_127, q_in_0_1, q_in_0_2, q_in_0_3, q_in_0_4, q_in_0_5, q_in_0_9, q_in_0_10, q_in_0_20, q_in_1_20, q_in_48_57, q_in_97_122, q_inB, q_win, eb, i1]
              rw [m_boltNo i2 hW hk (by omega) hno]
              rfl
          · obtain ⟨b, hb⟩ : ∃ b, (B k)[j - 10]? = some b := ⟨_, List.getElem?_eq_getElem (by omega)⟩
            have h5 := (hC.2.2.2.2 k hk).2 _ b hb
            refine ⟨nI b, S', ?_, ?_, hR⟩
            · simp (disch := omega) only [fX4_bale, lt, jn, q_lit, q_bnd, q_cl, q_le, q_lt, q_eq, pk_mul, nI_add, q_sub, q_div, q_pos, q_neg, q_T, q_F, q_max0, q_flg1, q_flg0, q_min, q_min2, q_bit, q_some, h1, q_win, h6, h5]
            · simp (disch := omega) only [fX5_bale, lt, jn, q_lit, q_bnd, q_cl, q_le, q_lt, q_eq, pk_mul, nI_add, q_sub, q_div, q_pos, q_neg, q_T, q_F, q_max0, q_flg1, q_flg0, q_min, q_min2, q_bit, q_some, q_in_0_127, q_in_0_1, q_in_0_2, q_in_0_3, q_in_0_4, q_in_0_5, q_in_0_9, q_in_0_10, q_in_0_20, q_in_1_20, q_in_48_57, q_in_97_122, q_inB, q_win, eb, i1, m_boltAt i2 hW hk hb]
        · have j3 := q_win10 w
          rw [j2] at j3
          refine ⟨-1, S', ?_, ?_, hR⟩
          · simp (disch := omega) only [fX4_bale, lt, jn, q_lit, q_bnd, q_cl, q_le, q_lt, q_eq, pk_mul, nI_add, q_sub, q_div, q_pos, q_neg, q_T, q_F, q_max0, q_flg1, q_flg0, q_min, q_min2, q_bit, q_some, h1, w0, w2, j2]
          · simp (disch := omega) only [fX5_bale, lt, jn, q_lit, q_bnd, q_cl, q_le, q_lt, q_eq, pk_mul, nI_add, q_sub, q_div, q_pos, q_neg, q_T, q_F, q_max0, q_flg1, q_flg0, q_min, q_min2, q_bit, q_some, q_in_0_127, q_in_0_1, q_in_0_2, q_in_0_3, q_in_0_4, q_in_0_5, q_in_0_9, q_in_0_10, q_in_0_20, q_in_1_20, q_in_48_57, q_in_97_122, q_inB, eb, i1, w0, w2, j3]
  · rw [h1] at eb
    refine ⟨-1, S, ?_, ?_, h⟩
    · simp (disch := omega) only [fX4_bale, lt, jn, q_lit, q_bnd, q_cl, q_le, q_lt, q_eq, pk_mul, nI_add, q_sub, q_div, q_pos, q_neg, q_T, q_F, q_max0, q_flg1, q_flg0, q_min, q_min2, q_bit, q_some, h1]
    · simp (disch := omega) only [fX5_bale, lt, jn, q_lit, q_bnd, q_cl, q_le, q_lt, q_eq, pk_mul, nI_add, q_sub, q_div, q_pos, q_neg, q_T, q_F, q_max0, q_flg1, q_flg0, q_min, q_min2, q_bit, q_some, eb]
theorem k_fold {X : M3} {S : M2} (h : R X S) (x y : Int32) : ∃ a X' S', fX4_fold x y X = some (a, X') ∧ fX5_fold x y S = some (a, S') ∧ R X' S' := by
  obtain ⟨N, B, hW, hn, hC, hM, e3, e4, hN, hK⟩ := h.data
  have w1 := hW.1
  have eb : fX5_isBolt x S = fX1_hasBolt x (X 2) := m_isBolt (e3.trans hC.1.1.symm) x
  have ek : fX5_isBale y = fX4_isBale y := m_isBale y
  rcases t_hasBolt hC.1.1 w1.1 x with ⟨b, hb, rfl, h1⟩ | ⟨-, h1⟩
  · rw [h1] at eb
    rcases t_isBale y with ⟨k2, hk2, rfl, h2⟩ | ⟨-, h2⟩
    · rw [h2] at ek
      obtain ⟨k, i, hk, hi⟩ := hW.2.2.2.2.ex hb
      obtain ⟨Q, q1, q2, q3⟩ := t_putOnTop hC hW hk hk2 hi
      obtain ⟨S1, i1, i2, -⟩ := hN.starts
      obtain ⟨S2, j1, j2⟩ := m_folds i2 hW hk hk2 hi true
      rw [if_pos rfl] at j2
      obtain ⟨S3, l1, l2, l3, l4, l5⟩ := m_settles j2 q3
      have l3' : S3 3 0 = nI (N 0 0) := by rw [l2 3 (by decide) (by decide)]; exact e3
      have l4' : S3 4 0 = nI (N 7 0) := by rw [l2 4 (by decide) (by decide)]; exact e4
      have hl := m_lies (S0 := S3) (S := S3) ⟨fun _ _ => rfl, l3', l4', l4⟩ q3 hk2
      refine ⟨nI (spTop (spTake B k i) k2 b k2).length, va_up X 2 Q, S3, ?_, ?_, h.now hK e3 e4 rfl rfl q3 hn q2 l3 l2 l5⟩
      · have h6 := (q2.2.2.2.2 k2 hk2).1
        simp (disch := omega) only [fX4_fold, lt, jn, q_lit, q_bnd, q_cl, q_le, q_lt, q_eq, pk_mul, nI_add, q_sub, q_div, q_pos, q_neg, q_T, q_F, q_max0, q_flg1, q_flg0, q_min, q_min2, q_bit, q_some, h1, h2, q1, q_up, h6]
      · simp (disch := omega) only [fX5_fold, fX5_folded, lt, jn, q_lit, q_bnd, q_cl, q_le, q_lt, q_eq, pk_mul, nI_add, q_sub, q_div, q_pos, q_neg, q_T, q_F, q_max0, q_flg1, q_flg0, q_min, q_min2, q_bit, q_some, eb, ek, i1]
        have j1' : fX5_folds (nI b) (nI k2) (nI 1) S1 = some S2 := j1
        simp (disch := omega) only [lt, jn, q_lit, q_bnd, q_cl, q_le, q_lt, q_eq, pk_mul, nI_add, q_sub, q_div, q_pos, q_neg, q_T, q_F, q_max0, q_flg1, q_flg0, q_min, q_min2, q_bit, q_some, j1', l1, hl]
    · rw [h2] at ek
      refine ⟨-1, X, S, ?_, ?_, h⟩
      · simp (disch := omega) only [fX4_fold, lt, jn, q_lit, q_bnd, q_cl, q_le, q_lt, q_eq, pk_mul, nI_add, q_sub, q_div, q_pos, q_neg, q_T, q_F, q_max0, q_flg1, q_flg0, q_min, q_min2, q_bit, q_some, h1, h2]
      · simp (disch := omega) only [fX5_fold, fX5_folded, lt, jn, q_lit, q_bnd, q_cl, q_le, q_lt, q_eq, pk_mul, nI_add, q_sub, q_div, q_pos, q_neg, q_T, q_F, q_max0, q_flg1, q_flg0, q_min, q_min2, q_bit, q_some, eb, ek]
  · rw [h1] at eb
    refine ⟨-1, X, S, ?_, ?_, h⟩
    · simp (disch := omega) only [fX4_fold, lt, jn, q_lit, q_bnd, q_cl, q_le, q_lt, q_eq, pk_mul, nI_add, q_sub, q_div, q_pos, q_neg, q_T, q_F, q_max0, q_flg1, q_flg0, q_min, q_min2, q_bit, q_some, h1]
    · simp (disch := omega) only [fX5_fold, fX5_folded, lt, jn, q_lit, q_bnd, q_cl, q_le, q_lt, q_eq, pk_mul, nI_add, q_sub, q_div, q_pos, q_neg, q_T, q_F, q_max0, q_flg1, q_flg0, q_min, q_min2, q_bit, q_some, eb]
theorem k_under {X : M3} {S : M2} (h : R X S) (x y : Int32) : ∃ a X' S', fX4_under x y X = some (a, X') ∧ fX5_under x y S = some (a, S') ∧ R X' S' := by
  obtain ⟨N, B, hW, hn, hC, hM, e3, e4, hN, hK⟩ := h.data
  have w1 := hW.1
  have eb : fX5_isBolt x S = fX1_hasBolt x (X 2) := m_isBolt (e3.trans hC.1.1.symm) x
  have ek : fX5_isBale y = fX4_isBale y := m_isBale y
  rcases t_hasBolt hC.1.1 w1.1 x with ⟨b, hb, rfl, h1⟩ | ⟨-, h1⟩
  · rw [h1] at eb
    rcases t_isBale y with ⟨k2, hk2, rfl, h2⟩ | ⟨-, h2⟩
    · rw [h2] at ek
      obtain ⟨k, i, hk, hi⟩ := hW.2.2.2.2.ex hb
      obtain ⟨Q0, Q, q0, q1, q2, q3⟩ := t_under hC hW hk hk2 hi
      obtain ⟨S1, i1, i2, -⟩ := hN.starts
      obtain ⟨S2, j1, j2⟩ := m_folds i2 hW hk hk2 hi false
      rw [if_neg (by decide)] at j2
      obtain ⟨S3, l1, l2, l3, l4, l5⟩ := m_settles j2 q3
      have l3' : S3 3 0 = nI (N 0 0) := by rw [l2 3 (by decide) (by decide)]; exact e3
      have l4' : S3 4 0 = nI (N 7 0) := by rw [l2 4 (by decide) (by decide)]; exact e4
      have hl := m_lies (S0 := S3) (S := S3) ⟨fun _ _ => rfl, l3', l4', l4⟩ q3 hk2
      refine ⟨nI (spBot (spTake B k i) k2 b k2).length, va_up X 2 Q, S3, ?_, ?_, h.now hK e3 e4 rfl rfl q3 hn q2 l3 l2 l5⟩
      · have h6 := (q2.2.2.2.2 k2 hk2).1
        simp (disch := omega) only [fX4_under, lt, jn, q_lit, q_bnd, q_cl, q_le, q_lt, q_eq, pk_mul, nI_add, q_sub, q_div, q_pos, q_neg, q_T, q_F, q_max0, q_flg1, q_flg0, q_min, q_min2, q_bit, q_some, h1, h2, q0, q_up, q1, h6, up_up]
      · simp (disch := omega) only [fX5_under, fX5_folded, lt, jn, q_lit, q_bnd, q_cl, q_le, q_lt, q_eq, pk_mul, nI_add, q_sub, q_div, q_pos, q_neg, q_T, q_F, q_max0, q_flg1, q_flg0, q_min, q_min2, q_bit, q_some, eb, ek, i1]
        have j1' : fX5_folds (nI b) (nI k2) (nI 0) S1 = some S2 := j1
        simp (disch := omega) only [lt, jn, q_lit, q_bnd, q_cl, q_le, q_lt, q_eq, pk_mul, nI_add, q_sub, q_div, q_pos, q_neg, q_T, q_F, q_max0, q_flg1, q_flg0, q_min, q_min2, q_bit, q_some, j1', l1, hl]
    · rw [h2] at ek
      refine ⟨-1, X, S, ?_, ?_, h⟩
      · simp (disch := omega) only [fX4_under, lt, jn, q_lit, q_bnd, q_cl, q_le, q_lt, q_eq, pk_mul, nI_add, q_sub, q_div, q_pos, q_neg, q_T, q_F, q_max0, q_flg1, q_flg0, q_min, q_min2, q_bit, q_some, h1, h2]
      · simp (disch := omega) only [fX5_under, fX5_folded, lt, jn, q_lit, q_bnd, q_cl, q_le, q_lt, q_eq, pk_mul, nI_add, q_sub, q_div, q_pos, q_neg, q_T, q_F, q_max0, q_flg1, q_flg0, q_min, q_min2, q_bit, q_some, eb, ek]
  · rw [h1] at eb
    refine ⟨-1, X, S, ?_, ?_, h⟩
    · simp (disch := omega) only [fX4_under, lt, jn, q_lit, q_bnd, q_cl, q_le, q_lt, q_eq, pk_mul, nI_add, q_sub, q_div, q_pos, q_neg, q_T, q_F, q_max0, q_flg1, q_flg0, q_min, q_min2, q_bit, q_some, h1]
    · simp (disch := omega) only [fX5_under, fX5_folded, lt, jn, q_lit, q_bnd, q_cl, q_le, q_lt, q_eq, pk_mul, nI_add, q_sub, q_div, q_pos, q_neg, q_T, q_F, q_max0, q_flg1, q_flg0, q_min, q_min2, q_bit, q_some, eb]
