theorem q_ltn {α β : Type} (e : α) (f : α → β) : lt e f = f e := Eq.trans rfl rfl
theorem t_makeNew (l n : Nat) (T : M2) : ∃ Q, fX2_makeNew (nI l) (nI n) T = some Q ∧ Q 0 0 = nI 1 ∧ Q 1 0 = nI l ∧ Q 2 0 = nI n ∧ ∀ i, i < 40 → Q 3 i = nI 0 := by
  obtain ⟨Q, i1, i2, i3⟩ := t_new_L 40 0 400 (va_up (va_up (va_up T 0 (fun _ => 1)) 1 (fun _ => nI l)) 2 (fun _ => nI n)) (by omega) (by omega)
  have q0 : Q 0 0 = nI 1 := by rw [i2 0 (by decide)]; rfl
  have q1 : Q 1 0 = nI l := by rw [i2 1 (by decide)]; rfl
  have q2 : Q 2 0 = nI n := by rw [i2 2 (by decide)]; rfl
  refine ⟨Q, ?_, q0, q1, q2, fun i hi => by rw [i3, if_pos (by omega)]⟩
  unfold fX2_makeNew
  rw [q_ltn, q_ltn, q_ltn]
  exact i1 _
theorem k_sheet {X : M3} {S : M2} (h : R X S) (x y z : Int32) : ∃ a X' S', fX4_sheet x y z X = some (a, X') ∧ fX5_sheet x y z S = some (a, S') ∧ R X' S' := by
  rcases q_sheet x with ⟨k, hk, rfl, h1⟩ | ⟨-, h1, h2⟩
  · rcases q_lane hk y with ⟨l, hl, rfl, h3, h4⟩ | ⟨-, h3, h4⟩
    · by_cases c1 : z ≤ nI 40
      · by_cases c2 : nI 0 ≤ z
        · obtain ⟨n, hn, rfl⟩ := q_in_40 c1 c2
          obtain ⟨Q, i1, q0, q1, q2, i3⟩ := t_makeNew l n (X (6 + k))
          obtain ⟨S', j1, j2, j3⟩ := m_new_L hk 40 0 400 (va_up (va_up S 20 (upd (S 20) k (nI l))) 21 (upd (S 21) k (nI n))) (by omega) (by omega)
          have s20 : S' 20 = upd (S 20) k (nI l) := j2 20 (by decide)
          have s21 : S' 21 = upd (S 21) k (nI n) := j2 21 (by decide)
          have j3' : ∀ x, S' 22 x = if 40 * k ≤ x ∧ x < 40 * k + 40 then nI 0 else S 22 x := j3
          refine ⟨1, va_up X (6 + k) Q, S', ?_, ?_, h.sheet hk (fun q a1 a2 a3 => ?_) (fun j hj hne => ⟨?_, ?_, fun i hi => ?_⟩) ⟨q0, l, n, hl, hn, q1, ?_, q2, ?_, fun i hi => ?_⟩⟩
          · simp (disch := omega) only [fX4_sheet, lt, jn, q_lit, q_bnd, q_cl, q_le, q_lt, q_eq, pk_mul, nI_add, q_sub, q_div, q_pos, q_neg, q_T, q_F, q_max0, q_flg1, q_flg0, q_min, q_min2, q_bit, q_some, h1, h3, i1]
          · have e1 : va_up S 20 (upd (S 20) k (nI l)) 21 = S 21 := rfl
            simp (disch := omega) only [fX5_sheet, lt, jn, q_lit, q_bnd, q_cl, q_le, q_lt, q_eq, pk_mul, nI_add, q_sub, q_div, q_pos, q_neg, q_T, q_F, q_max0, q_flg1, q_flg0, q_min, q_min2, q_bit, q_some, h4, e1, j1]
          · rw [j2 q a3, q_up, if_neg a2, q_up, if_neg a1]
          · rw [s20, q_ud, if_neg hne]
          · rw [s21, q_ud, if_neg hne]
          · rw [j3', if_neg (by omega)]
          · rw [s20, q_ud, if_pos rfl]
          · rw [s21, q_ud, if_pos rfl]
          · rw [i3 i (by omega), j3', if_pos (by omega)]
        · refine ⟨-14, X, S, ?_, ?_, h⟩
          · simp (disch := omega) only [fX4_sheet, lt, jn, q_lit, q_bnd, q_cl, q_le, q_lt, q_eq, pk_mul, nI_add, q_sub, q_div, q_pos, q_neg, q_T, q_F, q_max0, q_flg1, q_flg0, q_min, q_min2, q_bit, q_some, h1, h3, c1, c2]
          · simp (disch := omega) only [fX5_sheet, lt, jn, q_lit, q_bnd, q_cl, q_le, q_lt, q_eq, pk_mul, nI_add, q_sub, q_div, q_pos, q_neg, q_T, q_F, q_max0, q_flg1, q_flg0, q_min, q_min2, q_bit, q_some, h4, c1, c2]
      · refine ⟨-1, X, S, ?_, ?_, h⟩
        · simp (disch := omega) only [fX4_sheet, lt, jn, q_lit, q_bnd, q_cl, q_le, q_lt, q_eq, pk_mul, nI_add, q_sub, q_div, q_pos, q_neg, q_T, q_F, q_max0, q_flg1, q_flg0, q_min, q_min2, q_bit, q_some, h1, h3, c1]
        · simp (disch := omega) only [fX5_sheet, lt, jn, q_lit, q_bnd, q_cl, q_le, q_lt, q_eq, pk_mul, nI_add, q_sub, q_div, q_pos, q_neg, q_T, q_F, q_max0, q_flg1, q_flg0, q_min, q_min2, q_bit, q_some, h4, c1]
    · refine ⟨-1, X, S, ?_, ?_, h⟩
      · simp (disch := omega) only [fX4_sheet, lt, jn, q_lit, q_bnd, q_cl, q_le, q_lt, q_eq, pk_mul, nI_add, q_sub, q_div, q_pos, q_neg, q_T, q_F, q_max0, q_flg1, q_flg0, q_min, q_min2, q_bit, q_some, h1, h3]
      · simp (disch := omega) only [fX5_sheet, lt, jn, q_lit, q_bnd, q_cl, q_le, q_lt, q_eq, pk_mul, nI_add, q_sub, q_div, q_pos, q_neg, q_T, q_F, q_max0, q_flg1, q_flg0, q_min, q_min2, q_bit, q_some, h4]
  · refine ⟨-1, X, S, ?_, ?_, h⟩
    · simp (disch := omega) only [fX4_sheet, lt, jn, q_lit, q_bnd, q_cl, q_le, q_lt, q_eq, pk_mul, nI_add, q_sub, q_div, q_pos, q_neg, q_T, q_F, q_max0, q_flg1, q_flg0, q_min, q_min2, q_bit, q_some, h1]
    · simp (disch := omega) only [fX5_sheet, lt, jn, q_lit, q_bnd, q_cl, q_le, q_lt, q_eq, pk_mul, nI_add, q_sub, q_div, q_pos, q_neg, q_T, q_F, q_max0, q_flg1, q_flg0, q_min, q_min2, q_bit, q_some, h2]
theorem neg4 (l : Nat) (h : l < 3) : ¬ nI l = -nI 4 := m4_ne l (by omega)
theorem k_lay {X : M3} {S : M2} (h : R X S) (x y z : Int32) : ∃ a X' S', fX4_lay x y z X = some (a, X') ∧ fX5_lay x y z S = some (a, S') ∧ R X' S' := by
  obtain ⟨-, -, hS, -⟩ := id h
  rcases q_sheet x with ⟨k, hk, rfl, h1⟩ | ⟨-, h1, h2⟩
  · have h4 : fX5_isSheet (nI k) (nI 0) = some (nI 1) := by
      rcases q_lane hk (nI 0) with ⟨l, hl, -, -, h4⟩ | ⟨hl, -, -⟩
      · exact h4
      · exact absurd rfl (hl 0 (by omega))
    have hk4 := hS k hk
    rw [sh4_x hk] at hk4
    rcases hk4 with ⟨s0, s20⟩ | ⟨s0, l, n, hl, hn, s1, s20, s2, s21, s3⟩
    · refine ⟨-11, X, S, ?_, ?_, h⟩
      · simp (disch := omega) only [fX4_lay, lt, jn, q_lit, q_bnd, q_cl, q_le, q_lt, q_eq, pk_mul, nI_add, q_sub, q_div, q_pos, q_neg, q_T, q_F, q_max0, q_flg1, q_flg0, q_min, q_min2, q_bit, q_some, h1, s0]
      · have s20' : S 20 k = -nI 4 := s20
        simp (disch := omega) only [fX5_lay, lt, jn, q_lit, q_bnd, q_cl, q_le, q_lt, q_eq, pk_mul, nI_add, q_sub, q_div, q_pos, q_neg, q_T, q_F, q_max0, q_flg1, q_flg0, q_min, q_min2, q_bit, q_some, h4, s20', q_T]
    · have l4 := neg4 l hl
      rcases q_has y n (by omega) with ⟨j, hj, rfl, e1⟩ | ⟨-, e1⟩
      · have key : ∀ v : Int32, R (va_up X (6 + k) (va_up (X (6 + k)) 3 (upd (X (6 + k) 3) j v))) (va_up S 22 (upd (S 22) (40 * k + j) v)) := by
          intro v
          refine h.sheet hk (fun q a1 a2 a3 => ?_) (fun j' hj' hne => ⟨rfl, rfl, fun i hi => ?_⟩) ⟨s0, l, n, hl, hn, s1, s20, s2, s21, fun i hi => ?_⟩
          · rw [q_up, if_neg a3]
          · rw [q_up, if_pos rfl, q_ud, if_neg (by omega)]
          · rw [q_up, if_pos rfl, q_up, if_pos rfl, q_ud, q_ud]
            by_cases e : i = j
            · rw [if_pos e, if_pos (by omega)]
            · rw [if_neg e, if_neg (by omega)]
              exact s3 i hi
        rcases wb_cases hl with rfl | rfl | rfl
        · refine ⟨1, _, _, ?_, ?_, key z.toInt8.toInt32⟩
          · simp (disch := omega) only [fX4_lay, fX2_hasCell, fX2_setCell, lt, jn, q_lit, q_bnd, q_cl, q_le, q_lt, q_eq, pk_mul, nI_add, q_sub, q_div, q_pos, q_neg, q_T, q_F, q_max0, q_flg1, q_flg0, q_min, q_min2, q_bit, q_some, h1, s0, s1, s2, e1, q_win]
          · simp (disch := omega) only [fX5_lay, lt, jn, q_lit, q_bnd, q_cl, q_le, q_lt, q_eq, pk_mul, nI_add, q_sub, q_div, q_pos, q_neg, q_T, q_F, q_max0, q_flg1, q_flg0, q_min, q_min2, q_bit, q_some, q_in_0_127, q_in_0_1, q_in_0_2, q_in_0_3, q_in_0_4, q_in_0_5, q_in_0_9, q_in_0_10, q_in_0_20, q_in_1_20, q_in_48_57, q_in_97_122, q_inB, h4, s20, s21, l4, q_F, e1, q_win]
        · refine ⟨1, _, _, ?_, ?_, key z.toInt16.toInt32⟩
          · simp (disch := omega) only [fX4_lay, fX2_hasCell, fX2_setCell, lt, jn, q_lit, q_bnd, q_cl, q_le, q_lt, q_eq, pk_mul, nI_add, q_sub, q_div, q_pos, q_neg, q_T, q_F, q_max0, q_flg1, q_flg0, q_min, q_min2, q_bit, q_some, h1, s0, s1, s2, e1, q_win]
          · simp (disch := omega) only [fX5_lay, lt, jn, q_lit, q_bnd, q_cl, q_le, q_lt, q_eq, pk_mul, nI_add, q_sub, q_div, q_pos, q_neg, q_T, q_F, q_max0, q_flg1, q_flg0, q_min, q_min2, q_bit, q_some, q_in_0_127, q_in_0_1, q_in_0_2, q_in_0_3, q_in_0_4, q_in_0_5, q_in_0_9, q_in_0_10, q_in_0_20, q_in_1_20, q_in_48_57, q_in_97_122, q_inB, h4, s20, s21, l4, q_F, e1, q_win]
        · refine ⟨1, _, _, ?_, ?_, key z⟩
          · simp (disch := omega) only [fX4_lay, fX2_hasCell, fX2_setCell, lt, jn, q_lit, q_bnd, q_cl, q_le, q_lt, q_eq, pk_mul, nI_add, q_sub, q_div, q_pos, q_neg, q_T, q_F, q_max0, q_flg1, q_flg0, q_min, q_min2, q_bit, q_some, h1, s0, s1, s2, e1, q_win]
          · simp (disch := omega) only [fX5_lay, lt, jn, q_lit, q_bnd, q_cl, q_le, q_lt, q_eq, pk_mul, nI_add, q_sub, q_div, q_pos, q_neg, q_T, q_F, q_max0, q_flg1, q_flg0, q_min, q_min2, q_bit, q_some, q_in_0_127, q_in_0_1, q_in_0_2, q_in_0_3, q_in_0_4, q_in_0_5, q_in_0_9, q_in_0_10, q_in_0_20, q_in_1_20, q_in_48_57, q_in_97_122, q_inB, h4, s20, s21, l4, q_F, e1, q_win]
      · refine ⟨-12, X, S, ?_, ?_, h⟩
        · unfold fX4_lay
          simp (disch := omega) only [fX2_hasCell, lt, q_lit, q_bnd, q_cl, q_eq, q_neg, q_T, q_some, h1, s0, s2, e1]
        · simp (disch := omega) only [fX5_lay, lt, q_lit, q_bnd, q_cl, q_eq, q_neg, q_T, q_some, q_in_0_127, q_in_0_1, q_in_0_2, q_in_0_3, q_in_0_4, q_in_0_5, q_in_0_9, q_in_0_10, q_in_0_20, q_in_1_20, q_in_48_57, q_in_97_122, q_inB, h4, s20, s21, l4, q_F, e1]
  · refine ⟨-1, X, S, ?_, ?_, h⟩
    · simp (disch := omega) only [fX4_lay, lt, jn, q_lit, q_bnd, q_cl, q_le, q_lt, q_eq, pk_mul, nI_add, q_sub, q_div, q_pos, q_neg, q_T, q_F, q_max0, q_flg1, q_flg0, q_min, q_min2, q_bit, q_some, h1]
    · simp (disch := omega) only [fX5_lay, lt, jn, q_lit, q_bnd, q_cl, q_le, q_lt, q_eq, pk_mul, nI_add, q_sub, q_div, q_pos, q_neg, q_T, q_F, q_max0, q_flg1, q_flg0, q_min, q_min2, q_bit, q_some, h2]
