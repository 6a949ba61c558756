theorem spNights_0 {N : NN} {B : BB} : ∀ n : Nat, spNights N B n 0 0 = N 0 0 ∧ spNights N B n 7 0 = N 7 0 ∧ spNights N B n 14 0 = N 14 0 + n ∧ spNights N B n 15 = N 15 ∧ spNights N B n 16 = N 16 ∧ spNights N B n 17 = N 17
  | 0 => ⟨rfl, rfl, rfl, rfl, rfl, rfl⟩
  | n + 1 => by
    obtain ⟨h1, h2, h3, h4, h5, h6⟩ := spNights_0 (N := N) (B := B) n
    refine ⟨h1, h2, ?_, h4, h5, h6⟩
    show spNights N B n 14 0 + 1 = _
    omega
theorem t_go_L {X : M3} {N : NN} {B : BB} {n : Nat} (hn : n ≤ 100) : ∀ (d t f : Nat) (Q : M2), t + d = n → d < f → CS (spNights N B t) B Q → WF (spNights N B t) B → ∃ Q', (∀ kk : M3 → Option (Int32 × M3), fX4_go_L32 (nI n) kk f (nI t) (va_up X 2 Q) = kk (va_up X 2 Q')) ∧ CS (spNights N B n) B Q' ∧ WF (spNights N B n) B
  | 0, t, f + 1, Q, ht, hd, hS, hW => by
    have e2 : t = n := by omega
    subst e2
    refine ⟨Q, fun kk => ?_, hS, hW⟩
    simp (disch := omega) only [fX4_go_L32, lt, jn, q_lit, q_bnd, q_cl, q_le, q_lt, q_eq, pk_mul, nI_add, q_sub, q_div, q_pos, q_neg, q_T, q_F, q_max0, q_flg1, q_flg0, q_min, q_min2, q_bit, q_some]
  | d + 1, t, f + 1, Q, ht, hd, hS, hW => by
    obtain ⟨Q1, i1, i2, i3⟩ := t_pass hS hW
    obtain ⟨Q2, j1, j2⟩ := t_go_L (X := X) (N := N) (B := B) hn d (t + 1) f Q1 (by omega) (by omega) i2 i3
    refine ⟨Q2, fun kk => ?_, j2⟩
    simp (disch := omega) only [fX4_go_L32, lt, jn, q_lit, q_bnd, q_cl, q_le, q_lt, q_eq, pk_mul, nI_add, q_sub, q_div, q_pos, q_neg, q_T, q_F, q_max0, q_flg1, q_flg0, q_min, q_min2, q_bit, q_some, q_up, i1, up_up, j1]
theorem t_ahead_L {X : M3} {N : NN} {B : BB} {n : Nat} (hn : n ≤ 100) (w : Int32) : ∀ (d t f : Nat) (Q : M2), t + d = n → d < f → CS (spNights N B t) B Q → WF (spNights N B t) B → ∃ Q', (∀ kk : M3 → Option (Int32 × M3), fX4_ahead_L34 (nI n) w kk f (nI t) (va_up X 3 Q) = kk (va_up X 3 Q')) ∧ CS (spNights N B n) B Q' ∧ WF (spNights N B n) B
  | 0, t, f + 1, Q, ht, hd, hS, hW => by
    have e2 : t = n := by omega
    subst e2
    refine ⟨Q, fun kk => ?_, hS, hW⟩
    simp (disch := omega) only [fX4_ahead_L34, lt, jn, q_lit, q_bnd, q_cl, q_le, q_lt, q_eq, pk_mul, nI_add, q_sub, q_div, q_pos, q_neg, q_T, q_F, q_max0, q_flg1, q_flg0, q_min, q_min2, q_bit, q_some]
  | d + 1, t, f + 1, Q, ht, hd, hS, hW => by
    obtain ⟨Q1, i1, i2, i3⟩ := t_pass hS hW
    obtain ⟨Q2, j1, j2⟩ := t_ahead_L (X := X) (N := N) (B := B) hn w d (t + 1) f Q1 (by omega) (by omega) i2 i3
    refine ⟨Q2, fun kk => ?_, j2⟩
    simp (disch := omega) only [fX4_ahead_L34, lt, jn, q_lit, q_bnd, q_cl, q_le, q_lt, q_eq, pk_mul, nI_add, q_sub, q_div, q_pos, q_neg, q_T, q_F, q_max0, q_flg1, q_flg0, q_min, q_min2, q_bit, q_some, q_up, i1, up_up, j1]
theorem k_go {X : M3} {S : M2} (h : R X S) (x : Int32) : ∃ a X' S', fX4_go x X = some (a, X') ∧ fX5_go x S = some (a, S') ∧ R X' S' := by
  obtain ⟨N, B, hW, hn, hC, hM, e3, e4, hN, hK⟩ := h.data
  rcases q_within x (a := 0) (b := 20) (by omega) with ⟨n, -, j2, rfl⟩ | ⟨-, j2⟩
  · have c14 := hC.1.2.2.2.2.2.1
    have m48 := hM.1.2.2.1
    by_cases e : N 14 0 + n ≤ 999
    · obtain ⟨Q, q1, q2, q3⟩ := t_go_L (X := X) (N := N) (B := B) (n := n) (by omega) n 0 400 (X 2) (by omega) (by omega) hC hW
      rw [up_id] at q1
      obtain ⟨S1, i1, i2, -⟩ := hN.starts
      obtain ⟨S2, j1, j2', j3⟩ := m_nights (n := n) (by omega) i2 hW
      obtain ⟨S3, l1, l2, l3, l4, l5⟩ := m_settles j2' q3
      obtain ⟨z0, z7, z14, -⟩ := spNights_0 (N := N) (B := B) n
      have l3' : S3 3 0 = nI (spNights N B n 0 0) := by rw [l2 3 (by decide) (by decide), z0]; exact e3
      have l4' : S3 4 0 = nI (spNights N B n 7 0) := by rw [l2 4 (by decide) (by decide), z7]; exact e4
      have hd := m_dutyAll (S0 := S3) (S := S3) ⟨fun _ _ => rfl, l3', l4', l4⟩ q3
      have hd2 := t_dutyAll q2 q3
      refine ⟨nI (spAll (spNights N B n) B), va_up X 2 Q, S3, ?_, ?_, h.now hK e3 e4 z0 z7 q3 (by omega) q2 l3 l2 l5⟩
      · simp (disch := omega) only [fX4_go, lt, jn, q_lit, q_bnd, q_cl, q_le, q_lt, q_eq, pk_mul, nI_add, q_sub, q_div, q_pos, q_neg, q_T, q_F, q_max0, q_flg1, q_flg0, q_min, q_min2, q_bit, q_some, q_win, c14, q1, q_up, hd2]
      · simp (disch := omega) only [fX5_go, lt, jn, q_lit, q_bnd, q_cl, q_le, q_lt, q_eq, pk_mul, nI_add, q_sub, q_div, q_pos, q_neg, q_T, q_F, q_max0, q_flg1, q_flg0, q_min, q_min2, q_bit, q_some, q_in_0_127, q_in_0_1, q_in_0_2, q_in_0_3, q_in_0_4, q_in_0_5, q_in_0_9, q_in_0_10, q_in_0_20, q_in_1_20, q_in_48_57, q_in_97_122, q_inB, q_win, m48, i1, j1, l1, hd]
    · refine ⟨-3, X, S, ?_, ?_, h⟩
      · simp (disch := omega) only [fX4_go, lt, jn, q_lit, q_bnd, q_cl, q_le, q_lt, q_eq, pk_mul, nI_add, q_sub, q_div, q_pos, q_neg, q_T, q_F, q_max0, q_flg1, q_flg0, q_min, q_min2, q_bit, q_some, q_win, c14]
      · simp (disch := omega) only [fX5_go, lt, jn, q_lit, q_bnd, q_cl, q_le, q_lt, q_eq, pk_mul, nI_add, q_sub, q_div, q_pos, q_neg, q_T, q_F, q_max0, q_flg1, q_flg0, q_min, q_min2, q_bit, q_some, q_in_0_127, q_in_0_1, q_in_0_2, q_in_0_3, q_in_0_4, q_in_0_5, q_in_0_9, q_in_0_10, q_in_0_20, q_in_1_20, q_in_48_57, q_in_97_122, q_inB, q_win, m48]
  · refine ⟨-1, X, S, ?_, ?_, h⟩
    · simp (disch := omega) only [fX4_go, lt, jn, q_lit, q_bnd, q_cl, q_le, q_lt, q_eq, pk_mul, nI_add, q_sub, q_div, q_pos, q_neg, q_T, q_F, q_max0, q_flg1, q_flg0, q_min, q_min2, q_bit, q_some, j2]
    · simp (disch := omega) only [fX5_go, lt, jn, q_lit, q_bnd, q_cl, q_le, q_lt, q_eq, pk_mul, nI_add, q_sub, q_div, q_pos, q_neg, q_T, q_F, q_max0, q_flg1, q_flg0, q_min, q_min2, q_bit, q_some, q_in_0_127, q_in_0_1, q_in_0_2, q_in_0_3, q_in_0_4, q_in_0_5, q_in_0_9, q_in_0_10, q_in_0_20, q_in_1_20, q_in_48_57, q_in_97_122, q_inB, j2]
theorem k_ahead {X : M3} {S : M2} (h : R X S) (x w : Int32) : ∃ a X' S', fX4_ahead x w X = some (a, X') ∧ fX5_ahead x w S = some (a, S') ∧ R X' S' := by
  obtain ⟨N, B, hW, hn, hC, hM, e3, e4, hN, hK⟩ := h.data
  rcases q_within x (a := 0) (b := 20) (by omega) with ⟨n, -, j2, rfl⟩ | ⟨-, j2⟩
  · rcases q_within w (a := 0) (b := 2) (by omega) with ⟨v, -, v2, rfl⟩ | ⟨-, v2⟩
    · obtain ⟨Q0, c1, c2⟩ := t_copy (X 3) hC hW
      obtain ⟨Q, q1, q2, q3⟩ := t_ahead_L (X := X) (N := N) (B := B) (n := n) (by omega) (nI v) n 0 400 Q0 (by omega) (by omega) c2 hW
      obtain ⟨S1, i1, i2, -⟩ := hN.starts
      obtain ⟨S2, j1, j2', j3⟩ := m_nights (n := n) (by omega) i2 hW
      have hR := (h.xe (X' := va_up X 3 Q) xe3).me (ME.ma j2')
      rcases (by omega : v = 0 ∨ v = 1 ∨ v = 2) with rfl | rfl | rfl
      · refine ⟨nI (spAll (spNights N B n) B), va_up X 3 Q, S2, ?_, ?_, hR⟩
        · simp (disch := omega) only [fX4_ahead, lt, jn, q_lit, q_bnd, q_cl, q_le, q_lt, q_eq, pk_mul, nI_add, q_sub, q_div, q_pos, q_neg, q_T, q_F, q_max0, q_flg1, q_flg0, q_min, q_min2, q_bit, q_some, q_win, c1, q1, q_up, t_dutyAll q2 q3]
        · simp (disch := omega) only [fX5_ahead, lt, jn, q_lit, q_bnd, q_cl, q_le, q_lt, q_eq, pk_mul, nI_add, q_sub, q_div, q_pos, q_neg, q_T, q_F, q_max0, q_flg1, q_flg0, q_min, q_min2, q_bit, q_some, q_in_0_127, q_in_0_1, q_in_0_2, q_in_0_3, q_in_0_4, q_in_0_5, q_in_0_9, q_in_0_10, q_in_0_20, q_in_1_20, q_in_48_57, q_in_97_122, q_inB, q_win, i1, j1, m_dutyAll j2' j3]
      · refine ⟨nI (spSum (spNights N B n 3) (spNights N B n 0 0)), va_up X 3 Q, S2, ?_, ?_, hR⟩
        · simp (disch := omega) only [fX4_ahead, lt, jn, q_lit, q_bnd, q_cl, q_le, q_lt, q_eq, pk_mul, nI_add, q_sub, q_div, q_pos, q_neg, q_T, q_F, q_max0, q_flg1, q_flg0, q_min, q_min2, q_bit, q_some, q_win, c1, q1, q_up, t_sum q2 q3]
        · simp (disch := omega) only [fX5_ahead, lt, jn, q_lit, q_bnd, q_cl, q_le, q_lt, q_eq, pk_mul, nI_add, q_sub, q_div, q_pos, q_neg, q_T, q_F, q_max0, q_flg1, q_flg0, q_min, q_min2, q_bit, q_some, q_in_0_127, q_in_0_1, q_in_0_2, q_in_0_3, q_in_0_4, q_in_0_5, q_in_0_9, q_in_0_10, q_in_0_20, q_in_1_20, q_in_48_57, q_in_97_122, q_inB, q_win, i1, j1, m_sum j2' j3]
      · refine ⟨nI (spBits (spEaten (spNights N B n)) (spNights N B n 0 0)), va_up X 3 Q, S2, ?_, ?_, hR⟩
        · simp (disch := omega) only [fX4_ahead, lt, jn, q_lit, q_bnd, q_cl, q_le, q_lt, q_eq, pk_mul, nI_add, q_sub, q_div, q_pos, q_neg, q_T, q_F, q_max0, q_flg1, q_flg0, q_min, q_min2, q_bit, q_some, q_win, c1, q1, q_up, t_eatenUp q2 q3]
        · simp (disch := omega) only [fX5_ahead, lt, jn, q_lit, q_bnd, q_cl, q_le, q_lt, q_eq, pk_mul, nI_add, q_sub, q_div, q_pos, q_neg, q_T, q_F, q_max0, q_flg1, q_flg0, q_min, q_min2, q_bit, q_some, q_in_0_127, q_in_0_1, q_in_0_2, q_in_0_3, q_in_0_4, q_in_0_5, q_in_0_9, q_in_0_10, q_in_0_20, q_in_1_20, q_in_48_57, q_in_97_122, q_inB, q_win, i1, j1, m_eaten j2' j3]
    · refine ⟨-1, X, S, ?_, ?_, h⟩
      · simp (disch := omega) only [fX4_ahead, lt, jn, q_lit, q_bnd, q_cl, q_le, q_lt, q_eq, pk_mul, nI_add, q_sub, q_div, q_pos, q_neg, q_T, q_F, q_max0, q_flg1, q_flg0, q_min, q_min2, q_bit, q_some, q_win, v2]
      · simp (disch := omega) only [fX5_ahead, lt, jn, q_lit, q_bnd, q_cl, q_le, q_lt, q_eq, pk_mul, nI_add, q_sub, q_div, q_pos, q_neg, q_T, q_F, q_max0, q_flg1, q_flg0, q_min, q_min2, q_bit, q_some, q_in_0_127, q_in_0_1, q_in_0_2, q_in_0_3, q_in_0_4, q_in_0_5, q_in_0_9, q_in_0_10, q_in_0_20, q_in_1_20, q_in_48_57, q_in_97_122, q_inB, q_win, v2]
  · refine ⟨-1, X, S, ?_, ?_, h⟩
    · simp (disch := omega) only [fX4_ahead, lt, jn, q_lit, q_bnd, q_cl, q_le, q_lt, q_eq, pk_mul, nI_add, q_sub, q_div, q_pos, q_neg, q_T, q_F, q_max0, q_flg1, q_flg0, q_min, q_min2, q_bit, q_some, j2]
    · simp (disch := omega) only [fX5_ahead, lt, jn, q_lit, q_bnd, q_cl, q_le, q_lt, q_eq, pk_mul, nI_add, q_sub, q_div, q_pos, q_neg, q_T, q_F, q_max0, q_flg1, q_flg0, q_min, q_min2, q_bit, q_some, q_in_0_127, q_in_0_1, q_in_0_2, q_in_0_3, q_in_0_4, q_in_0_5, q_in_0_9, q_in_0_10, q_in_0_20, q_in_1_20, q_in_48_57, q_in_97_122, q_inB, j2]
theorem k_when_L {X : M3} {S : M2} {N : NN} {B : BB} {b : Nat} (hb : b < N 0 0) : ∀ (d t f g : Nat) (Q S1 : M2), t + d = 41 → d < f → d < g → CS (spNights N B t) B Q → WF (spNights N B t) B → MA (spNights N B t) B S S1 → ∃ a Q' S', fX4_when_L26 (nI b) (fun p12 => some (-4, p12)) f (nI t) (va_up X 3 Q) = some (a, va_up X 3 Q') ∧ fX5_when_L16 (nI b) (fun p12 => some (-4, p12)) g (nI t) S1 = some (a, S') ∧ ME S S'
  | 0, t, f + 1, g + 1, Q, S1, ht, hf, hg, hS, hW, hM => by
    have e2 : t = 41 := by omega
    subst e2
    refine ⟨-4, Q, S1, ?_, ?_, hM.1⟩
    · simp (disch := omega) only [fX4_when_L26, lt, jn, q_lit, q_bnd, q_cl, q_le, q_lt, q_eq, pk_mul, nI_add, q_sub, q_div, q_pos, q_neg, q_T, q_F, q_max0, q_flg1, q_flg0, q_min, q_min2, q_bit, q_some]
    · simp (disch := omega) only [fX5_when_L16, lt, jn, q_lit, q_bnd, q_cl, q_le, q_lt, q_eq, pk_mul, nI_add, q_sub, q_div, q_pos, q_neg, q_T, q_F, q_max0, q_flg1, q_flg0, q_min, q_min2, q_bit, q_some]
  | d + 1, t, f + 1, g + 1, Q, S1, ht, hf, hg, hS, hW, hM => by
    have hb' : b < spNights N B t 0 0 := by rw [(spNights_0 t).1]; exact hb
    have e1 := t_eaten hS hW hb'
    have e2 := m_eaten1 hM hW hb'
    by_cases e : spEaten (spNights N B t) b = true
    · refine ⟨nI t, Q, S1, ?_, ?_, hM.1⟩
      · simp (disch := omega) only [fX4_when_L26, lt, jn, q_lit, q_bnd, q_cl, q_le, q_lt, q_eq, pk_mul, nI_add, q_sub, q_div, q_pos, q_neg, q_T, q_F, q_max0, q_flg1, q_flg0, q_min, q_min2, q_bit, q_some, q_up, e1, e, q_b0, Bool.true_eq_false]
      · simp (disch := omega) only [fX5_when_L16, lt, jn, q_lit, q_bnd, q_cl, q_le, q_lt, q_eq, pk_mul, nI_add, q_sub, q_div, q_pos, q_neg, q_T, q_F, q_max0, q_flg1, q_flg0, q_min, q_min2, q_bit, q_some, e2, e, q_b0, Bool.true_eq_false]
    · have e' : spEaten (spNights N B t) b = false := by simpa using e
      obtain ⟨Q1, i1, i2, i3⟩ := t_pass hS hW
      obtain ⟨S2, j1, j2, j3⟩ := m_nights (n := 1) (by omega) hM hW
      obtain ⟨a, Q', S', r1, r2, r3⟩ := k_when_L (X := X) hb d (t + 1) f g Q1 S2 (by omega) (by omega) (by omega) i2 i3 j2
      refine ⟨a, Q', S', ?_, ?_, r3⟩
      · simp (disch := omega) only [fX4_when_L26, lt, jn, q_lit, q_bnd, q_cl, q_le, q_lt, q_eq, pk_mul, nI_add, q_sub, q_div, q_pos, q_neg, q_T, q_F, q_max0, q_flg1, q_flg0, q_min, q_min2, q_bit, q_some, q_up, e1, e', q_b0, i1, up_up]
        exact r1
      · simp (disch := omega) only [fX5_when_L16, lt, jn, q_lit, q_bnd, q_cl, q_le, q_lt, q_eq, pk_mul, nI_add, q_sub, q_div, q_pos, q_neg, q_T, q_F, q_max0, q_flg1, q_flg0, q_min, q_min2, q_bit, q_some, e2, e', q_b0, j1]
        exact r2
theorem k_when {X : M3} {S : M2} (h : R X S) (x : Int32) : ∃ a X' S', fX4_when x X = some (a, X') ∧ fX5_when x S = some (a, S') ∧ R X' S' := by
  obtain ⟨N, B, hW, hn, hC, hM, e3, e4, hN, hK⟩ := h.data
  have w1 := hW.1
  have eb : fX5_isBolt x S = fX1_hasBolt x (X 2) := m_isBolt (e3.trans hC.1.1.symm) x
  rcases t_hasBolt hC.1.1 w1.1 x with ⟨b, hb, rfl, h1⟩ | ⟨-, h1⟩
  · rw [h1] at eb
    obtain ⟨Q0, c1, c2⟩ := t_copy (X 3) hC hW
    obtain ⟨S1, i1, i2, -⟩ := hN.starts
    obtain ⟨a, Q', S', r1, r2, r3⟩ := k_when_L (X := X) hb 41 0 400 400 Q0 S1 (by omega) (by omega) (by omega) c2 hW i2
    refine ⟨a, va_up X 3 Q', S', ?_, ?_, (h.xe xe3).me r3⟩
    · unfold fX4_when
      simp (disch := omega) only [lt, jn, q_lit, q_bnd, q_cl, q_le, q_lt, q_eq, pk_mul, nI_add, q_sub, q_div, q_pos, q_neg, q_T, q_F, q_max0, q_flg1, q_flg0, q_min, q_min2, q_bit, q_some, h1, c1]
      exact r1
    · unfold fX5_when
      simp (disch := omega) only [lt, jn, q_lit, q_bnd, q_cl, q_le, q_lt, q_eq, pk_mul, nI_add, q_sub, q_div, q_pos, q_neg, q_T, q_F, q_max0, q_flg1, q_flg0, q_min, q_min2, q_bit, q_some, eb, i1]
      exact r2
  · rw [h1] at eb
    refine ⟨-1, X, S, ?_, ?_, h⟩
    · simp (disch := omega) only [fX4_when, lt, jn, q_lit, q_bnd, q_cl, q_le, q_lt, q_eq, pk_mul, nI_add, q_sub, q_div, q_pos, q_neg, q_T, q_F, q_max0, q_flg1, q_flg0, q_min, q_min2, q_bit, q_some, h1]
    · simp (disch := omega) only [fX5_when, lt, jn, q_lit, q_bnd, q_cl, q_le, q_lt, q_eq, pk_mul, nI_add, q_sub, q_div, q_pos, q_neg, q_T, q_F, q_max0, q_flg1, q_flg0, q_min, q_min2, q_bit, q_some, eb]
theorem t_try {X : M3} {N : NN} {B : BB} {fl : Nat} (hf : fl < 32) (hC : CS N B (X 2)) (hW : WF N B) : ∃ Q, fX4_tryNight (nI fl) X = some (va_up X 3 Q) ∧ CS (spNight N B fl) B Q ∧ WF (spNight N B fl) B := by
  obtain ⟨Q0, c1, c2⟩ := t_copy (X 3) hC hW
  obtain ⟨Q, q1, q2, q3⟩ := t_loose hf c2 hW
  refine ⟨Q, ?_, q2, q3⟩
  unfold fX4_tryNight
  simp (disch := omega) only [lt, jn, q_lit, q_bnd, q_cl, q_le, q_lt, q_eq, pk_mul, nI_add, q_sub, q_div, q_pos, q_neg, q_T, q_F, q_max0, q_flg1, q_flg0, q_min, q_min2, q_bit, q_some, c1, q_up, q1, up_up]
theorem loose_one {N : NN} {B : BB} {m : Nat} : ∀ t : Nat, spLoose N B (2 ^ m) t = if m < t then spEat N m (B (N 11 m)) (spApp N m) (N 3) else N 3
  | 0 => rfl
  | t + 1 => by
    rw [spLoose, loose_one t, Nat.testBit_two_pow]
    by_cases e : m = t
    · subst e
      rw [decide_eq_true rfl, if_pos rfl, if_neg (Nat.lt_irrefl m), if_pos (Nat.lt_succ_self m)]
    · rw [decide_eq_false e, if_neg (by decide)]
      by_cases e2 : m < t
      · rw [if_pos e2, if_pos (by omega)]
      · rw [if_neg e2, if_neg (by omega)]
theorem k_eats {X : M3} {S : M2} (h : R X S) (x : Int32) : ∃ a X' S', fX4_eats x X = some (a, X') ∧ fX5_eats x S = some (a, S') ∧ R X' S' := by
  obtain ⟨N, B, hW, hn, hC, hM, e3, e4, hN, hK⟩ := h.data
  have w1 := hW.1
  have c7 := hC.1.2.2.1
  have eb : fX5_isMoth x S = fX1_hasMoth x (X 2) := m_isMoth (e4.trans c7.symm) x
  rcases t_hasMoth c7 (by omega) x with ⟨m, hm, rfl, h1⟩ | ⟨-, h1⟩
  · rw [h1] at eb
    have hp : 2 ^ m < 32 := by
      have : 2 ^ m < 2 ^ 5 := Nat.pow_lt_pow_right (by decide) (by omega)
      omega
    obtain ⟨Q, q1, q2, q3⟩ := t_try (X := X) hp hC hW
    obtain ⟨S1, i1, i2, -⟩ := hN.starts
    obtain ⟨S', mm, j1, j2, j3, j4⟩ := m_eatsNow (h := N 3) (by rw [up_id]; exact i2) (by rw [up_id]; exact hW) hm
    have es := t_sum q2 q3
    have es2 := t_sum hC hW
    have e5 : spNight N B (2 ^ m) 3 = spEat N m (B (N 11 m)) (spApp N m) (N 3) := by
      show spLoose N B (2 ^ m) (N 7 0) = _
      rw [loose_one, if_pos hm]
    have e6 : spNight N B (2 ^ m) 0 0 = N 0 0 := rfl
    rw [e5, e6] at es
    refine ⟨nI mm, va_up X 3 Q, S', ?_, ?_, (h.xe xe3).me (ME.ma j2)⟩
    · simp (disch := omega) only [fX4_eats, lt, jn, q_lit, q_bnd, q_cl, q_le, q_lt, q_eq, pk_mul, nI_add, q_sub, q_div, q_pos, q_neg, q_T, q_F, q_max0, q_flg1, q_flg0, q_min, q_min2, q_bit, q_some, h1, q_shl, q1, q_up, es, es2]
      rw [show spSum (spEat N m (B (N 11 m)) (spApp N m) (N 3)) (N 0 0) - spSum (N 3) (N 0 0) = mm by omega]
    · simp (disch := omega) only [fX5_eats, lt, jn, q_lit, q_bnd, q_cl, q_le, q_lt, q_eq, pk_mul, nI_add, q_sub, q_div, q_pos, q_neg, q_T, q_F, q_max0, q_flg1, q_flg0, q_min, q_min2, q_bit, q_some, eb, i1, j1]
  · rw [h1] at eb
    refine ⟨-1, X, S, ?_, ?_, h⟩
    · simp (disch := omega) only [fX4_eats, lt, jn, q_lit, q_bnd, q_cl, q_le, q_lt, q_eq, pk_mul, nI_add, q_sub, q_div, q_pos, q_neg, q_T, q_F, q_max0, q_flg1, q_flg0, q_min, q_min2, q_bit, q_some, h1]
    · simp (disch := omega) only [fX5_eats, lt, jn, q_lit, q_bnd, q_cl, q_le, q_lt, q_eq, pk_mul, nI_add, q_sub, q_div, q_pos, q_neg, q_T, q_F, q_max0, q_flg1, q_flg0, q_min, q_min2, q_bit, q_some, eb]
theorem k_duty {X : M3} {S : M2} (h : R X S) (w : Int32) : ∃ a X' S', fX4_duty w X = some (a, X') ∧ fX5_duty w S = some (a, S') ∧ R X' S' := by
  obtain ⟨N, B, hW, hn, hC, hM, e3, e4, hN, hK⟩ := h.data
  obtain ⟨S1, i1, i2, -⟩ := hN.starts
  rcases t_isPart w with ⟨j, j2, rfl, e6, e7⟩ | ⟨j1, e6, e7⟩
  · rcases (by omega : j = 0 ∨ j = 1) with rfl | rfl
    · refine ⟨nI (spAll N B), X, S1, ?_, ?_, h.me (ME.ma i2)⟩
      · simp (disch := omega) only [fX4_duty, lt, jn, q_lit, q_bnd, q_cl, q_le, q_lt, q_eq, pk_mul, nI_add, q_sub, q_div, q_pos, q_neg, q_T, q_F, q_max0, q_flg1, q_flg0, q_min, q_min2, q_bit, q_some, t_dutyAll hC hW]
      · simp (disch := omega) only [fX5_duty, lt, jn, q_lit, q_bnd, q_cl, q_le, q_lt, q_eq, pk_mul, nI_add, q_sub, q_div, q_pos, q_neg, q_T, q_F, q_max0, q_flg1, q_flg0, q_min, q_min2, q_bit, q_some, e6, i1, m_dutyAll i2 hW]
    · obtain ⟨Q, q1, q2, q3⟩ := t_try (X := X) (fl := 15) (by omega) hC hW
      obtain ⟨S2, j1, j3, j4⟩ := m_nights (n := 1) (by omega) i2 hW
      have es := t_sum q2 q3
      have es2 := m_sum j3 j4
      have c13 : Q 13 0 = nI (N 13 0) := q2.1.2.2.2.2.1
      have m47 : S2 1 47 = nI (N 13 0) := j3.2.2.2.1.2.1
      refine ⟨nI (spSum (spNight N B 15 3) (N 0 0) * N 13 0), va_up X 3 Q, S2, ?_, ?_, (h.xe xe3).me (ME.ma j3)⟩
      · simp (disch := omega) only [fX4_duty, lt, jn, q_lit, q_bnd, q_cl, q_le, q_lt, q_eq, pk_mul, nI_add, q_sub, q_div, q_pos, q_neg, q_T, q_F, q_max0, q_flg1, q_flg0, q_min, q_min2, q_bit, q_some, q1, q_up, es, c13]
        rfl
      · simp (disch := omega) only [fX5_duty, lt, jn, q_lit, q_bnd, q_cl, q_le, q_lt, q_eq, pk_mul, nI_add, q_sub, q_div, q_pos, q_neg, q_T, q_F, q_max0, q_flg1, q_flg0, q_min, q_min2, q_bit, q_some, e6, i1, j1, es2, m47]
        rfl
  · have x0 := j1 0 (by omega)
    have x1 := j1 1 (by omega)
    refine ⟨-1, X, S, ?_, ?_, h⟩
    · simp (disch := omega) only [fX4_duty, lt, jn, q_lit, q_bnd, q_cl, q_le, q_lt, q_eq, pk_mul, nI_add, q_sub, q_div, q_pos, q_neg, q_T, q_F, q_max0, q_flg1, q_flg0, q_min, q_min2, q_bit, q_some, x0, x1]
    · simp (disch := omega) only [fX5_duty, lt, jn, q_lit, q_bnd, q_cl, q_le, q_lt, q_eq, pk_mul, nI_add, q_sub, q_div, q_pos, q_neg, q_T, q_F, q_max0, q_flg1, q_flg0, q_min, q_min2, q_bit, q_some, e6]
theorem bitc : ∀ k, k < 4 → fJ6_bitCount_0f7a4 (nI k) = some (nI (k.testBit 0).toNat + nI (k.testBit 1).toNat) := by decide +kernel
theorem k_count {X : M3} {S : M2} (h : R X S) (w : Int32) : ∃ a S', fX4_count w X = some a ∧ fX5_count w S = some (a, S') ∧ R X S' := by
  obtain ⟨N, B, hW, hn, hC, hM, e3, e4, hN, kp, k1, k2, k3⟩ := h.data
  obtain ⟨-, ⟨⟨n, n1, n2, n3, n4⟩, -⟩, hS, -⟩ := id h
  obtain ⟨S1, i1, i2, -⟩ := hN.starts
  have hR := h.me (ME.ma i2)
  have f0 : S1 0 = S 0 := i2.1 0 (by decide)
  have f2 : S1 2 = S 2 := i2.1 2 (by decide)
  have f12 : S1 12 = S 12 := i2.1 12 (by decide)
  have f20 : S1 20 = S 20 := i2.1 20 (by decide)
  have f21 : S1 21 = S 21 := i2.1 21 (by decide)
  rcases q_within w (a := 0) (b := 4) (by omega) with ⟨j, -, j2, rfl⟩ | ⟨j1, -⟩
  · rcases (by omega : j = 0 ∨ j = 1 ∨ j = 2 ∨ j = 3 ∨ j = 4) with rfl | rfl | rfl | rfl | rfl
    · refine ⟨nI (spSum (N 3) (N 0 0)), S1, ?_, ?_, hR⟩
      · simp (disch := omega) only [fX4_count, lt, jn, q_lit, q_bnd, q_cl, q_le, q_lt, q_eq, pk_mul, nI_add, q_sub, q_div, q_pos, q_neg, q_T, q_F, q_max0, q_flg1, q_flg0, q_min, q_min2, q_bit, q_some, t_sum hC hW]
      · simp (disch := omega) only [fX5_count, lt, jn, q_lit, q_bnd, q_cl, q_le, q_lt, q_eq, pk_mul, nI_add, q_sub, q_div, q_pos, q_neg, q_T, q_F, q_max0, q_flg1, q_flg0, q_min, q_min2, q_bit, q_some, i1, m_sum i2 hW]
    · refine ⟨nI (N 15 0), S1, ?_, ?_, hR⟩
      · simp (disch := omega) only [fX4_count, lt, jn, q_lit, q_bnd, q_cl, q_le, q_lt, q_eq, pk_mul, nI_add, q_sub, q_div, q_pos, q_neg, q_T, q_F, q_max0, q_flg1, q_flg0, q_min, q_min2, q_bit, q_some, hC.1.2.2.2.2.2.2]
      · simp (disch := omega) only [fX5_count, lt, jn, q_lit, q_bnd, q_cl, q_le, q_lt, q_eq, pk_mul, nI_add, q_sub, q_div, q_pos, q_neg, q_T, q_F, q_max0, q_flg1, q_flg0, q_min, q_min2, q_bit, q_some, i1, f0, hM.1.2.2.2]
    · refine ⟨nI (kp.testBit 0).toNat + nI (kp.testBit 1).toNat, S1, ?_, ?_, hR⟩
      · simp (disch := omega) only [fX4_count, q_lit, q_eq, q_pos, q_neg, q_T, q_some, k2, bitc kp k1]
      · have s0 := (k3 0 (by omega)).1
        have s1 := (k3 1 (by omega)).1
        simp (disch := omega) only [fX5_count, lt, q_lit, q_eq, q_pos, q_neg, q_T, q_some, q_bnd, q_cl, i1, f2, s0, s1, q_flag]
    · refine ⟨nI n, S1, ?_, ?_, hR⟩
      · simp (disch := omega) only [fX4_count, lt, jn, q_lit, q_bnd, q_cl, q_le, q_lt, q_eq, pk_mul, nI_add, q_sub, q_div, q_pos, q_neg, q_T, q_F, q_max0, q_flg1, q_flg0, q_min, q_min2, q_bit, q_some, n2]
      · simp (disch := omega) only [fX5_count, lt, jn, q_lit, q_bnd, q_cl, q_le, q_lt, q_eq, pk_mul, nI_add, q_sub, q_div, q_pos, q_neg, q_T, q_F, q_max0, q_flg1, q_flg0, q_min, q_min2, q_bit, q_some, i1, f12, n3]
    · rcases hS 0 (by omega) with ⟨s1, s2⟩ | ⟨s1, l, c, s2, s3, s4, s5, s6, s7, s8⟩
      · have s1' : X 6 0 0 = nI 0 := s1
        refine ⟨-4, S1, ?_, ?_, hR⟩
        · simp (disch := omega) only [fX4_count, lt, jn, q_lit, q_bnd, q_cl, q_le, q_lt, q_eq, pk_mul, nI_add, q_sub, q_div, q_pos, q_neg, q_T, q_F, q_max0, q_flg1, q_flg0, q_min, q_min2, q_bit, q_some, Nat.add_zero, s1']
        · have s2' : S1 20 0 = -nI 4 := by rw [f20]; exact s2
          simp (disch := omega) only [fX5_count, lt, jn, q_lit, q_bnd, q_cl, q_le, q_lt, q_eq, pk_mul, nI_add, q_sub, q_div, q_pos, q_neg, q_T, q_F, q_max0, q_flg1, q_flg0, q_min, q_min2, q_bit, q_some, i1, s2', q_T]
      · have s1' : X 6 0 0 = nI 1 := s1
        have s6' : X 6 2 0 = nI c := s6
        have hne : ¬ nI l = -nI 4 := by rcases wb_cases s2 with rfl | rfl | rfl <;> decide
        refine ⟨nI c, S1, ?_, ?_, hR⟩
        · simp (disch := omega) only [fX4_count, lt, jn, q_lit, q_bnd, q_cl, q_le, q_lt, q_eq, pk_mul, nI_add, q_sub, q_div, q_pos, q_neg, q_T, q_F, q_max0, q_flg1, q_flg0, q_min, q_min2, q_bit, q_some, Nat.add_zero, s1', s6']
        · simp (disch := omega) only [fX5_count, lt, jn, q_lit, q_bnd, q_cl, q_le, q_lt, q_eq, pk_mul, nI_add, q_sub, q_div, q_pos, q_neg, q_T, q_F, q_max0, q_flg1, q_flg0, q_min, q_min2, q_bit, q_some, i1, f20, s5, hne, q_F, f21, s7]
  · have x0 := j1 0 (by omega) (by omega)
    have x1 := j1 1 (by omega) (by omega)
    have x2 := j1 2 (by omega) (by omega)
    have x3 := j1 3 (by omega) (by omega)
    have x4 := j1 4 (by omega) (by omega)
    refine ⟨-1, S1, ?_, ?_, hR⟩
    · simp (disch := omega) only [fX4_count, lt, jn, q_lit, q_bnd, q_cl, q_le, q_lt, q_eq, pk_mul, nI_add, q_sub, q_div, q_pos, q_neg, q_T, q_F, q_max0, q_flg1, q_flg0, q_min, q_min2, q_bit, q_some, x0, x1, x2, x3, x4]
    · simp (disch := omega) only [fX5_count, lt, jn, q_lit, q_bnd, q_cl, q_le, q_lt, q_eq, pk_mul, nI_add, q_sub, q_div, q_pos, q_neg, q_T, q_F, q_max0, q_flg1, q_flg0, q_min, q_min2, q_bit, q_some, i1, x0, x1, x2, x3, x4]
