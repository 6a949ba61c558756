/-! images -/
theorem m_copies_L {to fr : Nat} (h : to + 62 ≤ fr ∨ fr + 62 ≤ to) (h1 : to ≤ 124) (h2 : fr ≤ 124) : ∀ (d j f : Nat) (S : M2), j + d = 62 → d < f → ∃ S', (∀ kk : M2 → Option M2, fX5_copies_L2 (nI to) (nI fr) kk f (nI j) S = kk S') ∧ (∀ q, q ≠ 0 → S' q = S q) ∧ ∀ x, S' 0 x = if to + j ≤ x ∧ x < to + 62 then S 0 (x - to + fr) else S 0 x
  | 0, j, f + 1, S, hd, hf => by
    refine ⟨S, fun kk => ?_, fun _ _ => rfl, fun x => ?_⟩
    · simp (disch := omega) only [fX5_copies_L2, lt, jn, q_lit, q_bnd, q_cl, q_le, q_lt, q_eq, pk_mul, nI_add, q_sub, q_div, q_pos, q_neg, q_T, q_F, q_max0, q_flg1, q_flg0, q_min, q_min2, q_bit, q_some]
    · rw [if_neg (by omega)]
  | d + 1, j, f + 1, S, hd, hf => by
    obtain ⟨S', i1, i2, i3⟩ := m_copies_L h h1 h2 d (j + 1) f (va_up S 0 (upd (S 0) (to + j) (S 0 (fr + j)))) (by omega) (by omega)
    refine ⟨S', fun kk => ?_, fun q hq => ?_, fun x => ?_⟩
    · simp (disch := omega) only [fX5_copies_L2, lt, jn, q_lit, q_bnd, q_cl, q_le, q_lt, q_eq, pk_mul, nI_add, q_sub, q_div, q_pos, q_neg, q_T, q_F, q_max0, q_flg1, q_flg0, q_min, q_min2, q_bit, q_some, i1]
    · rw [i2 q hq, q_up, if_neg hq]
    · rw [i3]
      show (if to + (j + 1) ≤ x ∧ x < to + 62 then upd (S 0) (to + j) (S 0 (fr + j)) (x - to + fr) else upd (S 0) (to + j) (S 0 (fr + j)) x) = _
      rw [q_ud, q_ud]
      by_cases e1 : x = to + j
      · subst e1
        rw [if_neg (by omega), if_pos rfl, if_pos (by omega), show to + j - to + fr = fr + j by omega]
      · by_cases e2 : to + j ≤ x ∧ x < to + 62
        · rw [if_pos (by omega), if_neg (by omega), if_pos e2]
        · rw [if_neg (by omega), if_neg e1, if_neg e2]
theorem m_copies {to fr : Nat} (h : to + 62 ≤ fr ∨ fr + 62 ≤ to) (h1 : to ≤ 124) (h2 : fr ≤ 124) (S : M2) : ∃ S', fX5_copies (nI to) (nI fr) S = some S' ∧ (∀ q, q ≠ 0 → S' q = S q) ∧ ∀ x, S' 0 x = if to ≤ x ∧ x < to + 62 then S 0 (x - to + fr) else S 0 x := by
  obtain ⟨S', i1, i2, i3⟩ := m_copies_L h h1 h2 62 0 400 S (by omega) (by omega)
  exact ⟨S', i1 _, i2, i3⟩
theorem RK.keep {N : NN} {B : BB} {kept : Int32} {im im' : Nat → M2} {st st' isk : Nat → Int32} {k : Nat} (h : RK N kept im st isk) (hk : k < 2) (hW : WF N B) (hn : N 14 0 ≤ 999) (hC : CS N B (im' k)) (hM : MS N B (fun x => st' (62 * (k + 1) + x))) (i2 : ∀ j, j < 2 → j ≠ k → im' j = im j) (hst : ∀ j, j < 2 → j ≠ k → ∀ x, x < 62 → st' (62 * (j + 1) + x) = st (62 * (j + 1) + x)) : RK N (kept ||| (nI 1 <<< (nI k &&& nI 31))) im' st' (upd isk k (nI 1)) := by
  obtain ⟨kp, k1, k2, k3⟩ := h
  have h2k : 2 ^ k < 2 ^ 2 := Nat.pow_lt_pow_right (by decide) hk
  refine ⟨kp ||| 2 ^ k, Nat.or_lt_two_pow (n := 2) k1 h2k, ?_, fun j hj => ?_⟩
  · rw [k2, q_shl (by omega), q_or]
  · rw [Nat.testBit_or, Nat.testBit_two_pow, q_ud]
    by_cases e : j = k
    · subst e
      rw [if_pos rfl, decide_eq_true rfl, Bool.or_true]
      exact ⟨rfl, fun _ => ⟨N, B, hW, hn, rfl, rfl, hC, hM⟩⟩
    · rw [if_neg e, decide_eq_false (Ne.symm e), Bool.or_false]
      refine ⟨(k3 j hj).1, fun hb => ?_⟩
      obtain ⟨N2, B2, a1, a2, a3, a4, a5, a6⟩ := (k3 j hj).2 hb
      refine ⟨N2, B2, a1, a2, a3, a4, ?_, a6.ext a1 (hst j hj e)⟩
      rw [i2 j hj e]
      exact a5
theorem k_keep {X : M3} {S : M2} (h : R X S) (x : Int32) : ∃ a X' S', fX4_keep x X = some (a, X') ∧ fX5_keep x S = some (a, S') ∧ R X' S' := by
  obtain ⟨N, B, hW, hn, hC, hM, e3, e4, hN, hK⟩ := h.data
  obtain ⟨-, h2, h3, h4⟩ := id h
  obtain ⟨kp, k1, k2, k3⟩ := id hK
  rcases q_within x (a := 0) (b := 1) (by omega) with ⟨k, -, hk, rfl⟩ | ⟨-, j2⟩
  · obtain ⟨Q, c1, c2⟩ := t_copy (X (4 + k)) hC hW
    have hk2 : k < 2 := by omega
    have s2 := (k3 k hk2).1
    obtain ⟨S', i1, i2, i3⟩ := m_copies (to := 62 * (k + 1)) (fr := 0) (Or.inr (by omega)) (by omega) (by omega) (va_up S 2 (upd (S 2) k (nI 1)))
    have i3' : ∀ y, S' 0 y = if 62 * (k + 1) ≤ y ∧ y < 62 * (k + 1) + 62 then S 0 (y - 62 * (k + 1) + 0) else S 0 y := i3
    refine ⟨nI (kp.testBit k).toNat, va_up (va_up X (4 + k) Q) 0 (va_up (X 0) 6 (fun _ => X 0 6 0 ||| (nI 1 <<< (nI k &&& nI 31)))), S', ?_, ?_, ?_⟩
    · have e0 : ∀ v, (va_up X (4 + k) v) 0 = X 0 := fun v => by rw [q_up, if_neg (by omega)]
      unfold fX4_keep
      rw [k2]
      simp (disch := omega) only [lt, q_lit, q_some, q_bnd, q_cl, q_eq, q_neg, q_win, q_bit, c1, e0, k2]
    · simp (disch := omega) only [fX5_keep, lt, q_lit, q_some, q_bnd, q_cl, q_eq, q_neg, q_win, q_in_0_127, q_in_0_1, q_in_0_2, q_in_0_3, q_in_0_4, q_in_0_5, q_in_0_9, q_in_0_10, q_in_0_20, q_in_1_20, q_in_48_57, q_in_97_122, q_inB, s2, q_flag, pk_mul, nI_add, i1]
    · have m0 : ∀ y, y < 62 → S' 0 y = S 0 y := fun y hy => by rw [i3', if_neg (by omega)]
      refine ⟨⟨N, B, ⟨hW, hn, ?_, hM.ext hW m0, ?_, ?_⟩, ?_⟩, ?_, ?_, ?_⟩
      · rw [q_up, if_neg (by omega), q_up, if_neg (by omega)]
        exact hC
      · rw [i2 3 (by decide)]
        exact e3
      · rw [i2 4 (by decide)]
        exact e4
      · rw [i2 2 (by decide)]
        refine hK.keep (B := B) hk2 hW hn ?_ ?_ (fun j hj hne => ?_) (fun j hj hne y hy => ?_)
        · rw [im2_x (X := va_up (va_up X (4 + k) Q) 0 _) hk2, q_up, if_neg (by omega), q_up, if_pos rfl]
          exact c2
        · refine hM.ext hW fun y hy => ?_
          show S' 0 (62 * (k + 1) + y) = S 0 y
          rw [i3', if_pos (by omega), Nat.add_sub_cancel_left, Nat.add_zero]
        · rw [im2_x (X := va_up (va_up X (4 + k) Q) 0 _) hj, im2_x hj, q_up, if_neg (by omega), q_up, if_neg (by omega)]
        · rw [i3', if_neg (by omega)]
      · rw [i2 11 (by decide), i2 12 (by decide), i2 17 (by decide), q_up, if_neg (by omega), q_up, if_neg (by omega)]
        exact h2
      · rw [i2 20 (by decide), i2 21 (by decide), i2 22 (by decide)]
        have f : ∀ q, 6 ≤ q → va_up (va_up X (4 + k) Q) 0 (va_up (X 0) 6 (fun _ => X 0 6 0 ||| (nI 1 <<< (nI k &&& nI 31)))) q = X q := fun q hq => by rw [q_up, if_neg (by omega), q_up, if_neg (by omega)]
        rw [f 6 (by decide), f 7 (by decide), f 8 (by decide), f 9 (by decide)]
        exact h3
      · rw [i2 23 (by decide)]
        exact h4
  · refine ⟨-1, X, S, ?_, ?_, h⟩
    · simp (disch := omega) only [fX4_keep, lt, jn, q_lit, q_bnd, q_cl, q_le, q_lt, q_eq, pk_mul, nI_add, q_sub, q_div, q_pos, q_neg, q_T, q_F, q_max0, q_flg1, q_flg0, q_min, q_min2, q_bit, q_some, j2]
    · simp (disch := omega) only [fX5_keep, lt, jn, q_lit, q_bnd, q_cl, q_le, q_lt, q_eq, pk_mul, nI_add, q_sub, q_div, q_pos, q_neg, q_T, q_F, q_max0, q_flg1, q_flg0, q_min, q_min2, q_bit, q_some, q_in_0_127, q_in_0_1, q_in_0_2, q_in_0_3, q_in_0_4, q_in_0_5, q_in_0_9, q_in_0_10, q_in_0_20, q_in_1_20, q_in_48_57, q_in_97_122, q_inB, j2]
theorem k_back {X : M3} {S : M2} (h : R X S) (x : Int32) : ∃ a X' S', fX4_back x X = some (a, X') ∧ fX5_back x S = some (a, S') ∧ R X' S' := by
  obtain ⟨N, B, hW, hn, hC, hM, e3, e4, hN, hK⟩ := h.data
  obtain ⟨kp, k1, k2, k3⟩ := id hK
  rcases q_within x (a := 0) (b := 1) (by omega) with ⟨k, -, hk, rfl⟩ | ⟨-, j2⟩
  · have hk2 : k < 2 := by omega
    obtain ⟨s2, s3⟩ := k3 k hk2
    by_cases e : kp.testBit k = true
    · obtain ⟨N', B', a1, a2, a3, a4, a5, a6⟩ := s3 e
      rw [im2_x hk2] at a5
      obtain ⟨Q, c1, c2⟩ := t_copy (X 2) a5 a1
      obtain ⟨S', i1, i2, i3⟩ := m_copies (to := 0) (fr := 62 * (k + 1)) (Or.inl (by omega)) (by omega) (by omega) S
      have m0 : ∀ y, y < 62 → S' 0 y = S 0 (62 * (k + 1) + y) := fun y hy => by
        rw [i3, if_pos (by omega), Nat.sub_zero, Nat.add_comm]
      have hM' : MS N' B' (S' 0) := a6.ext a1 m0
      have m48 := hM'.1.2.2.1
      have q14 := c2.1.2.2.2.2.2.1
      refine ⟨nI (N' 14 0), va_up X 2 Q, S', ?_, ?_, h.now hK e3 e4 a3 a4 a1 a2 c2 hM' (fun q h0 _ => i2 q h0) (fun y hy => by rw [i3, if_neg (by omega)])⟩
      · simp (disch := omega) only [fX4_back, lt, q_lit, q_some, q_bnd, q_cl, q_eq, q_neg, q_win, k2, q_bit, e, q_b0, Bool.true_eq_false, q_F, c1, q_up, q_T, q14]
      · simp (disch := omega) only [fX5_back, lt, q_lit, q_some, q_bnd, q_cl, q_eq, q_neg, q_win, q_in_0_127, q_in_0_1, q_in_0_2, q_in_0_3, q_in_0_4, q_in_0_5, q_in_0_9, q_in_0_10, q_in_0_20, q_in_1_20, q_in_48_57, q_in_97_122, q_inB, s2, e, q_b0, Bool.true_eq_false, q_F, pk_mul, nI_add, i1, m48]
    · have e' : kp.testBit k = false := by simpa using e
      refine ⟨-2, X, S, ?_, ?_, h⟩
      · simp (disch := omega) only [fX4_back, lt, q_lit, q_some, q_bnd, q_cl, q_eq, q_neg, q_win, k2, q_bit, e', q_b0, q_T]
      · simp (disch := omega) only [fX5_back, lt, q_lit, q_some, q_bnd, q_cl, q_eq, q_neg, q_win, q_in_0_127, q_in_0_1, q_in_0_2, q_in_0_3, q_in_0_4, q_in_0_5, q_in_0_9, q_in_0_10, q_in_0_20, q_in_1_20, q_in_48_57, q_in_97_122, q_inB, s2, e', q_b0, q_T]
  · refine ⟨-1, X, S, ?_, ?_, h⟩
    · simp (disch := omega) only [fX4_back, lt, jn, q_lit, q_bnd, q_cl, q_le, q_lt, q_eq, pk_mul, nI_add, q_sub, q_div, q_pos, q_neg, q_T, q_F, q_max0, q_flg1, q_flg0, q_min, q_min2, q_bit, q_some, j2]
    · simp (disch := omega) only [fX5_back, lt, jn, q_lit, q_bnd, q_cl, q_le, q_lt, q_eq, pk_mul, nI_add, q_sub, q_div, q_pos, q_neg, q_T, q_F, q_max0, q_flg1, q_flg0, q_min, q_min2, q_bit, q_some, q_in_0_127, q_in_0_1, q_in_0_2, q_in_0_3, q_in_0_4, q_in_0_5, q_in_0_9, q_in_0_10, q_in_0_20, q_in_1_20, q_in_48_57, q_in_97_122, q_inB, j2]
/-! sheets -/
theorem R.sheet {X : M3} {S S' : M2} {k : Nat} {Q : M2} (h : R X S) (hk : k < 4) (hs : ∀ q, q ≠ 20 → q ≠ 21 → q ≠ 22 → S' q = S q) (ho : ∀ j, j < 4 → j ≠ k → S' 20 j = S 20 j ∧ S' 21 j = S 21 j ∧ ∀ i, i < 40 → S' 22 (40 * j + i) = S 22 (40 * j + i)) (hn : (Q 0 0 = nI 1 ∧ ∃ l n : Nat, l < 3 ∧ n ≤ 40 ∧ Q 1 0 = nI l ∧ S' 20 k = nI l ∧ Q 2 0 = nI n ∧ S' 21 k = nI n ∧ ∀ i, i < n → Q 3 i = S' 22 (40 * k + i))) : R (va_up X (6 + k) Q) S' := by
  obtain ⟨h1, h2, h3, h4⟩ := h
  have f : ∀ q, q < 6 → va_up X (6 + k) Q q = X q := fun q hq => by rw [q_up, if_neg (by omega)]
  unfold R
  rw [f 0 (by decide), f 1 (by decide), f 2 (by decide), f 4 (by decide), f 5 (by decide), hs 0 (by decide) (by decide) (by decide), hs 2 (by decide) (by decide) (by decide), hs 3 (by decide) (by decide) (by decide), hs 4 (by decide) (by decide) (by decide), hs 11 (by decide) (by decide) (by decide), hs 12 (by decide) (by decide) (by decide), hs 17 (by decide) (by decide) (by decide), hs 23 (by decide) (by decide) (by decide)]
  refine ⟨h1, h2, fun j hj => ?_, h4⟩
  rw [sh4_x (X := va_up X (6 + k) Q) hj, q_up]
  by_cases e : j = k
  · subst e
    rw [if_pos rfl]
    exact Or.inr hn
  · obtain ⟨o1, o2, o3⟩ := ho j hj e
    have := h3 j hj
    rw [sh4_x hj] at this
    rw [if_neg (by omega), o1, o2]
    rcases this with a | ⟨a, l, n, b1, b2, b3, b4, b5, b6, b7⟩
    · exact Or.inl a
    · exact Or.inr ⟨a, l, n, b1, b2, b3, b4, b5, b6, fun i hi => by rw [o3 i (by omega)]; exact b7 i hi⟩
theorem t_new_L : ∀ (d j f : Nat) (S : M2), j + d = 40 → d < f → ∃ S', (∀ kk : M2 → Option M2, fX2_makeNew_L17 kk f (nI j) S = kk S') ∧ (∀ q, q ≠ 3 → S' q = S q) ∧ ∀ x, S' 3 x = if j ≤ x ∧ x < 40 then nI 0 else S 3 x
  | 0, j, f + 1, S, hd, hf => by
    refine ⟨S, fun kk => ?_, fun _ _ => rfl, fun x => ?_⟩
    · simp (disch := omega) only [fX2_makeNew_L17, lt, jn, q_lit, q_bnd, q_cl, q_le, q_lt, q_eq, pk_mul, nI_add, q_sub, q_div, q_pos, q_neg, q_T, q_F, q_max0, q_flg1, q_flg0, q_min, q_min2, q_bit, q_some]
    · rw [if_neg (by omega)]
  | d + 1, j, f + 1, S, hd, hf => by
    obtain ⟨S', i1, i2, i3⟩ := t_new_L d (j + 1) f (va_up S 3 (upd (S 3) j (nI 0))) (by omega) (by omega)
    refine ⟨S', fun kk => ?_, fun q hq => ?_, fun x => ?_⟩
    · simp (disch := omega) only [fX2_makeNew_L17, lt, jn, q_lit, q_bnd, q_cl, q_le, q_lt, q_eq, pk_mul, nI_add, q_sub, q_div, q_pos, q_neg, q_T, q_F, q_max0, q_flg1, q_flg0, q_min, q_min2, q_bit, q_some, i1]
    · rw [i2 q hq, q_up, if_neg hq]
    · rw [i3]
      show (if j + 1 ≤ x ∧ x < 40 then nI 0 else upd (S 3) j (nI 0) x) = _
      rw [q_ud]
      by_cases e1 : x = j
      · subst e1
        rw [if_neg (by omega), if_pos rfl, if_pos (by omega)]
      · by_cases e2 : j ≤ x ∧ x < 40
        · rw [if_pos (by omega), if_pos e2]
        · rw [if_neg (by omega), if_neg e1, if_neg e2]
theorem m_new_L {k : Nat} (hk : k < 4) : ∀ (d j f : Nat) (S : M2), j + d = 40 → d < f → ∃ S', (∀ kk : M2 → Option (Int32 × M2), fX5_sheet_L40 (nI k) kk f (nI j) S = kk S') ∧ (∀ q, q ≠ 22 → S' q = S q) ∧ ∀ x, S' 22 x = if 40 * k + j ≤ x ∧ x < 40 * k + 40 then nI 0 else S 22 x
  | 0, j, f + 1, S, hd, hf => by
    refine ⟨S, fun kk => ?_, fun _ _ => rfl, fun x => ?_⟩
    · simp (disch := omega) only [fX5_sheet_L40, lt, jn, q_lit, q_bnd, q_cl, q_le, q_lt, q_eq, pk_mul, nI_add, q_sub, q_div, q_pos, q_neg, q_T, q_F, q_max0, q_flg1, q_flg0, q_min, q_min2, q_bit, q_some]
    · rw [if_neg (by omega)]
  | d + 1, j, f + 1, S, hd, hf => by
    obtain ⟨S', i1, i2, i3⟩ := m_new_L hk d (j + 1) f (va_up S 22 (upd (S 22) (40 * k + j) (nI 0))) (by omega) (by omega)
    refine ⟨S', fun kk => ?_, fun q hq => ?_, fun x => ?_⟩
    · simp (disch := omega) only [fX5_sheet_L40, lt, jn, q_lit, q_bnd, q_cl, q_le, q_lt, q_eq, pk_mul, nI_add, q_sub, q_div, q_pos, q_neg, q_T, q_F, q_max0, q_flg1, q_flg0, q_min, q_min2, q_bit, q_some, i1]
    · rw [i2 q hq, q_up, if_neg hq]
    · rw [i3]
      show (if 40 * k + (j + 1) ≤ x ∧ x < 40 * k + 40 then nI 0 else upd (S 22) (40 * k + j) (nI 0) x) = _
      rw [q_ud]
      by_cases e1 : x = 40 * k + j
      · subst e1
        rw [if_neg (by omega), if_pos rfl, if_pos (by omega)]
      · by_cases e2 : 40 * k + j ≤ x ∧ x < 40 * k + 40
        · rw [if_pos (by omega), if_pos e2]
        · rw [if_neg (by omega), if_neg e1, if_neg e2]
theorem q_in_40 {x : Int32} (h1 : x ≤ nI 40) (h2 : nI 0 ≤ x) : ∃ j, j ≤ 40 ∧ x = nI j := by
  rcases pk_ix x (n := 41) (by omega) with h | h | ⟨j, hj, rfl⟩
  · rw [Int32.lt_iff_toInt_lt] at h
    rw [Int32.le_iff_toInt_le] at h2
    have e1 : (0 : Int32).toInt = 0 := by decide
    have e2 : (nI 0).toInt = 0 := by decide
    omega
  · rw [Int32.le_iff_toInt_le] at h h1
    rw [nI_toInt (by decide)] at h h1
    omega
  · exact ⟨j, by omega, rfl⟩
theorem q_sheet (x : Int32) : (∃ k, k < 4 ∧ x = nI k ∧ fX4_isSheet x = some (nI 1)) ∨ ((∀ k, k < 4 → x ≠ nI k) ∧ fX4_isSheet x = some (nI 0) ∧ ∀ y, fX5_isSheet x y = some (nI 0)) := by
  unfold fX4_isSheet fX5_isSheet
  rcases q_within x (a := 0) (b := 3) (by omega) with ⟨j, h1, h2, rfl⟩ | ⟨h1, h2⟩
  · refine Or.inl ⟨j, by omega, rfl, ?_⟩
    rw [q_lit, q_lit, q_win (by omega)]
    rfl
  · refine Or.inr ⟨fun j h3 => h1 j (by omega) (by omega), ?_, fun y => ?_⟩
    · rw [q_lit, q_lit, h2]
      rfl
    · rw [q_in_0_3, h2]
      rfl
theorem q_lane {k : Nat} (hk : k < 4) (y : Int32) : (∃ l, l < 3 ∧ y = nI l ∧ fX4_isLane y = some (nI 1) ∧ fX5_isSheet (nI k) y = some (nI 1)) ∨ ((∀ l, l < 3 → y ≠ nI l) ∧ fX4_isLane y = some (nI 0) ∧ fX5_isSheet (nI k) y = some (nI 0)) := by
  unfold fX4_isLane fX5_isSheet
  rw [q_in_0_3, q_win (by omega), q_some, if_neg (by decide : ¬ nI 1 = 0), q_in_0_2]
  rcases q_within y (a := 0) (b := 2) (by omega) with ⟨j, h1, h2, rfl⟩ | ⟨h1, h2⟩
  · refine Or.inl ⟨j, by omega, rfl, ?_, ?_⟩
    · rw [q_lit, q_lit, q_win (by omega)]
      rfl
    · rw [q_win (by omega)]
      rfl
  · refine Or.inr ⟨fun j h3 => h1 j (by omega) (by omega), ?_, ?_⟩
    · rw [q_lit, q_lit, h2]
      rfl
    · rw [h2]
      rfl
