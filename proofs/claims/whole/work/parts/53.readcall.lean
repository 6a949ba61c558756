theorem k_read {X : M3} {S : M2} (h : R X S) (x y u v : Int32) : ∃ a X' S', fX4_read x y u v X = some (a, X') ∧ fX5_read x y u v S = some (a, S') ∧ R X' S' := by
  obtain ⟨N, B, hW, hn, hC, hM, e3, e4, hN, hK⟩ := h.data
  have w1 := hW.1
  rcases q_sheet x with ⟨k, hk, rfl, h1⟩ | ⟨-, h1, h2⟩
  · rcases q_lane hk y with ⟨l', hl', rfl, h3, h4⟩ | ⟨-, h3, h4⟩
    · rcases q_within v (a := 0) (b := 20) (by omega) with ⟨m, -, hm, rfl⟩ | ⟨-, v2⟩
      · obtain ⟨S1, i1, i2, i3⟩ := m_had_L (nI k) (nI l') u (nI m) 62 0 400 S (by omega) (by omega)
        have hR1 := h.had i2
        have hk4 := h.2.2.1 k hk
        rw [sh4_x hk] at hk4
        by_cases m0 : m = 0
        · subst m0
          refine ⟨nI 0, _, _, ?_, ?_, hR1.torn (nI 0)⟩
          · simp (disch := omega) only [fX4_read, lt, jn, q_lit, q_bnd, q_cl, q_le, q_lt, q_eq, pk_mul, nI_add, q_sub, q_div, q_pos, q_neg, q_T, q_F, q_max0, q_flg1, q_flg0, q_min, q_min2, q_bit, q_some, h1, h3, q_win, t_whole0, look0, run0]
          · simp (disch := omega) only [fX5_read, lt, jn, q_lit, q_bnd, q_cl, q_le, q_lt, q_eq, pk_mul, nI_add, q_sub, q_div, q_pos, q_neg, q_T, q_F, q_max0, q_flg1, q_flg0, q_min, q_min2, q_bit, q_some, q_in_0_127, q_in_0_1, q_in_0_2, q_in_0_3, q_in_0_4, q_in_0_5, q_in_0_9, q_in_0_10, q_in_0_20, q_in_1_20, q_in_48_57, q_in_97_122, q_inB, h4, q_win, i1]
            rw [fX5_read_L62]
            simp (disch := omega) only [lt, jn, q_lit, q_bnd, q_cl, q_le, q_lt, q_eq, pk_mul, nI_add, q_sub, q_div, q_pos, q_neg, q_T, q_F, q_max0, q_flg1, q_flg0, q_min, q_min2, q_bit, q_some]
        · rcases hk4 with ⟨s0, s20⟩ | ⟨s0, l, n, hl, hn40, s1, s20, s2, s21, s3⟩
          · have s20' : S1 20 k = -nI 4 := by rw [i2 20 (by decide)]; exact s20
            have ef : fX2_faultAs (nI l') (X (6 + k)) = some (nI 1) := by
              simp (disch := omega) only [fX2_faultAs, lt, jn, q_lit, q_bnd, q_cl, q_le, q_lt, q_eq, pk_mul, nI_add, q_sub, q_div, q_pos, q_neg, q_T, q_F, q_max0, q_flg1, q_flg0, q_min, q_min2, q_bit, q_some, s0]
            have tw : ∀ kk, fX5_read_L77 (nI k) (nI l') u (nI m) (nI 0) (nI 0) S1 kk 400 (nI 0) (nI 0) = kk (nI 1) := by
              intro kk
              rw [fX5_read_L77]
              simp (disch := omega) only [lt, jn, q_lit, q_bnd, q_cl, q_le, q_lt, q_eq, pk_mul, nI_add, q_sub, q_div, q_pos, q_neg, q_T, q_F, q_max0, q_flg1, q_flg0, q_min, q_min2, q_bit, q_some, s20', q_T]
              rw [fX5_read_L77]
              simp (disch := omega) only [lt, jn, q_lit, q_bnd, q_cl, q_le, q_lt, q_eq, pk_mul, nI_add, q_sub, q_div, q_pos, q_neg, q_T, q_F, q_max0, q_flg1, q_flg0, q_min, q_min2, q_bit, q_some]
            refine ⟨nI 0, _, _, ?_, ?_, hR1.torn (nI 1)⟩
            · simp (disch := omega) only [fX4_read, lt, jn, q_lit, q_bnd, q_cl, q_le, q_lt, q_eq, pk_mul, nI_add, q_sub, q_div, q_pos, q_neg, q_T, q_F, q_max0, q_flg1, q_flg0, q_min, q_min2, q_bit, q_some, h1, h3, q_win, ef, look0, run0]
            · simp (disch := omega) only [fX5_read, lt, jn, q_lit, q_bnd, q_cl, q_le, q_lt, q_eq, pk_mul, nI_add, q_sub, q_div, q_pos, q_neg, q_T, q_F, q_max0, q_flg1, q_flg0, q_min, q_min2, q_bit, q_some, q_in_0_127, q_in_0_1, q_in_0_2, q_in_0_3, q_in_0_4, q_in_0_5, q_in_0_9, q_in_0_10, q_in_0_20, q_in_1_20, q_in_48_57, q_in_97_122, q_inB, h4, q_win, i1]
              rw [m_stop (g := 398) _ _ (r := 1) (by omega) hm (by omega) tw]
          · have s20' : S1 20 k = nI l := by rw [i2 20 (by decide)]; exact s20
            have s21' : S1 21 k = nI n := by rw [i2 21 (by decide)]; exact s21
            by_cases ell : l = l'
            · subst ell
              have ef : fX2_faultAs (nI l) (X (6 + k)) = some (nI 0) := by
                simp (disch := omega) only [fX2_faultAs, lt, jn, q_lit, q_bnd, q_cl, q_le, q_lt, q_eq, pk_mul, nI_add, q_sub, q_div, q_pos, q_neg, q_T, q_F, q_max0, q_flg1, q_flg0, q_min, q_min2, q_bit, q_some, s0, s1]
              rcases t_cell s0 s2 hn40 u with ⟨f0, hf0, rfl, hc⟩ | ⟨hu, hc⟩
              · obtain ⟨W, g1, g2, g3, g4, g5⟩ := t_whole_L (n := m) s0 s2 hn40 hf0 hm (fun p8 => some p8) m 0 400 (by omega) (by omega) (by omega)
                have ew : fX2_wholePairs (nI f0) (nI m) (X (6 + k)) = some (nI W) := g5
                have hX := hC.1.1
                have s3' : ∀ i, i < n → X (6 + k) 3 i = S1 22 (40 * k + i) := fun i hi => by rw [i2 22 (by decide)]; exact s3 i hi
                have a24 : ∀ y, y < 62 → S1 24 y = S 0 y := fun y hy => by rw [i3, if_pos (by omega)]
                have look := fun p16 kk => t_look_L (X := X) (k := k) (f0 := f0) (W := W) (sz := n) (p16 := p16) hk hn40 g3 hX w1.1 kk W 0 400 (by omega) (by omega)
                have runs := fun (T : Nat) (hT : T ≤ W) (p16 : Int32) k205 k250 kx (hok : ∀ i, 0 ≤ i → i < T → okPair (N 0 0) (X (6 + k) 3) (f0 + 2 * i)) => run_L (T := T) (p16 := p16) hk hl hn40 hf0 w1.1 (by omega) g3 m g2 hm hT k205 k250 kx T 0 (400 - T) (400 - T) X S1 (by omega) hR1 hX s20' s21' s3' hok
                obtain ⟨p, hp⟩ : ∃ p, p = if m ≤ W then nI 0 else nI 2 := ⟨_, rfl⟩
                have ex : fX4_read (nI k) (nI l) (nI f0) (nI m) X = fX4_read_L89 X (nI k) (nI f0) (nI W) p (fun _ => fX4_read_L153 (nI k) (nI f0) (nI W) p (fun p31 => some (nI W, va_up p31 0 (va_up (p31 0) 7 (fun _ => p)))) 400 (nI 0) X) 400 (nI 0) := by
                  by_cases e : m ≤ W
                  · rw [if_pos e] at hp
                    subst hp
                    simp (disch := omega) only [fX4_read, lt, jn, q_lit, q_bnd, q_cl, q_le, q_lt, q_eq, pk_mul, nI_add, q_sub, q_div, q_pos, q_neg, q_T, q_F, q_max0, q_flg1, q_flg0, q_min, q_min2, q_bit, q_some, h1, h3, q_win, ef, ew]
                  · rw [if_neg e] at hp
                    subst hp
                    simp (disch := omega) only [fX4_read, lt, jn, q_lit, q_bnd, q_cl, q_le, q_lt, q_eq, pk_mul, nI_add, q_sub, q_div, q_pos, q_neg, q_T, q_F, q_max0, q_flg1, q_flg0, q_min, q_min2, q_bit, q_some, h1, h3, q_win, ef, ew]
                have ey : fX5_read (nI k) (nI l) (nI f0) (nI m) S = fX5_read_L62 (nI k) (nI l) (nI f0) (nI m) (fun p39 => fX5_read_L208 p39 (fun p45 => some (-nI 20 - p39.1, p45)) 400 (nI 0) p39.2) (fun p46 => some (p46.2.1, va_up p46.2.2 23 (fun _ => p46.1))) 400 (nI 0) (nI 0) (nI 0) S1 := by
                  simp (disch := omega) only [fX5_read, lt, jn, q_lit, q_bnd, q_cl, q_le, q_lt, q_eq, pk_mul, nI_add, q_sub, q_div, q_pos, q_neg, q_T, q_F, q_max0, q_flg1, q_flg0, q_min, q_min2, q_bit, q_some, q_in_0_127, q_in_0_1, q_in_0_2, q_in_0_3, q_in_0_4, q_in_0_5, q_in_0_9, q_in_0_10, q_in_0_20, q_in_1_20, q_in_48_57, q_in_97_122, q_inB, h4, q_win, i1]
                rcases look p (fun _ => fX4_read_L153 (nI k) (nI f0) (nI W) p (fun p31 => some (nI W, va_up p31 0 (va_up (p31 0) 7 (fun _ => p)))) 400 (nI 0) X) with ⟨ok, eL⟩ | ⟨i0, -, b2, b3, b4, eL⟩
                · obtain ⟨X', S', r1, r2, r3, r4, r5, r6, r7⟩ := runs W (Nat.le_refl W) p (fun p39 => fX5_read_L208 p39 (fun p45 => some (-nI 20 - p39.1, p45)) 400 (nI 0) p39.2) (fun p46 => some (p46.2.1, va_up p46.2.2 23 (fun _ => p46.1))) (fun p31 => some (nI W, va_up p31 0 (va_up (p31 0) 7 (fun _ => p)))) ok
                  obtain ⟨g', hg⟩ : ∃ g', 400 - W = g' + 2 := ⟨398 - W, by omega⟩
                  have e400 : 400 - W + W = 400 := by omega
                  rw [e400, hg] at r1 r2
                  refine ⟨nI W, va_up X' 0 (va_up (X' 0) 7 (fun _ => p)), va_up S' 23 (fun _ => p), ?_, ?_, r3.torn p⟩
                  · rw [ex, eL, r1, fX4_read_L153]
                    simp (disch := omega) only [lt, jn, q_lit, q_bnd, q_cl, q_le, q_lt, q_eq, pk_mul, nI_add, q_sub, q_div, q_pos, q_neg, q_T, q_F, q_max0, q_flg1, q_flg0, q_min, q_min2, q_bit, q_some]
                  · rw [ey, r2]
                    have s20'' : S' 20 k = nI l := by rw [r6 20 (by decide) (by decide)]; exact s20'
                    have s21'' : S' 21 k = nI n := by rw [r6 21 (by decide) (by decide)]; exact s21'
                    by_cases e : m ≤ W
                    · rw [if_pos e] at hp
                      subst hp
                      rw [fX5_read_L62]
                      simp (disch := omega) only [lt, jn, q_lit, q_bnd, q_cl, q_le, q_lt, q_eq, pk_mul, nI_add, q_sub, q_div, q_pos, q_neg, q_T, q_F, q_max0, q_flg1, q_flg0, q_min, q_min2, q_bit, q_some]
                    · rw [if_neg e] at hp
                      subst hp
                      have tw := fun kk => m_two (f0 := f0) (t := W) hk hl s20'' s21'' hn40 (by omega) (by omega) (nI m) (nI W) kk
                      rw [if_neg (by omega)] at tw
                      rw [m_stop (g := g') _ _ (r := 2) (by omega) hm (by omega) tw]
                · obtain ⟨X', S', r1, r2, r3, r4, r5, r6, r7⟩ := runs i0 (by omega) p (fun p39 => fX5_read_L208 p39 (fun p45 => some (-nI 20 - p39.1, p45)) 400 (nI 0) p39.2) (fun p46 => some (p46.2.1, va_up p46.2.2 23 (fun _ => p46.1))) (fun p31 => some (nI W, va_up p31 0 (va_up (p31 0) 7 (fun _ => p)))) (fun i _ hi => b3 i (by omega) hi)
                  obtain ⟨g', hg⟩ : ∃ g', 400 - i0 = g' + 1 := ⟨399 - i0, by omega⟩
                  have e400 : 400 - i0 + i0 = 400 := by omega
                  rw [e400, hg] at r2
                  have s20'' : S' 20 k = nI l := by rw [r6 20 (by decide) (by decide)]; exact s20'
                  have s21'' : S' 21 k = nI n := by rw [r6 21 (by decide) (by decide)]; exact s21'
                  have s3'' : S' 3 0 = nI (N 0 0) := by rw [r6 3 (by decide) (by decide), i2 3 (by decide)]; exact e3
                  have tw := fun kk => m_two (f0 := f0) (t := i0) hk hl s20'' s21'' hn40 (by omega) (by omega) (nI m) (nI i0) kk
                  rw [if_pos (by omega)] at tw
                  have c1 : S' 22 (40 * k + f0 + 2 * i0) = X (6 + k) 3 (f0 + 2 * i0) := by
                    rw [s3' _ (by omega), r6 22 (by decide) (by decide)]
                    exact congrArg (S1 22) (by omega)
                  have c2 : S' 22 (40 * k + f0 + 2 * i0 + 1) = X (6 + k) 3 (f0 + 2 * i0 + 1) := by
                    rw [s3' _ (by omega), r6 22 (by decide) (by decide)]
                    exact congrArg (S1 22) (by omega)
                  have fb : fX5_fold (X (6 + k) 3 (f0 + 2 * i0)) (X (6 + k) 3 (f0 + 2 * i0 + 1)) S' = some (-nI 1, S') := by
                    rcases pair_cases hX w1.1 (X (6 + k) 3) (f0 + 2 * i0) with ⟨q1, -⟩ | ⟨-, q2⟩
                    · exact absurd q1 b4
                    · exact fold_bad s3'' hX _ _ q2
                  obtain ⟨S2, u1, u2, u3⟩ := m_un_L (nI i0, S') 62 0 400 S' (by omega) (by omega)
                  have f0' : S2 0 = S 0 := by
                    funext x
                    rw [u3]
                    by_cases hx : x < 62
                    · rw [if_pos (by omega), r6 24 (by decide) (by decide)]
                      exact a24 x hx
                    · rw [if_neg (by omega), r7 x (by omega), i2 0 (by decide)]
                  have hR2 : R X S2 := by
                    have hm1 : R X (va_up S 1 (S2 1)) := h.me fun q hq => by rw [q_up, if_neg hq]
                    refine hm1.had fun q hq => ?_
                    rw [q_up]
                    by_cases q1 : q = 1
                    · rw [if_pos q1, q1]
                    · rw [if_neg q1]
                      by_cases q0 : q = 0
                      · rw [q0]
                        exact f0'
                      · rw [u2 q q0, r6 q q0 q1, i2 q hq]
                  refine ⟨-nI 20 - nI i0, X, S2, ?_, ?_, hR2⟩
                  · rw [ex, eL]
                  · rw [ey, r2, fX5_read_L62]
                    simp (disch := omega) only [lt, jn, q_lit, q_bnd, q_cl, q_le, q_lt, q_eq, pk_mul, nI_add, q_neg, q_T, q_F, q_some, tw]
                    rw [c1, c2, fb, q_some, q_neg (show ¬ nI 0 ≤ -nI 1 by decide)]
                    rw [u1]
              · have tw := fun kk => m_out (S := S1) hk hl s20' s21' hn40 hu (nI m) (nI 0) kk
                have ew := t_wholeN (Q := X (6 + k)) (x := u) (m := m) (by omega) hc
                refine ⟨nI 0, _, _, ?_, ?_, hR1.torn (nI 2)⟩
                · simp (disch := omega) only [fX4_read, lt, jn, q_lit, q_bnd, q_cl, q_le, q_lt, q_eq, pk_mul, nI_add, q_sub, q_div, q_pos, q_neg, q_T, q_F, q_max0, q_flg1, q_flg0, q_min, q_min2, q_bit, q_some, h1, h3, q_win, ef, ew, look0, run0]
                · simp (disch := omega) only [fX5_read, lt, jn, q_lit, q_bnd, q_cl, q_le, q_lt, q_eq, pk_mul, nI_add, q_sub, q_div, q_pos, q_neg, q_T, q_F, q_max0, q_flg1, q_flg0, q_min, q_min2, q_bit, q_some, q_in_0_127, q_in_0_1, q_in_0_2, q_in_0_3, q_in_0_4, q_in_0_5, q_in_0_9, q_in_0_10, q_in_0_20, q_in_1_20, q_in_48_57, q_in_97_122, q_inB, h4, q_win, i1]
                  rw [m_stop (g := 398) _ _ (r := 2) (by omega) hm (by omega) tw]
            · have ef : fX2_faultAs (nI l') (X (6 + k)) = some (nI 3) := by
                simp (disch := omega) only [fX2_faultAs, lt, jn, q_lit, q_bnd, q_cl, q_le, q_lt, q_eq, pk_mul, nI_add, q_sub, q_div, q_pos, q_neg, q_T, q_F, q_max0, q_flg1, q_flg0, q_min, q_min2, q_bit, q_some, s0, s1]
              have tw : ∀ kk, fX5_read_L77 (nI k) (nI l') u (nI m) (nI 0) (nI 0) S1 kk 400 (nI 0) (nI 0) = kk (nI 3) := by
                intro kk
                have l4 := neg4 l hl
                rw [fX5_read_L77]
                simp (disch := omega) only [lt, jn, q_lit, q_bnd, q_cl, q_le, q_lt, q_eq, pk_mul, nI_add, q_sub, q_div, q_pos, q_neg, q_T, q_F, q_max0, q_flg1, q_flg0, q_min, q_min2, q_bit, q_some, s20', l4]
                rw [fX5_read_L77]
                simp (disch := omega) only [lt, jn, q_lit, q_bnd, q_cl, q_le, q_lt, q_eq, pk_mul, nI_add, q_sub, q_div, q_pos, q_neg, q_T, q_F, q_max0, q_flg1, q_flg0, q_min, q_min2, q_bit, q_some]
              refine ⟨nI 0, _, _, ?_, ?_, hR1.torn (nI 3)⟩
              · simp (disch := omega) only [fX4_read, lt, jn, q_lit, q_bnd, q_cl, q_le, q_lt, q_eq, pk_mul, nI_add, q_sub, q_div, q_pos, q_neg, q_T, q_F, q_max0, q_flg1, q_flg0, q_min, q_min2, q_bit, q_some, h1, h3, q_win, ef, look0, run0]
              · simp (disch := omega) only [fX5_read, lt, jn, q_lit, q_bnd, q_cl, q_le, q_lt, q_eq, pk_mul, nI_add, q_sub, q_div, q_pos, q_neg, q_T, q_F, q_max0, q_flg1, q_flg0, q_min, q_min2, q_bit, q_some, q_in_0_127, q_in_0_1, q_in_0_2, q_in_0_3, q_in_0_4, q_in_0_5, q_in_0_9, q_in_0_10, q_in_0_20, q_in_1_20, q_in_48_57, q_in_97_122, q_inB, h4, q_win, i1]
                rw [m_stop (g := 398) _ _ (r := 3) (by omega) hm (by omega) tw]
      · refine ⟨-1, X, S, ?_, ?_, h⟩
        · simp (disch := omega) only [fX4_read, lt, jn, q_lit, q_bnd, q_cl, q_le, q_lt, q_eq, pk_mul, nI_add, q_sub, q_div, q_pos, q_neg, q_T, q_F, q_max0, q_flg1, q_flg0, q_min, q_min2, q_bit, q_some, h1, h3, v2]
        · simp (disch := omega) only [fX5_read, lt, jn, q_lit, q_bnd, q_cl, q_le, q_lt, q_eq, pk_mul, nI_add, q_sub, q_div, q_pos, q_neg, q_T, q_F, q_max0, q_flg1, q_flg0, q_min, q_min2, q_bit, q_some, q_in_0_127, q_in_0_1, q_in_0_2, q_in_0_3, q_in_0_4, q_in_0_5, q_in_0_9, q_in_0_10, q_in_0_20, q_in_1_20, q_in_48_57, q_in_97_122, q_inB, h4, v2]
    · refine ⟨-1, X, S, ?_, ?_, h⟩
      · simp (disch := omega) only [fX4_read, lt, jn, q_lit, q_bnd, q_cl, q_le, q_lt, q_eq, pk_mul, nI_add, q_sub, q_div, q_pos, q_neg, q_T, q_F, q_max0, q_flg1, q_flg0, q_min, q_min2, q_bit, q_some, h1, h3]
      · simp (disch := omega) only [fX5_read, lt, jn, q_lit, q_bnd, q_cl, q_le, q_lt, q_eq, pk_mul, nI_add, q_sub, q_div, q_pos, q_neg, q_T, q_F, q_max0, q_flg1, q_flg0, q_min, q_min2, q_bit, q_some, h4]
  · refine ⟨-1, X, S, ?_, ?_, h⟩
    · simp (disch := omega) only [fX4_read, lt, jn, q_lit, q_bnd, q_cl, q_le, q_lt, q_eq, pk_mul, nI_add, q_sub, q_div, q_pos, q_neg, q_T, q_F, q_max0, q_flg1, q_flg0, q_min, q_min2, q_bit, q_some, h1]
    · simp (disch := omega) only [fX5_read, lt, jn, q_lit, q_bnd, q_cl, q_le, q_lt, q_eq, pk_mul, nI_add, q_sub, q_div, q_pos, q_neg, q_T, q_F, q_max0, q_flg1, q_flg0, q_min, q_min2, q_bit, q_some, h2]
