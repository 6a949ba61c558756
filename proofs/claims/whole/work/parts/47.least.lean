theorem raise_L {X : M3} {S : M2} {N : NN} {B : BB} (hC : CS N B (X 2)) (hW : WF N B) (h3 : S 3 0 = nI (N 0 0)) (h4 : S 4 0 = nI (N 7 0)) (hM : MS N B (S 0)) (w : Int32) : ∀ (d b f g : Nat) (least : Nat) (found : Int32) (Q S1 : M2), b + d = N 0 0 → d < f → d < g → least ≤ 405 → ME S S1 → ∃ (least' : Nat) (found' : Int32) (Q' S' : M2), (∀ kk : (Int32 × Int32 × M3) → Option (Int32 × M3), fX4_leastBy_L32 (nI 0) w kk f found (nI least) (nI b) (va_up X 3 Q) = kk (found', nI least', va_up X 3 Q')) ∧ (∀ kk : (Int32 × Int32 × M2) → Option (Int32 × M2), fX5_raise_L24 w kk g (nI least) found (nI b) S1 = kk (nI least', found', S')) ∧ ME S S'
  | 0, b, f + 1, g + 1, least, found, Q, S1, hb, hf, hg, hl, hE => by
    have w1 := hW.1
    have e : b = N 0 0 := by omega
    subst e
    have h3' : S1 3 0 = nI (N 0 0) := by rw [hE 3 (by decide)]; exact h3
    refine ⟨least, found, Q, S1, fun kk => ?_, fun kk => ?_, hE⟩
    · simp (disch := omega) only [fX4_leastBy_L32, lt, jn, q_lit, q_bnd, q_cl, q_le, q_lt, q_eq, pk_mul, nI_add, q_sub, q_div, q_pos, q_neg, q_T, q_F, q_max0, q_flg1, q_flg0, q_min, q_min2, q_bit, q_some, q_up, hC.1.1]
    · simp (disch := omega) only [fX5_raise_L24, lt, jn, q_lit, q_bnd, q_cl, q_le, q_lt, q_eq, pk_mul, nI_add, q_sub, q_div, q_pos, q_neg, q_T, q_F, q_max0, q_flg1, q_flg0, q_min, q_min2, q_bit, q_some, h3']
  | d + 1, b, f + 1, g + 1, least, found, Q, S1, hb, hf, hg, hl, hE => by
    have w1 := hW.1
    have hbn : b < N 0 0 := by omega
    have h3' : S1 3 0 = nI (N 0 0) := by rw [hE 3 (by decide)]; exact h3
    obtain ⟨k, i, hk, hi⟩ := hW.2.2.2.2.ex hbn
    obtain ⟨Q0, c1, c2⟩ := t_copy Q hC hW
    have eb := t_baleOf c2 hW hk hi
    obtain ⟨Q1, p1, p2, p3⟩ := t_putOnTop c2 hW hk hk hi
    obtain ⟨Q2, q1, q2, q3⟩ := t_loose (fl := 15) (by omega) p2 p3
    have qd := t_dutyAll q2 q3
    have ql := spAll_le q3
    obtain ⟨S2, i1, i2⟩ := m_starts hE h3 h4 hM hW
    have m4 := (i2.2.2.2.2.2.2.2 k hk i b hi).1
    obtain ⟨S3, j1, j2⟩ := m_folds i2 hW hk hk hi true
    have j1' : fX5_folds (nI b) (nI k) (nI 1) S2 = some S3 := j1
    rw [if_pos rfl] at j2
    obtain ⟨S4, l1, l2, l3⟩ := m_next j2 p3
    by_cases el : least ≤ spAll (spNight N (spTop (spTake B k i) k b) 15) (spTop (spTake B k i) k b)
    · obtain ⟨least', found', Q', S', r1, r2, r3⟩ := raise_L hC hW h3 h4 hM w d (b + 1) f g least found Q2 S4 (by omega) (by omega) (by omega) hl (ME.ma l2)
      refine ⟨least', found', Q', S', fun kk => ?_, fun kk => ?_, r3⟩
      · simp (disch := omega) only [fX4_leastBy_L32, lt, jn, q_lit, q_bnd, q_cl, q_le, q_lt, q_eq, pk_mul, nI_add, q_sub, q_div, q_pos, q_neg, q_T, q_F, q_max0, q_flg1, q_flg0, q_min, q_min2, q_bit, q_some, q_up, hC.1.1, c1, up_up, eb, p1, q1, qd, r1]
      · simp (disch := omega) only [fX5_raise_L24, fX5_of, lt, jn, q_lit, q_bnd, q_cl, q_le, q_lt, q_eq, pk_mul, nI_add, q_sub, q_div, q_pos, q_neg, q_T, q_F, q_max0, q_flg1, q_flg0, q_min, q_min2, q_bit, q_some, h3', i1, m4, j1', l1, r2]
    · obtain ⟨least', found', Q', S', r1, r2, r3⟩ := raise_L hC hW h3 h4 hM w d (b + 1) f g (spAll (spNight N (spTop (spTake B k i) k b) 15) (spTop (spTake B k i) k b)) (nI b) Q2 S4 (by omega) (by omega) (by omega) ql (ME.ma l2)
      refine ⟨least', found', Q', S', fun kk => ?_, fun kk => ?_, r3⟩
      · simp (disch := omega) only [fX4_leastBy_L32, lt, jn, q_lit, q_bnd, q_cl, q_le, q_lt, q_eq, pk_mul, nI_add, q_sub, q_div, q_pos, q_neg, q_T, q_F, q_max0, q_flg1, q_flg0, q_min, q_min2, q_bit, q_some, q_up, hC.1.1, c1, up_up, eb, p1, q1, qd, r1]
      · simp (disch := omega) only [fX5_raise_L24, fX5_of, lt, jn, q_lit, q_bnd, q_cl, q_le, q_lt, q_eq, pk_mul, nI_add, q_sub, q_div, q_pos, q_neg, q_T, q_F, q_max0, q_flg1, q_flg0, q_min, q_min2, q_bit, q_some, h3', i1, m4, j1', l1, r2]
theorem k_raise {X : M3} {S : M2} (h : R X S) (w : Int32) : ∃ a X' S', fX4_raise w X = some (a, X') ∧ fX5_raise w S = some (a, S') ∧ R X' S' := by
  obtain ⟨N, B, hW, hn, hC, hM, e3, e4, hN, hK⟩ := h.data
  have w1 := hW.1
  rcases t_isPart w with ⟨j, j2, rfl, e6, e7⟩ | ⟨j1, e6, e7⟩
  · obtain ⟨S1, i1, i2, -⟩ := hN.starts
    obtain ⟨S2, i3, i4, i5⟩ := m_next i2 hW
    obtain ⟨Q, q1, q2, q3⟩ := t_try (X := X) (fl := 15) (by omega) hC hW
    have qd := t_dutyAll q2 q3
    obtain ⟨least', found', Q', S', r1, r2, r3⟩ := raise_L hC hW e3 e4 hM (nI j) (N 0 0) 0 400 400 (spAll (spNight N B 15) B) (-nI 4) Q S2 (by omega) (by omega) (by omega) (spAll_le q3) (ME.ma i4)
    refine ⟨if j = 0 then found' else if found' = -nI 4 then found' else nI least', va_up X 3 Q', S', ?_, ?_, (h.xe xe3).me r3⟩
    · unfold fX4_raise fX4_leastBy
      simp (disch := omega) only [lt, q_lit, q_some, e7, q_eq, q_neg, q1, q_up, q_T, qd, r1]
      by_cases a1 : j = 0
      · simp (disch := omega) only [a1, q_T, q_some]
      · simp (disch := omega) only [a1, q_F, q_some]
        by_cases a2 : found' = -nI 4
        · simp (disch := omega) only [a2, q_T, q_some]
        · simp (disch := omega) only [a2, q_F, q_some]
    · unfold fX5_raise
      simp (disch := omega) only [lt, q_lit, q_some, e6, q_eq, q_neg, i1, i3, r2]
      by_cases a2 : found' = -nI 4
      · by_cases a1 : j = 0
        · simp (disch := omega) only [a1, a2, q_T]
        · simp (disch := omega) only [a1, a2, q_T, q_F]
      · by_cases a1 : j = 0
        · simp (disch := omega) only [a1, a2, q_T, q_F]
        · simp (disch := omega) only [a1, a2, q_F]
  · refine ⟨-1, X, S, ?_, ?_, h⟩
    · unfold fX4_raise fX4_leastBy
      rw [show fX4_within w (0 : Int32) (1 : Int32) = some (nI 0) from e7, q_some]
      rfl
    · unfold fX5_raise
      rw [e6, q_some]
      rfl
theorem send_L {X : M3} {S : M2} {N : NN} {B : BB} (hC : CS N B (X 2)) (hW : WF N B) (h3 : S 3 0 = nI (N 0 0)) (h4 : S 4 0 = nI (N 7 0)) (hM : MS N B (S 0)) {m : Nat} (hm : m < N 7 0) (w : Int32) : ∀ (d k f g : Nat) (bale most : Int32) (X1 : M3) (S1 : M2), k + d = 3 → d < f → d < g → (∀ q, q ≠ 3 → X1 q = X q) → ME S S1 → ∃ (bale' most' : Int32) (X' : M3) (S' : M2), (∀ kk : (Int32 × Int32 × M3) → Option (Int32 × M3), fX4_send_L30 (nI m) w kk f bale most (nI k) X1 = kk (bale', most', X')) ∧ (∀ kk : (Int32 × Int32 × M2) → Option (Int32 × M2), fX5_send_L25 (nI m) w kk g most bale (nI k) S1 = kk (most', bale', S')) ∧ (∀ q, q ≠ 3 → X' q = X q) ∧ ME S S'
  | 0, k, f + 1, g + 1, bale, most, X1, S1, hb, hf, hg, hX, hE => by
    have e : k = 3 := by omega
    subst e
    refine ⟨bale, most, X1, S1, fun kk => ?_, fun kk => ?_, hX, hE⟩
    · simp (disch := omega) only [fX4_send_L30, lt, jn, q_lit, q_bnd, q_cl, q_le, q_lt, q_eq, pk_mul, nI_add, q_sub, q_div, q_pos, q_neg, q_T, q_F, q_max0, q_flg1, q_flg0, q_min, q_min2, q_bit, q_some]
    · simp (disch := omega) only [fX5_send_L25, lt, jn, q_lit, q_bnd, q_cl, q_le, q_lt, q_eq, pk_mul, nI_add, q_sub, q_div, q_pos, q_neg, q_T, q_F, q_max0, q_flg1, q_flg0, q_min, q_min2, q_bit, q_some]
  | d + 1, k, f + 1, g + 1, bale, most, X1, S1, hb, hf, hg, hX, hE => by
    have w1 := hW.1
    have x2 := hX 2 (by decide)
    obtain ⟨Q0, c1, c2⟩ := t_copy (X1 3) hC hW
    have hW2 := hW.tr3 (m := m) (v := k) (by omega)
    obtain ⟨Q2, q1, q2, q3⟩ := t_loose (fl := 15) (by omega) (c2.tr3 m k) hW2
    have qd := t_dutyAll q2 q3
    obtain ⟨S2, i1, i2⟩ := m_starts hE h3 h4 hM hW
    have i3 : MA (va_up N 11 (va_up (N 11) m k)) B S (va_up S2 1 (upd (S2 1) (30 + 4 * m + 3) (nI k))) := ⟨fun q hq => by rw [q_up, if_neg hq]; exact i2.1 q hq, i2.2.1, i2.2.2.1, by
      rw [q_up, if_pos rfl]
      exact i2.2.2.2.tr3 hW hm⟩
    obtain ⟨S4, l1, l2, l3⟩ := m_next i3 hW2
    by_cases el : nI (spAll (spNight (va_up N 11 (va_up (N 11) m k)) B 15) B) ≤ most
    · obtain ⟨bale', most', X', S', r1, r2, r3⟩ := send_L hC hW h3 h4 hM hm w d (k + 1) f g bale most (va_up X1 3 Q2) S4 (by omega) (by omega) (by omega) (fun q hq => by rw [q_up, if_neg hq]; exact hX q hq) (ME.ma l2)
      refine ⟨bale', most', X', S', fun kk => ?_, fun kk => ?_, r3⟩
      · simp (disch := omega) only [fX4_send_L30, lt, jn, q_lit, q_bnd, q_cl, q_le, q_lt, q_eq, pk_mul, nI_add, q_sub, q_div, q_pos, q_neg, q_T, q_F, q_max0, q_flg1, q_flg0, q_min, q_min2, q_bit, q_some, x2, c1, q_up, up_up, q1, qd, el, r1]
      · simp (disch := omega) only [fX5_send_L25, lt, jn, q_lit, q_bnd, q_cl, q_le, q_lt, q_eq, pk_mul, nI_add, q_sub, q_div, q_pos, q_neg, q_T, q_F, q_max0, q_flg1, q_flg0, q_min, q_min2, q_bit, q_some, i1, l1, el, r2]
    · obtain ⟨bale', most', X', S', r1, r2, r3⟩ := send_L hC hW h3 h4 hM hm w d (k + 1) f g (nI k) (nI (spAll (spNight (va_up N 11 (va_up (N 11) m k)) B 15) B)) (va_up X1 3 Q2) S4 (by omega) (by omega) (by omega) (fun q hq => by rw [q_up, if_neg hq]; exact hX q hq) (ME.ma l2)
      refine ⟨bale', most', X', S', fun kk => ?_, fun kk => ?_, r3⟩
      · simp (disch := omega) only [fX4_send_L30, lt, jn, q_lit, q_bnd, q_cl, q_le, q_lt, q_eq, pk_mul, nI_add, q_sub, q_div, q_pos, q_neg, q_T, q_F, q_max0, q_flg1, q_flg0, q_min, q_min2, q_bit, q_some, x2, c1, q_up, up_up, q1, qd, el, r1]
      · simp (disch := omega) only [fX5_send_L25, lt, jn, q_lit, q_bnd, q_cl, q_le, q_lt, q_eq, pk_mul, nI_add, q_sub, q_div, q_pos, q_neg, q_T, q_F, q_max0, q_flg1, q_flg0, q_min, q_min2, q_bit, q_some, i1, l1, el, r2]
theorem k_send {X : M3} {S : M2} (h : R X S) (x w : Int32) : ∃ a X' S', fX4_send x w X = some (a, X') ∧ fX5_send x w S = some (a, S') ∧ R X' S' := by
  obtain ⟨N, B, hW, hn, hC, hM, e3, e4, hN, hK⟩ := h.data
  have w1 := hW.1
  have c7 := hC.1.2.2.1
  have eb : fX5_isMoth x S = fX1_hasMoth x (X 2) := m_isMoth (e4.trans c7.symm) x
  rcases t_hasMoth c7 (by omega) x with ⟨m, hm, rfl, h1⟩ | ⟨-, h1⟩
  · rw [h1] at eb
    rcases t_isPart w with ⟨j, j2, rfl, e6, e7⟩ | ⟨j1, e6, e7⟩
    · obtain ⟨bale', most', X', S', r1, r2, r3, r4⟩ := send_L hC hW e3 e4 hM hm (nI j) 3 0 400 400 (nI 0) (-nI 1) X S (by omega) (by omega) (by omega) (fun _ _ => rfl) (fun _ _ => rfl)
      refine ⟨if j = 0 then bale' else most', X', S', ?_, ?_, (h.xe fun k a1 _ _ => r3 k a1).me r4⟩
      · simp (disch := omega) only [fX4_send, lt, q_lit, q_some, h1, e7, q_eq, q_neg, r1]
        by_cases a1 : j = 0
        · simp (disch := omega) only [a1, q_T]
        · simp (disch := omega) only [a1, q_F]
      · simp (disch := omega) only [fX5_send, lt, q_lit, q_some, eb, e6, q_eq, q_neg, r2]
        by_cases a1 : j = 0
        · simp (disch := omega) only [a1, q_T]
        · simp (disch := omega) only [a1, q_F]
    · refine ⟨-1, X, S, ?_, ?_, h⟩
      · simp (disch := omega) only [fX4_send, lt, jn, q_lit, q_bnd, q_cl, q_le, q_lt, q_eq, pk_mul, nI_add, q_sub, q_div, q_pos, q_neg, q_T, q_F, q_max0, q_flg1, q_flg0, q_min, q_min2, q_bit, q_some, h1, e7]
      · simp (disch := omega) only [fX5_send, lt, jn, q_lit, q_bnd, q_cl, q_le, q_lt, q_eq, pk_mul, nI_add, q_sub, q_div, q_pos, q_neg, q_T, q_F, q_max0, q_flg1, q_flg0, q_min, q_min2, q_bit, q_some, eb, e6]
  · rw [h1] at eb
    refine ⟨-1, X, S, ?_, ?_, h⟩
    · simp (disch := omega) only [fX4_send, lt, jn, q_lit, q_bnd, q_cl, q_le, q_lt, q_eq, pk_mul, nI_add, q_sub, q_div, q_pos, q_neg, q_T, q_F, q_max0, q_flg1, q_flg0, q_min, q_min2, q_bit, q_some, h1]
    · simp (disch := omega) only [fX5_send, lt, jn, q_lit, q_bnd, q_cl, q_le, q_lt, q_eq, pk_mul, nI_add, q_sub, q_div, q_pos, q_neg, q_T, q_F, q_max0, q_flg1, q_flg0, q_min, q_min2, q_bit, q_some, eb]
