/-! the text: bytes, tokens -/
def TB (c : Nat → Nat) (n : Nat) (T S : M2) : Prop := n ≤ 160 ∧ T 1 0 = nI n ∧ S 12 0 = nI n ∧ ∀ i, i < n → c i < 128 ∧ T 0 i = nI (c i) ∧ S 11 i = nI (c i)
theorem tb_of {T : M2} {tp : Nat → Int32} {s12 s17 : Int32} (h : RT T tp s12 s17) : ∃ (c : Nat → Nat) (n : Nat), n ≤ 160 ∧ T 1 0 = nI n ∧ s12 = nI n ∧ ∀ i, i < n → c i < 128 ∧ T 0 i = nI (c i) ∧ tp i = nI (c i) := by
  obtain ⟨⟨n, h1, h2, h3, h4⟩, -⟩ := h
  have : ∀ i, ∃ c, i < n → c < 128 ∧ T 0 i = nI c ∧ tp i = nI c := by
    intro i
    by_cases hi : i < n
    · obtain ⟨c, hc⟩ := h4 i hi
      exact ⟨c, fun _ => hc⟩
    · exact ⟨0, fun q => absurd q hi⟩
  have ⟨c, hc⟩ := Classical.axiomOfChoice this
  exact ⟨c, n, h1, h2, h3, hc⟩
theorem m_byte {c : Nat → Nat} {n : Nat} {T S : M2} (h : TB c n T S) {p : Nat} (hp : p < 2 ^ 30) : fX5_byteAt (nI p) S = some (if p < n then nI (c p) else -nI 1) := by
  obtain ⟨h1, h2, h3, h4⟩ := h
  by_cases e : p < n
  · simp (disch := omega) only [fX5_byteAt, lt, jn, q_lit, q_bnd, q_cl, q_le, q_lt, q_eq, pk_mul, nI_add, q_sub, q_div, q_pos, q_neg, q_T, q_F, q_max0, q_flg1, q_flg0, q_min, q_min2, q_bit, q_some, h3, (h4 p e).2.2]
  · simp (disch := omega) only [fX5_byteAt, lt, jn, q_lit, q_bnd, q_cl, q_le, q_lt, q_eq, pk_mul, nI_add, q_sub, q_div, q_pos, q_neg, q_T, q_F, q_max0, q_flg1, q_flg0, q_min, q_min2, q_bit, q_some, h3]
theorem let_t {ch : Nat} (h : ch < 128) : fX3_isLetter (nI ch) = some (nI (decide (97 ≤ ch ∧ ch ≤ 122)).toNat) := by
  by_cases e1 : ch < 97
  · simp (disch := omega) only [fX3_isLetter, lt, jn, q_lit, q_bnd, q_cl, q_le, q_lt, q_eq, pk_mul, nI_add, q_sub, q_div, q_pos, q_neg, q_T, q_F, q_max0, q_flg1, q_flg0, q_min, q_min2, q_bit, q_some]
    rw [decide_eq_false (by omega)]
    rfl
  · by_cases e2 : 122 < ch
    · simp (disch := omega) only [fX3_isLetter, lt, jn, q_lit, q_bnd, q_cl, q_le, q_lt, q_eq, pk_mul, nI_add, q_sub, q_div, q_pos, q_neg, q_T, q_F, q_max0, q_flg1, q_flg0, q_min, q_min2, q_bit, q_some]
      rw [decide_eq_false (by omega)]
      rfl
    · simp (disch := omega) only [fX3_isLetter, lt, jn, q_lit, q_bnd, q_cl, q_le, q_lt, q_eq, pk_mul, nI_add, q_sub, q_div, q_pos, q_neg, q_T, q_F, q_max0, q_flg1, q_flg0, q_min, q_min2, q_bit, q_some]
      rw [decide_eq_true (by omega)]
      rfl
theorem fig_t {ch : Nat} (h : ch < 128) : fX3_isFigure (nI ch) = some (nI (decide (48 ≤ ch ∧ ch ≤ 57)).toNat) := by
  by_cases e1 : ch < 48
  · simp (disch := omega) only [fX3_isFigure, lt, jn, q_lit, q_bnd, q_cl, q_le, q_lt, q_eq, pk_mul, nI_add, q_sub, q_div, q_pos, q_neg, q_T, q_F, q_max0, q_flg1, q_flg0, q_min, q_min2, q_bit, q_some]
    rw [decide_eq_false (by omega)]
    rfl
  · by_cases e2 : 57 < ch
    · simp (disch := omega) only [fX3_isFigure, lt, jn, q_lit, q_bnd, q_cl, q_le, q_lt, q_eq, pk_mul, nI_add, q_sub, q_div, q_pos, q_neg, q_T, q_F, q_max0, q_flg1, q_flg0, q_min, q_min2, q_bit, q_some]
      rw [decide_eq_false (by omega)]
      rfl
    · simp (disch := omega) only [fX3_isFigure, lt, jn, q_lit, q_bnd, q_cl, q_le, q_lt, q_eq, pk_mul, nI_add, q_sub, q_div, q_pos, q_neg, q_T, q_F, q_max0, q_flg1, q_flg0, q_min, q_min2, q_bit, q_some]
      rw [decide_eq_true (by omega)]
      rfl
theorem within_b {ch a b : Nat} (h : ch < 2 ^ 30 ∧ a < 2 ^ 30 ∧ b < 2 ^ 30) : fX4_within (nI ch) (nI a) (nI b) = some (nI (decide (a ≤ ch ∧ ch ≤ b)).toNat) := by
  by_cases e1 : ch < a
  · simp (disch := omega) only [fX4_within, lt, jn, q_lit, q_bnd, q_cl, q_le, q_lt, q_eq, pk_mul, nI_add, q_sub, q_div, q_pos, q_neg, q_T, q_F, q_max0, q_flg1, q_flg0, q_min, q_min2, q_bit, q_some]
    rw [decide_eq_false (by omega)]
    rfl
  · by_cases e2 : b < ch
    · simp (disch := omega) only [fX4_within, lt, jn, q_lit, q_bnd, q_cl, q_le, q_lt, q_eq, pk_mul, nI_add, q_sub, q_div, q_pos, q_neg, q_T, q_F, q_max0, q_flg1, q_flg0, q_min, q_min2, q_bit, q_some]
      rw [decide_eq_false (by omega)]
      rfl
    · simp (disch := omega) only [fX4_within, lt, jn, q_lit, q_bnd, q_cl, q_le, q_lt, q_eq, pk_mul, nI_add, q_sub, q_div, q_pos, q_neg, q_T, q_F, q_max0, q_flg1, q_flg0, q_min, q_min2, q_bit, q_some]
      rw [decide_eq_true (by omega)]
      rfl
theorem let_m {ch : Nat} (h : ch < 128) : fX5_in (nI ch).toInt64 97 122 = some (nI (decide (97 ≤ ch ∧ ch ≤ 122)).toNat) := by
  rw [q_in_97_122, within_b (by omega)]
theorem fig_m {ch : Nat} (h : ch < 128) : fX5_in (nI ch).toInt64 48 57 = some (nI (decide (48 ≤ ch ∧ ch ≤ 57)).toNat) := by
  rw [q_in_48_57, within_b (by omega)]
theorem let_1 : fX5_in (-nI 1).toInt64 97 122 = some (nI 0) := by decide
theorem fig_1 : fX5_in (-nI 1).toInt64 48 57 = some (nI 0) := by decide
/-- blanks -/
theorem blanks {c : Nat → Nat} {n : Nat} : ∀ (d p f g : Nat) (T S : M2), TB c n T S → p + d = n → d < f → d < g → T 5 0 = nI p → S 13 0 = nI p → ∃ (q : Nat) (T' S' : M2), p ≤ q ∧ q ≤ n ∧ (q < n → c q ≠ 32) ∧ (∀ kk : M2 → Option M2, fX3_nextToken_L0 kk f T = kk T') ∧ (∀ kk : M2 → Option M2, fX5_next_L8 kk g S = kk S') ∧ (∀ k, k ≠ 5 → T' k = T k) ∧ (∀ k, k ≠ 13 → S' k = S k) ∧ T' 5 0 = nI q ∧ S' 13 0 = nI q
  | 0, p, f + 1, g + 1, T, S, h, hp, hf, hg, t5, s13 => by
    have h1 := h.1
    have e : p = n := by omega
    refine ⟨p, T, S, by omega, by omega, fun q => by omega, fun kk => ?_, fun kk => ?_, fun _ _ => rfl, fun _ _ => rfl, t5, s13⟩
    · simp (disch := omega) only [fX3_nextToken_L0, lt, jn, q_lit, q_bnd, q_cl, q_le, q_lt, q_eq, pk_mul, nI_add, q_sub, q_div, q_pos, q_neg, q_T, q_F, q_max0, q_flg1, q_flg0, q_min, q_min2, q_bit, q_some, t5, h.2.1]
    · have := m_byte h (p := p) (by omega)
      rw [if_neg (by omega)] at this
      have e2 : ¬ -nI 1 = nI 32 := by decide
      simp (disch := omega) only [fX5_next_L8, lt, jn, q_lit, q_bnd, q_cl, q_le, q_lt, q_eq, pk_mul, nI_add, q_sub, q_div, q_pos, q_neg, q_T, q_F, q_max0, q_flg1, q_flg0, q_min, q_min2, q_bit, q_some, s13, this, e2]
  | d + 1, p, f + 1, g + 1, T, S, h, hp, hf, hg, t5, s13 => by
    have h1 := h.1
    have hb := m_byte h (p := p) (by omega)
    rw [if_pos (by omega)] at hb
    obtain ⟨c1, c2, c3⟩ := h.2.2.2 p (by omega)
    by_cases e : c p = 32
    · have hT : TB c n (va_up T 5 (fun _ => nI (p + 1))) (va_up S 13 (fun _ => nI (p + 1))) := h
      obtain ⟨q, T', S', g1, g2, g3, g4, g5, g6, g7, g8⟩ := blanks d (p + 1) f g _ _ hT (by omega) (by omega) (by omega) rfl rfl
      refine ⟨q, T', S', by omega, g2, g3, fun kk => ?_, fun kk => ?_, fun k hk => ?_, fun k hk => ?_, g8⟩
      · rw [← g4 kk]
        simp (disch := omega) only [fX3_nextToken_L0, lt, jn, q_lit, q_bnd, q_cl, q_le, q_lt, q_eq, pk_mul, nI_add, q_sub, q_div, q_pos, q_neg, q_T, q_F, q_max0, q_flg1, q_flg0, q_min, q_min2, q_bit, q_some, t5, h.2.1, c2, e]
      · rw [← g5 kk]
        simp (disch := omega) only [fX5_next_L8, lt, jn, q_lit, q_bnd, q_cl, q_le, q_lt, q_eq, pk_mul, nI_add, q_sub, q_div, q_pos, q_neg, q_T, q_F, q_max0, q_flg1, q_flg0, q_min, q_min2, q_bit, q_some, s13, hb, e]
      · rw [g6 k hk, q_up, if_neg hk]
      · rw [g7 k hk, q_up, if_neg hk]
    · refine ⟨p, T, S, by omega, by omega, fun _ => e, fun kk => ?_, fun kk => ?_, fun _ _ => rfl, fun _ _ => rfl, t5, s13⟩
      · simp (disch := omega) only [fX3_nextToken_L0, lt, jn, q_lit, q_bnd, q_cl, q_le, q_lt, q_eq, pk_mul, nI_add, q_sub, q_div, q_pos, q_neg, q_T, q_F, q_max0, q_flg1, q_flg0, q_min, q_min2, q_bit, q_some, t5, h.2.1, c2, e]
      · simp (disch := omega) only [fX5_next_L8, lt, jn, q_lit, q_bnd, q_cl, q_le, q_lt, q_eq, pk_mul, nI_add, q_sub, q_div, q_pos, q_neg, q_T, q_F, q_max0, q_flg1, q_flg0, q_min, q_min2, q_bit, q_some, s13, hb, e]
/-- letters -/
theorem letters {c : Nat → Nat} {n : Nat} : ∀ (d p f g : Nat) (T S : M2), TB c n T S → p + d = n → d < f → d < g → T 5 0 = nI p → S 13 0 = nI p → ∃ (q : Nat) (T' S' : M2), p ≤ q ∧ q ≤ n ∧ (∀ kk : M2 → Option M2, fX3_readName_L5 kk f T = kk T') ∧ (∀ kk : M2 → Option M2, fX5_next_L82 kk g S = kk S') ∧ (∀ k, k ≠ 5 → T' k = T k) ∧ (∀ k, k ≠ 13 → S' k = S k) ∧ T' 5 0 = nI q ∧ S' 13 0 = nI q
  | 0, p, f + 1, g + 1, T, S, h, hp, hf, hg, t5, s13 => by
    have h1 := h.1
    have e : p = n := by omega
    refine ⟨p, T, S, by omega, by omega, fun kk => ?_, fun kk => ?_, fun _ _ => rfl, fun _ _ => rfl, t5, s13⟩
    · simp (disch := omega) only [fX3_readName_L5, lt, jn, q_lit, q_bnd, q_cl, q_le, q_lt, q_eq, pk_mul, nI_add, q_sub, q_div, q_pos, q_neg, q_T, q_F, q_max0, q_flg1, q_flg0, q_min, q_min2, q_bit, q_some, t5, h.2.1]
    · have := m_byte h (p := p) (by omega)
      rw [if_neg (by omega)] at this
      simp (disch := omega) only [fX5_next_L82, lt, jn, q_lit, q_bnd, q_cl, q_le, q_lt, q_eq, pk_mul, nI_add, q_sub, q_div, q_pos, q_neg, q_T, q_F, q_max0, q_flg1, q_flg0, q_min, q_min2, q_bit, q_some, s13, this, let_1]
  | d + 1, p, f + 1, g + 1, T, S, h, hp, hf, hg, t5, s13 => by
    have h1 := h.1
    have hb := m_byte h (p := p) (by omega)
    rw [if_pos (by omega)] at hb
    obtain ⟨c1, c2, c3⟩ := h.2.2.2 p (by omega)
    have l1 := let_t c1
    have l2 := let_m c1
    by_cases e : 97 ≤ c p ∧ c p ≤ 122
    · rw [decide_eq_true e] at l1 l2
      have hT : TB c n (va_up T 5 (fun _ => nI (p + 1))) (va_up S 13 (fun _ => nI (p + 1))) := h
      obtain ⟨q, T', S', g1, g2, g4, g5, g6, g7, g8⟩ := letters d (p + 1) f g _ _ hT (by omega) (by omega) (by omega) rfl rfl
      refine ⟨q, T', S', by omega, g2, fun kk => ?_, fun kk => ?_, fun k hk => ?_, fun k hk => ?_, g8⟩
      · rw [← g4 kk]
        simp (disch := omega) only [fX3_readName_L5, lt, jn, q_lit, q_bnd, q_cl, q_le, q_lt, q_eq, pk_mul, nI_add, q_sub, q_div, q_pos, q_neg, q_T, q_F, q_max0, q_flg1, q_flg0, q_min, q_min2, q_bit, q_some, t5, h.2.1, c2, l1, Bool.toNat_true]
      · rw [← g5 kk]
        simp (disch := omega) only [fX5_next_L82, lt, jn, q_lit, q_bnd, q_cl, q_le, q_lt, q_eq, pk_mul, nI_add, q_sub, q_div, q_pos, q_neg, q_T, q_F, q_max0, q_flg1, q_flg0, q_min, q_min2, q_bit, q_some, s13, hb, l2, Bool.toNat_true]
      · rw [g6 k hk, q_up, if_neg hk]
      · rw [g7 k hk, q_up, if_neg hk]
    · rw [decide_eq_false e] at l1 l2
      refine ⟨p, T, S, by omega, by omega, fun kk => ?_, fun kk => ?_, fun _ _ => rfl, fun _ _ => rfl, t5, s13⟩
      · simp (disch := omega) only [fX3_readName_L5, lt, jn, q_lit, q_bnd, q_cl, q_le, q_lt, q_eq, pk_mul, nI_add, q_sub, q_div, q_pos, q_neg, q_T, q_F, q_max0, q_flg1, q_flg0, q_min, q_min2, q_bit, q_some, t5, h.2.1, c2, l1, Bool.toNat_false]
      · simp (disch := omega) only [fX5_next_L82, lt, jn, q_lit, q_bnd, q_cl, q_le, q_lt, q_eq, pk_mul, nI_add, q_sub, q_div, q_pos, q_neg, q_T, q_F, q_max0, q_flg1, q_flg0, q_min, q_min2, q_bit, q_some, s13, hb, l2, Bool.toNat_false]
/-- figures -/
theorem q_dig {v ch : Nat} (h : v < 10 ∧ 48 ≤ ch ∧ ch ≤ 57) : nI 10 * nI v + nI ch - nI 48 = nI (10 * v + ch - 48) := by
  rw [pk_mul, nI_add, q_sub (by omega)]
theorem figures {c : Nat → Nat} {n q : Nat} : ∀ (d p f g : Nat) (T S : M2), TB c n T S → p + d = n → q ≤ p → d < f → d < g → T 5 0 = nI p → S 13 0 = nI p → S 14 0 = nI q → (p ≤ q + 2 → ∃ v, v < 10 ^ (p - q) ∧ T 8 0 = nI v ∧ S 16 0 = nI v) → ∃ (p' : Nat) (T' S' : M2), p ≤ p' ∧ p' ≤ n ∧ (∀ kk : M2 → Option M2, fX3_readNumber_L10 kk f T = kk T') ∧ (∀ kk : M2 → Option M2, fX5_next_L140 kk g S = kk S') ∧ (∀ k, k ≠ 5 → k ≠ 8 → T' k = T k) ∧ (∀ k, k ≠ 13 → k ≠ 16 → S' k = S k) ∧ T' 5 0 = nI p' ∧ S' 13 0 = nI p' ∧ (p' ≤ q + 2 → ∃ v, v < 100 ∧ T' 8 0 = nI v ∧ S' 16 0 = nI v)
  | 0, p, f + 1, g + 1, T, S, h, hp, hq, hf, hg, t5, s13, s14, hv => by
    have h1 := h.1
    have e : p = n := by omega
    refine ⟨p, T, S, by omega, by omega, fun kk => ?_, fun kk => ?_, fun _ _ _ => rfl, fun _ _ _ => rfl, t5, s13, fun h2 => ?_⟩
    · simp (disch := omega) only [fX3_readNumber_L10, lt, jn, q_lit, q_bnd, q_cl, q_le, q_lt, q_eq, pk_mul, nI_add, q_sub, q_div, q_pos, q_neg, q_T, q_F, q_max0, q_flg1, q_flg0, q_min, q_min2, q_bit, q_some, t5, h.2.1]
    · have := m_byte h (p := p) (by omega)
      rw [if_neg (by omega)] at this
      simp (disch := omega) only [fX5_next_L140, lt, jn, q_lit, q_bnd, q_cl, q_le, q_lt, q_eq, pk_mul, nI_add, q_sub, q_div, q_pos, q_neg, q_T, q_F, q_max0, q_flg1, q_flg0, q_min, q_min2, q_bit, q_some, s13, this, fig_1]
    · obtain ⟨v, v1, v2⟩ := hv h2
      have : 10 ^ (p - q) ≤ 10 ^ 2 := Nat.pow_le_pow_right (by decide) (by omega)
      exact ⟨v, by omega, v2⟩
  | d + 1, p, f + 1, g + 1, T, S, h, hp, hq, hf, hg, t5, s13, s14, hv => by
    have h1 := h.1
    have hb := m_byte h (p := p) (by omega)
    rw [if_pos (by omega)] at hb
    obtain ⟨c1, c2, c3⟩ := h.2.2.2 p (by omega)
    have l1 := fig_t c1
    have l2 := fig_m c1
    by_cases e : 48 ≤ c p ∧ c p ≤ 57
    · rw [decide_eq_true e] at l1 l2
      by_cases e2 : p < q + 2
      · obtain ⟨v, v1, v2, v3⟩ := hv (by omega)
        have hv10 : v < 10 := by
          have : 10 ^ (p - q) ≤ 10 ^ 1 := Nat.pow_le_pow_right (by decide) (by omega)
          omega
        have hd : 10 * v + c p - 48 < 10 ^ (p + 1 - q) := by
          rw [show p + 1 - q = p - q + 1 by omega, Nat.pow_succ]
          omega
        have hT : TB c n (va_up (va_up T 8 (fun _ => nI (10 * v + c p - 48))) 5 (fun _ => nI (p + 1))) (va_up (va_up S 16 (fun _ => nI (10 * v + c p - 48))) 13 (fun _ => nI (p + 1))) := h
        obtain ⟨p', T', S', g1, g2, g4, g5, g6, g7, g8⟩ := figures (q := q) d (p + 1) f g _ _ hT (by omega) (by omega) (by omega) (by omega) rfl rfl s14 (fun _ => ⟨_, hd, rfl, rfl⟩)
        refine ⟨p', T', S', by omega, g2, fun kk => ?_, fun kk => ?_, fun k hk hk2 => ?_, fun k hk hk2 => ?_, g8⟩
        · rw [← g4 kk]
          simp (disch := omega) only [fX3_readNumber_L10, lt, q_lit, q_le, q_neg, q_bnd, q_cl, q_some, q_eq, t5, h.2.1, c2, l1, Bool.toNat_true, v2, q_dig, q_up, nI_add]
        · rw [← g5 kk]
          simp (disch := omega) only [fX5_next_L140, lt, jn, q_lit, q_le, q_neg, q_bnd, q_cl, q_some, q_eq, q_sub, s13, s14, hb, l2, Bool.toNat_true, v3, q_dig, q_up, nI_add]
        · rw [g6 k hk hk2, q_up, if_neg hk, q_up, if_neg hk2]
        · rw [g7 k hk hk2, q_up, if_neg hk, q_up, if_neg hk2]
      · have hT : TB c n (va_up (va_up T 8 (fun _ => nI 10 * T 8 0 + nI (c p) - nI 48)) 5 (fun _ => nI (p + 1))) (va_up (va_up S 16 (fun _ => S 16 0)) 13 (fun _ => nI (p + 1))) := h
        obtain ⟨p', T', S', g1, g2, g4, g5, g6, g7, g8⟩ := figures (q := q) d (p + 1) f g _ _ hT (by omega) (by omega) (by omega) (by omega) rfl rfl s14 (fun _ => by omega)
        refine ⟨p', T', S', by omega, g2, fun kk => ?_, fun kk => ?_, fun k hk hk2 => ?_, fun k hk hk2 => ?_, g8⟩
        · rw [← g4 kk]
          simp (disch := omega) only [fX3_readNumber_L10, lt, q_lit, q_le, q_neg, q_bnd, q_cl, q_some, q_eq, t5, h.2.1, c2, l1, Bool.toNat_true, q_up, nI_add]
        · rw [← g5 kk]
          simp (disch := omega) only [fX5_next_L140, lt, jn, q_lit, q_le, q_neg, q_pos, q_bnd, q_cl, q_some, q_eq, q_sub, s13, s14, hb, l2, Bool.toNat_true, q_up, nI_add]
        · rw [g6 k hk hk2, q_up, if_neg hk, q_up, if_neg hk2]
        · rw [g7 k hk hk2, q_up, if_neg hk, q_up, if_neg hk2]
    · rw [decide_eq_false e] at l1 l2
      refine ⟨p, T, S, by omega, by omega, fun kk => ?_, fun kk => ?_, fun _ _ _ => rfl, fun _ _ _ => rfl, t5, s13, fun h2 => ?_⟩
      · simp (disch := omega) only [fX3_readNumber_L10, lt, jn, q_lit, q_bnd, q_cl, q_le, q_lt, q_eq, pk_mul, nI_add, q_sub, q_div, q_pos, q_neg, q_T, q_F, q_max0, q_flg1, q_flg0, q_min, q_min2, q_bit, q_some, t5, h.2.1, c2, l1, Bool.toNat_false]
      · simp (disch := omega) only [fX5_next_L140, lt, jn, q_lit, q_bnd, q_cl, q_le, q_lt, q_eq, pk_mul, nI_add, q_sub, q_div, q_pos, q_neg, q_T, q_F, q_max0, q_flg1, q_flg0, q_min, q_min2, q_bit, q_some, s13, hb, l2, Bool.toNat_false]
      · obtain ⟨v, v1, v2⟩ := hv h2
        have : 10 ^ (p - q) ≤ 10 ^ 2 := Nat.pow_le_pow_right (by decide) (by omega)
        exact ⟨v, by omega, v2⟩
def TF (T T' : M2) : Prop := ∀ k, k ≠ 2 → k ≠ 3 → k ≠ 5 → k ≠ 6 → k ≠ 7 → k ≠ 8 → T' k = T k
def SF (S S' : M2) : Prop := ∀ k, k ≠ 13 → k ≠ 14 → k ≠ 15 → k ≠ 16 → k ≠ 17 → k ≠ 18 → S' k = S k
def TOK (tk n q p : Nat) (T S : M2) : Prop := T 2 0 = nI 0 ∧ S 17 0 = nI 0 ∧ T 5 0 = nI p ∧ S 13 0 = nI p ∧ T 7 0 = nI q ∧ S 14 0 = nI q ∧ q ≤ p ∧ p ≤ n ∧ T 6 0 = nI tk ∧ S 15 0 = nI (if tk = 4 then 0 else tk) ∧ (1 ≤ tk ∧ tk ≤ 4) ∧ (tk = 4 → q = n) ∧ (tk = 3 → p = q + 1) ∧ (tk = 2 → ∃ v, v < 100 ∧ T 8 0 = nI v ∧ S 16 0 = nI v)
def BD (e pl : Nat) (T S : M2) : Prop := T 2 0 = nI e ∧ S 17 0 = nI e ∧ 0 < e ∧ e < 10 ∧ T 3 0 = nI pl ∧ S 18 0 = nI pl
theorem nx {c : Nat → Nat} {n p : Nat} {T S : M2} (h : TB c n T S) (hp : p ≤ n) (t2 : T 2 0 = nI 0) (s17 : S 17 0 = nI 0) (t5 : T 5 0 = nI p) (s13 : S 13 0 = nI p) : ∃ T' S', fX3_nextToken T = some T' ∧ fX5_next S = some S' ∧ TF T T' ∧ SF S S' ∧ ((∃ tk q p', p ≤ q ∧ TOK tk n q p' T' S') ∨ ∃ pl, BD 1 pl T' S' ∧ T' 6 0 = nI 5) := by
  have h1 := h.1
  obtain ⟨q, T1, S1, b1, b2, b3, b4, b5, b6, b7, b8, b9⟩ := blanks (n - p) p 400 400 T S h (by omega) (by omega) (by omega) t5 s13
  have hT : TB c n (va_up T1 7 (fun _ => nI q)) (va_up S1 14 (fun _ => nI q)) := by
    refine ⟨h1, ?_, ?_, fun i hi => ?_⟩
    · show T1 1 0 = _
      rw [b6 1 (by decide)]
      exact h.2.1
    · show S1 12 0 = _
      rw [b7 12 (by decide)]
      exact h.2.2.1
    · show _ ∧ T1 0 i = _ ∧ S1 11 i = _
      rw [b6 0 (by decide), b7 11 (by decide)]
      exact h.2.2.2 i hi
  have t1 : T1 1 0 = nI n := hT.2.1
  have t2' : T1 2 0 = nI 0 := by rw [b6 2 (by decide)]; exact t2
  have s17' : S1 17 0 = nI 0 := by rw [b7 17 (by decide)]; exact s17
  have hb := m_byte hT (p := q) (by omega)
  by_cases e : q < n
  · rw [if_pos e] at hb
    obtain ⟨c1, c2, c3⟩ := hT.2.2.2 q e
    have c2' : T1 0 q = nI (c q) := c2
    have l1 := let_t c1
    have l2 := let_m c1
    have f1 := fig_t c1
    have f2 := fig_m c1
    by_cases el : 97 ≤ c q ∧ c q ≤ 122
    · rw [decide_eq_true el] at l1 l2
      obtain ⟨p', T2, S2, g1, g2, g4, g5, g6, g7, g8, g9⟩ := letters (c := c) (n := n) (n - q) q 400 400 (va_up (va_up T1 7 (fun _ => nI q)) 6 (fun _ => nI 1)) (va_up (va_up S1 14 (fun _ => nI q)) 15 (fun _ => nI 1)) hT (by omega) (by omega) (by omega) b8 b9
      refine ⟨T2, S2, ?_, ?_, ?_, ?_, Or.inl ⟨1, q, p', b1, ?_, ?_, g8, g9, ?_, ?_, g1, g2, ?_, ?_, by omega, by omega, by omega, by omega⟩⟩
      · have g4' : fX3_readName (va_up T1 7 (fun _ => nI q)) = some T2 := by
          unfold fX3_readName
          rw [q_ltn]
          exact g4 _
        simp (disch := omega) only [fX3_nextToken, lt, jn, q_lit, q_bnd, q_cl, q_le, q_lt, q_eq, pk_mul, nI_add, q_sub, q_div, q_pos, q_neg, q_T, q_F, q_max0, q_flg1, q_flg0, q_min, q_min2, q_bit, q_some, b4, b8, q_up, t1, c2', l1, Bool.toNat_true, g4']
      · simp (disch := omega) only [fX5_next, lt, jn, q_lit, q_bnd, q_cl, q_le, q_lt, q_eq, pk_mul, nI_add, q_sub, q_div, q_pos, q_neg, q_T, q_F, q_max0, q_flg1, q_flg0, q_min, q_min2, q_bit, q_some, s17, b5, b9, q_up, hb, l2, Bool.toNat_true, g5]
      · intro k k2 k3 k5 k6 k7 k8
        rw [g6 k k5, q_up, if_neg k6, q_up, if_neg k7, b6 k k5]
      · intro k k13 k14 k15 k16 k17 k18
        rw [g7 k k13, q_up, if_neg k15, q_up, if_neg k14, b7 k k13]
      · rw [g6 2 (by decide)]
        exact t2'
      · rw [g7 17 (by decide)]
        exact s17'
      · rw [g6 7 (by decide)]
        rfl
      · rw [g7 14 (by decide)]
        rfl
      · rw [g6 6 (by decide)]
        rfl
      · rw [g7 15 (by decide)]
        rfl
    · rw [decide_eq_false el] at l1 l2
      by_cases ef : 48 ≤ c q ∧ c q ≤ 57
      · rw [decide_eq_true ef] at f1 f2
        obtain ⟨p', T2, S2, g1, g2, g4, g5, g6, g7, g8, g9, g10⟩ := figures (c := c) (n := n) (q := q) (n - q) q 400 400 (va_up (va_up (va_up T1 7 (fun _ => nI q)) 6 (fun _ => nI 2)) 8 (fun _ => nI 0)) (va_up (va_up (va_up S1 14 (fun _ => nI q)) 15 (fun _ => nI 2)) 16 (fun _ => nI 0)) hT (by omega) (by omega) (by omega) (by omega) b8 b9 rfl (fun _ => ⟨0, by rw [Nat.sub_self]; decide, rfl, rfl⟩)
        have t7 : T2 7 0 = nI q := by rw [g6 7 (by decide) (by decide)]; rfl
        have s14 : S2 14 0 = nI q := by rw [g7 14 (by decide) (by decide)]; rfl
        have t2'' : T2 2 0 = nI 0 := by rw [g6 2 (by decide) (by decide)]; exact t2'
        have s17'' : S2 17 0 = nI 0 := by rw [g7 17 (by decide) (by decide)]; exact s17'
        have hTF : TF T T2 := by
          intro k k2 k3 k5 k6 k7 k8
          rw [g6 k k5 k8, q_up, if_neg k8, q_up, if_neg k6, q_up, if_neg k7, b6 k k5]
        have hSF : SF S S2 := by
          intro k k13 k14 k15 k16 k17 k18
          rw [g7 k k13 k16, q_up, if_neg k16, q_up, if_neg k15, q_up, if_neg k14, b7 k k13]
        by_cases e3 : p' ≤ q + 2
        · refine ⟨T2, S2, ?_, ?_, hTF, hSF, Or.inl ⟨2, q, p', b1, t2'', s17'', g8, g9, t7, s14, g1, g2, ?_, ?_, by omega, by omega, by omega, fun _ => g10 e3⟩⟩
          · have g4' : fX3_readNumber (va_up T1 7 (fun _ => nI q)) = some T2 := by
              unfold fX3_readNumber
              rw [q_ltn, q_ltn]
              refine (g4 _).trans ?_
              simp (disch := omega) only [lt, jn, q_lit, q_bnd, q_cl, q_le, q_lt, q_eq, pk_mul, nI_add, q_sub, q_div, q_pos, q_neg, q_T, q_F, q_max0, q_flg1, q_flg0, q_min, q_min2, q_bit, q_some, g8, t7]
            simp (disch := omega) only [fX3_nextToken, lt, jn, q_lit, q_bnd, q_cl, q_le, q_lt, q_eq, pk_mul, nI_add, q_sub, q_div, q_pos, q_neg, q_T, q_F, q_max0, q_flg1, q_flg0, q_min, q_min2, q_bit, q_some, b4, b8, q_up, t1, c2', l1, f1, Bool.toNat_true, Bool.toNat_false, g4']
          · simp (disch := omega) only [fX5_next, fX5_needs, lt, jn, q_lit, q_bnd, q_cl, q_le, q_lt, q_eq, pk_mul, nI_add, q_sub, q_div, q_pos, q_neg, q_T, q_F, q_max0, q_flg1, q_flg0, q_min, q_min2, q_bit, q_some, s17, b5, b9, q_up, hb, l2, f2, Bool.toNat_true, Bool.toNat_false, g5, g9, s14]
          · rw [g6 6 (by decide) (by decide)]
            rfl
          · rw [g7 15 (by decide) (by decide)]
            rfl
        · refine ⟨va_up (va_up (va_up T2 6 (fun _ => nI 5)) 2 (fun _ => nI 1)) 3 (fun _ => nI q), va_up (va_up S2 17 (fun _ => nI 1)) 18 (fun _ => nI q), ?_, ?_, ?_, ?_, Or.inr ⟨q, ⟨rfl, rfl, by omega, by omega, rfl, rfl⟩, rfl⟩⟩
          · have g4' : fX3_readNumber (va_up T1 7 (fun _ => nI q)) = some (va_up (va_up (va_up T2 6 (fun _ => nI 5)) 2 (fun _ => nI 1)) 3 (fun _ => nI q)) := by
              unfold fX3_readNumber
              rw [q_ltn, q_ltn]
              refine (g4 _).trans ?_
              simp (disch := omega) only [fX3_refuse, lt, jn, q_lit, q_bnd, q_cl, q_le, q_lt, q_eq, pk_mul, nI_add, q_sub, q_div, q_pos, q_neg, q_T, q_F, q_max0, q_flg1, q_flg0, q_min, q_min2, q_bit, q_some, g8, t7, q_up, t2'']
            simp (disch := omega) only [fX3_nextToken, lt, jn, q_lit, q_bnd, q_cl, q_le, q_lt, q_eq, pk_mul, nI_add, q_sub, q_div, q_pos, q_neg, q_T, q_F, q_max0, q_flg1, q_flg0, q_min, q_min2, q_bit, q_some, b4, b8, q_up, t1, c2', l1, f1, Bool.toNat_true, Bool.toNat_false, g4']
          · simp (disch := omega) only [fX5_next, fX5_needs, lt, jn, q_lit, q_bnd, q_cl, q_le, q_lt, q_eq, pk_mul, nI_add, q_sub, q_div, q_pos, q_neg, q_T, q_F, q_max0, q_flg1, q_flg0, q_min, q_min2, q_bit, q_some, s17, b5, b9, q_up, hb, l2, f2, Bool.toNat_true, Bool.toNat_false, g5, g9, s14, s17'']
          · intro k k2 k3 k5 k6 k7 k8
            rw [q_up, if_neg k3, q_up, if_neg k2, q_up, if_neg k6]
            exact hTF k k2 k3 k5 k6 k7 k8
          · intro k k13 k14 k15 k16 k17 k18
            rw [q_up, if_neg k18, q_up, if_neg k17]
            exact hSF k k13 k14 k15 k16 k17 k18
      · rw [decide_eq_false ef] at f1 f2
        by_cases es : c q = 59
        · rw [es] at l1 l2 f1 f2
          refine ⟨va_up (va_up (va_up T1 7 (fun _ => nI q)) 6 (fun _ => nI 3)) 5 (fun _ => nI (q + 1)), va_up (va_up (va_up S1 14 (fun _ => nI q)) 15 (fun _ => nI 3)) 13 (fun _ => nI (q + 1)), ?_, ?_, ?_, ?_, Or.inl ⟨3, q, q + 1, b1, t2', s17', rfl, rfl, rfl, rfl, by omega, by omega, rfl, rfl, by omega, by omega, by omega, by omega⟩⟩
          · simp (disch := omega) only [fX3_nextToken, lt, jn, q_lit, q_bnd, q_cl, q_le, q_lt, q_eq, pk_mul, nI_add, q_sub, q_div, q_pos, q_neg, q_T, q_F, q_max0, q_flg1, q_flg0, q_min, q_min2, q_bit, q_some, b4, b8, q_up, t1, c2', l1, f1, Bool.toNat_true, Bool.toNat_false, es]
          · simp (disch := omega) only [fX5_next, fX5_needs, lt, jn, q_lit, q_bnd, q_cl, q_le, q_lt, q_eq, pk_mul, nI_add, q_sub, q_div, q_pos, q_neg, q_T, q_F, q_max0, q_flg1, q_flg0, q_min, q_min2, q_bit, q_some, s17, b5, b9, q_up, hb, l2, f2, Bool.toNat_true, Bool.toNat_false, es]
          · intro k k2 k3 k5 k6 k7 k8
            rw [q_up, if_neg k5, q_up, if_neg k6, q_up, if_neg k7, b6 k k5]
          · intro k k13 k14 k15 k16 k17 k18
            rw [q_up, if_neg k13, q_up, if_neg k15, q_up, if_neg k14, b7 k k13]
        · refine ⟨va_up (va_up (va_up (va_up T1 7 (fun _ => nI q)) 6 (fun _ => nI 5)) 2 (fun _ => nI 1)) 3 (fun _ => nI q), va_up (va_up (va_up (va_up (va_up S1 14 (fun _ => nI q)) 15 (fun _ => nI 3)) 17 (fun _ => nI 1)) 18 (fun _ => nI q)) 13 (fun _ => nI (q + 1)), ?_, ?_, ?_, ?_, Or.inr ⟨q, ⟨rfl, rfl, by omega, by omega, rfl, rfl⟩, rfl⟩⟩
          · simp (disch := omega) only [fX3_nextToken, fX3_refuse, lt, jn, q_lit, q_bnd, q_cl, q_le, q_lt, q_eq, pk_mul, nI_add, q_sub, q_div, q_pos, q_neg, q_T, q_F, q_max0, q_flg1, q_flg0, q_min, q_min2, q_bit, q_some, b4, b8, q_up, t1, c2', l1, f1, Bool.toNat_true, Bool.toNat_false, es, t2']
          · simp (disch := omega) only [fX5_next, fX5_needs, lt, jn, q_lit, q_bnd, q_cl, q_le, q_lt, q_eq, pk_mul, nI_add, q_sub, q_div, q_pos, q_neg, q_T, q_F, q_max0, q_flg1, q_flg0, q_min, q_min2, q_bit, q_some, s17, b5, b9, q_up, hb, l2, f2, Bool.toNat_true, Bool.toNat_false, es, s17']
          · intro k k2 k3 k5 k6 k7 k8
            rw [q_up, if_neg k3, q_up, if_neg k2, q_up, if_neg k6, q_up, if_neg k7, b6 k k5]
          · intro k k13 k14 k15 k16 k17 k18
            rw [q_up, if_neg k13, q_up, if_neg k18, q_up, if_neg k17, q_up, if_neg k15, q_up, if_neg k14, b7 k k13]
  · rw [if_neg e] at hb
    refine ⟨va_up (va_up T1 7 (fun _ => nI q)) 6 (fun _ => nI 4), va_up (va_up S1 14 (fun _ => nI q)) 15 (fun _ => nI 0), ?_, ?_, ?_, ?_, Or.inl ⟨4, q, q, b1, t2', s17', b8, b9, rfl, rfl, by omega, by omega, rfl, rfl, by omega, by omega, by omega, by omega⟩⟩
    · simp (disch := omega) only [fX3_nextToken, lt, jn, q_lit, q_bnd, q_cl, q_le, q_lt, q_eq, pk_mul, nI_add, q_sub, q_div, q_pos, q_neg, q_T, q_F, q_max0, q_flg1, q_flg0, q_min, q_min2, q_bit, q_some, b4, b8, q_up, t1]
    · have e5 : ¬ nI 0 ≤ -nI 1 := by decide
      simp (disch := omega) only [fX5_next, lt, jn, q_lit, q_bnd, q_cl, q_le, q_lt, q_eq, pk_mul, nI_add, q_sub, q_div, q_pos, q_neg, q_T, q_F, q_max0, q_flg1, q_flg0, q_min, q_min2, q_bit, q_some, s17, b5, b9, q_up, hb, e5, q_F]
    · intro k k2 k3 k5 k6 k7 k8
      rw [q_up, if_neg k6, q_up, if_neg k7, b6 k k5]
    · intro k k13 k14 k15 k16 k17 k18
      rw [q_up, if_neg k15, q_up, if_neg k14, b7 k k13]
