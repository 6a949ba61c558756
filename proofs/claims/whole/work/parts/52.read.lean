/-! read -/
theorem q_cmpn {a : Nat} : (lg_cmp (lN a) 0 < nI 0) = (lN a < 0) := propext (lg_cmp_lt (lN a) 0)
theorem q_cmpl (x y : Int64) : (lg_cmp x y < nI 0) = (x < y) := propext (lg_cmp_lt x y)
theorem q_lneg {a : Nat} (h : a < 2 ^ 63) : (lN a < 0) = False := propext ⟨fun q => Nat.not_lt_zero _ ((pk_lLT (b := 0) h (by decide)).mp q), False.elim⟩
theorem q_llt {a b : Nat} (h : a < 2 ^ 63 ∧ b < 2 ^ 63) : (lN a < lN b) = (a < b) := propext (pk_lLT h.1 h.2)
/-- a fold of what is there -/
theorem fold_step {X : M3} {S : M2} (h : R X S) {n b k2 : Nat} (hn0 : X 2 0 0 = nI n) (hn5 : n ≤ 5) (hb : b < n) (hk2 : k2 < 3) : ∃ (Q S' : M2) (v : Nat), fX1_putOnTop (nI b) (nI k2) (X 2) = some Q ∧ fX5_fold (nI b) (nI k2) S = some (nI v, S') ∧ v ≤ 5 ∧ R (va_up X 2 Q) S' ∧ Q 0 0 = nI n ∧ (∀ q, q ≠ 0 → q ≠ 1 → S' q = S q) ∧ ∀ x, 62 ≤ x → S' 0 x = S 0 x := by
  obtain ⟨N, B, hW, hn, hC, hM, e3, e4, hN, hK⟩ := h.data
  have w1 := hW.1
  have c00 := hC.1.1
  have hnN : n = N 0 0 := by
    rw [c00] at hn0
    exact ((nI_eq (by omega) (by omega)).mp hn0).symm
  subst hnN
  have eb : fX5_isBolt (nI b) S = fX1_hasBolt (nI b) (X 2) := m_isBolt (e3.trans hC.1.1.symm) (nI b)
  have ek : fX5_isBale (nI k2) = fX4_isBale (nI k2) := m_isBale (nI k2)
  have h1 : fX1_hasBolt (nI b) (X 2) = some (nI 1) := by
    rcases t_hasBolt hC.1.1 w1.1 (nI b) with ⟨j, hj, -, h1⟩ | ⟨h0, -⟩
    · exact h1
    · exact absurd rfl (h0 b hb)
  have h2 : fX4_isBale (nI k2) = some (nI 1) := by
    rcases t_isBale (nI k2) with ⟨j, hj, -, h1⟩ | ⟨h0, -⟩
    · exact h1
    · exact absurd rfl (h0 k2 hk2)
  rw [h1] at eb
  rw [h2] at ek
  obtain ⟨k, i, hk, hi⟩ := hW.2.2.2.2.ex hb
  obtain ⟨Q, q1, q2, q3⟩ := t_putOnTop hC hW hk hk2 hi
  obtain ⟨S1, i1, i2, -⟩ := hN.starts
  obtain ⟨S2, j1, j2⟩ := m_folds i2 hW hk hk2 hi true
  rw [if_pos rfl] at j2
  obtain ⟨S3, l1, l2, l3, l4, l5⟩ := m_settles j2 q3
  have l3' : S3 3 0 = nI (N 0 0) := by rw [l2 3 (by decide) (by decide)]; exact e3
  have l4' : S3 4 0 = nI (N 7 0) := by rw [l2 4 (by decide) (by decide)]; exact e4
  have hl := m_lies (S0 := S3) (S := S3) ⟨fun _ _ => rfl, l3', l4', l4⟩ q3 hk2
  have hle := q3.2.2.2.2.le hk2
  refine ⟨Q, S3, (spTop (spTake B k i) k2 b k2).length, q1, ?_, by omega, h.now hK e3 e4 rfl rfl q3 hn q2 l3 l2 l5, q2.1.1, l2, l5⟩
  simp (disch := omega) only [fX5_fold, fX5_folded, lt, jn, q_lit, q_bnd, q_cl, q_le, q_lt, q_eq, pk_mul, nI_add, q_sub, q_div, q_pos, q_neg, q_T, q_F, q_max0, q_flg1, q_flg0, q_min, q_min2, q_bit, q_some, eb, ek, i1]
  have j1' : fX5_folds (nI b) (nI k2) (nI 1) S1 = some S2 := j1
  simp (disch := omega) only [lt, jn, q_lit, q_bnd, q_cl, q_le, q_lt, q_eq, pk_mul, nI_add, q_sub, q_div, q_pos, q_neg, q_T, q_F, q_max0, q_flg1, q_flg0, q_min, q_min2, q_bit, q_some, j1', l1, hl]
theorem fold_bad {S T : M2} {n : Nat} (h3 : S 3 0 = nI n) (hT : T 0 0 = nI n) (x y : Int32) (h : fX1_hasBolt x T = some (nI 0) ∨ fX1_hasBolt x T = some (nI 1) ∧ fX4_isBale y = some (nI 0)) : fX5_fold x y S = some (-nI 1, S) := by
  have eb : fX5_isBolt x S = fX1_hasBolt x T := m_isBolt (h3.trans hT.symm) x
  have ek : fX5_isBale y = fX4_isBale y := m_isBale y
  rcases h with h | ⟨h, h2⟩
  · rw [h] at eb
    simp (disch := omega) only [fX5_fold, fX5_folded, lt, jn, q_lit, q_bnd, q_cl, q_le, q_lt, q_eq, pk_mul, nI_add, q_sub, q_div, q_pos, q_neg, q_T, q_F, q_max0, q_flg1, q_flg0, q_min, q_min2, q_bit, q_some, eb]
  · rw [h] at eb
    rw [h2] at ek
    simp (disch := omega) only [fX5_fold, fX5_folded, lt, jn, q_lit, q_bnd, q_cl, q_le, q_lt, q_eq, pk_mul, nI_add, q_sub, q_div, q_pos, q_neg, q_T, q_F, q_max0, q_flg1, q_flg0, q_min, q_min2, q_bit, q_some, eb, ek]
theorem R.had {X : M3} {S S' : M2} (h : R X S) (e : ∀ q, q ≠ 24 → S' q = S q) : R X S' := by
  have e0 := e 0 (by decide)
  have e2 := e 2 (by decide)
  have e3 := e 3 (by decide)
  have e4 := e 4 (by decide)
  have e11 := e 11 (by decide)
  have e12 := e 12 (by decide)
  have e17 := e 17 (by decide)
  have e20 := e 20 (by decide)
  have e21 := e 21 (by decide)
  have e22 := e 22 (by decide)
  have e23 := e 23 (by decide)
  unfold R at h ⊢
  rw [e0, e2, e3, e4, e11, e12, e17, e20, e21, e22, e23]
  exact h
theorem m_had_L (a b c e : Int32) : ∀ (d j f : Nat) (S : M2), j + d = 62 → d < f → ∃ S', (∀ kk : M2 → Option (Int32 × M2), fX5_read_L26 a b c e kk f (nI j) S = kk S') ∧ (∀ q, q ≠ 24 → S' q = S q) ∧ ∀ x, S' 24 x = if j ≤ x ∧ x < 62 then S 0 x else S 24 x
  | 0, j, f + 1, S, hd, hf => by
    refine ⟨S, fun kk => ?_, fun _ _ => rfl, fun x => ?_⟩
    · simp (disch := omega) only [fX5_read_L26, lt, jn, q_lit, q_bnd, q_cl, q_le, q_lt, q_eq, pk_mul, nI_add, q_sub, q_div, q_pos, q_neg, q_T, q_F, q_max0, q_flg1, q_flg0, q_min, q_min2, q_bit, q_some]
    · rw [if_neg (by omega)]
  | d + 1, j, f + 1, S, hd, hf => by
    obtain ⟨S', i1, i2, i3⟩ := m_had_L a b c e d (j + 1) f (va_up S 24 (upd (S 24) j (S 0 j))) (by omega) (by omega)
    refine ⟨S', fun kk => ?_, fun q hq => ?_, fun x => ?_⟩
    · simp (disch := omega) only [fX5_read_L26, lt, jn, q_lit, q_bnd, q_cl, q_le, q_lt, q_eq, pk_mul, nI_add, q_sub, q_div, q_pos, q_neg, q_T, q_F, q_max0, q_flg1, q_flg0, q_min, q_min2, q_bit, q_some, i1]
    · rw [i2 q hq, q_up, if_neg hq]
    · rw [i3]
      show (if j + 1 ≤ x ∧ x < 62 then S 0 x else upd (S 24) j (S 0 j) x) = _
      rw [q_ud]
      by_cases e1 : x = j
      · subst e1
        rw [if_neg (by omega), if_pos rfl, if_pos (by omega)]
      · by_cases e2 : j ≤ x ∧ x < 62
        · rw [if_pos (by omega), if_pos e2]
        · rw [if_neg (by omega), if_neg e1, if_neg e2]
theorem m_un_L (p : Int32 × M2) : ∀ (d j f : Nat) (S : M2), j + d = 62 → d < f → ∃ S', (∀ kk : M2 → Option (Int32 × M2), fX5_read_L208 p kk f (nI j) S = kk S') ∧ (∀ q, q ≠ 0 → S' q = S q) ∧ ∀ x, S' 0 x = if j ≤ x ∧ x < 62 then S 24 x else S 0 x
  | 0, j, f + 1, S, hd, hf => by
    refine ⟨S, fun kk => ?_, fun _ _ => rfl, fun x => ?_⟩
    · simp (disch := omega) only [fX5_read_L208, lt, jn, q_lit, q_bnd, q_cl, q_le, q_lt, q_eq, pk_mul, nI_add, q_sub, q_div, q_pos, q_neg, q_T, q_F, q_max0, q_flg1, q_flg0, q_min, q_min2, q_bit, q_some]
    · rw [if_neg (by omega)]
  | d + 1, j, f + 1, S, hd, hf => by
    obtain ⟨S', i1, i2, i3⟩ := m_un_L p d (j + 1) f (va_up S 0 (upd (S 0) j (S 24 j))) (by omega) (by omega)
    refine ⟨S', fun kk => ?_, fun q hq => ?_, fun x => ?_⟩
    · simp (disch := omega) only [fX5_read_L208, lt, jn, q_lit, q_bnd, q_cl, q_le, q_lt, q_eq, pk_mul, nI_add, q_sub, q_div, q_pos, q_neg, q_T, q_F, q_max0, q_flg1, q_flg0, q_min, q_min2, q_bit, q_some, i1]
    · rw [i2 q hq, q_up, if_neg hq]
    · rw [i3]
      show (if j + 1 ≤ x ∧ x < 62 then S 24 x else upd (S 0) j (S 24 j) x) = _
      rw [q_ud]
      by_cases e1 : x = j
      · subst e1
        rw [if_neg (by omega), if_pos rfl, if_pos (by omega)]
      · by_cases e2 : j ≤ x ∧ x < 62
        · rw [if_pos (by omega), if_pos e2]
        · rw [if_neg (by omega), if_neg e1, if_neg e2]
/-- a pair can be folded -/
def okPair (n : Nat) (c : Nat → Int32) (p : Nat) : Prop := (∃ b, b < n ∧ c p = nI b) ∧ ∃ k, k < 3 ∧ c (p + 1) = nI k
theorem pair_cases {T : M2} {n : Nat} (hT : T 0 0 = nI n) (hn : n ≤ 5) (c : Nat → Int32) (p : Nat) : (okPair n c p ∧ fX1_hasBolt (c p) T = some (nI 1) ∧ fX4_isBale (c (p + 1)) = some (nI 1)) ∨ (¬ okPair n c p ∧ (fX1_hasBolt (c p) T = some (nI 0) ∨ fX1_hasBolt (c p) T = some (nI 1) ∧ fX4_isBale (c (p + 1)) = some (nI 0))) := by
  rcases t_hasBolt hT hn (c p) with ⟨b, hb, e, h1⟩ | ⟨h0, h1⟩
  · rcases t_isBale (c (p + 1)) with ⟨k, hk, e2, h2⟩ | ⟨h0, h2⟩
    · exact Or.inl ⟨⟨⟨b, hb, e⟩, ⟨k, hk, e2⟩⟩, h1, h2⟩
    · exact Or.inr ⟨fun q => by obtain ⟨-, k, hk, e3⟩ := q; exact h0 k hk e3, Or.inr ⟨h1, h2⟩⟩
  · exact Or.inr ⟨fun q => by obtain ⟨⟨b, hb, e3⟩, -⟩ := q; exact h0 b hb e3, Or.inl h1⟩
/-- the class looks whether all pairs can be folded -/
theorem t_look_L {X : M3} {k f0 n W sz : Nat} {p16 : Int32} (hk : k < 4) (hsz : sz ≤ 40) (hW : f0 + 2 * W ≤ sz) (hT : X 2 0 0 = nI n) (hn : n ≤ 5) (kk : Unit → Option (Int32 × M3)) : ∀ (d t f : Nat), t + d = W → d < f → ((∀ i, t ≤ i → i < W → okPair n (X (6 + k) 3) (f0 + 2 * i)) ∧ fX4_read_L89 X (nI k) (nI f0) (nI W) p16 kk f (nI t) = kk ()) ∨ ∃ i0, t ≤ i0 ∧ i0 < W ∧ (∀ i, t ≤ i → i < i0 → okPair n (X (6 + k) 3) (f0 + 2 * i)) ∧ ¬ okPair n (X (6 + k) 3) (f0 + 2 * i0) ∧ fX4_read_L89 X (nI k) (nI f0) (nI W) p16 kk f (nI t) = some (-nI 20 - nI i0, X)
  | 0, t, f + 1, ht, hf => by
    refine Or.inl ⟨fun i h1 h2 => by omega, ?_⟩
    simp (disch := omega) only [fX4_read_L89, lt, jn, q_lit, q_bnd, q_cl, q_le, q_lt, q_eq, pk_mul, nI_add, q_sub, q_div, q_pos, q_neg, q_T, q_F, q_max0, q_flg1, q_flg0, q_min, q_min2, q_bit, q_some]
  | d + 1, t, f + 1, ht, hf => by
    rcases pair_cases hT hn (X (6 + k) 3) (f0 + 2 * t) with ⟨h1, h2, h3⟩ | ⟨h1, h2 | ⟨h2, h3⟩⟩
    · rcases t_look_L (p16 := p16) hk hsz hW hT hn kk d (t + 1) f (by omega) (by omega) with ⟨g1, g2⟩ | ⟨i0, g1, g2, g3, g4, g5⟩
      · refine Or.inl ⟨fun i a1 a2 => ?_, ?_⟩
        · by_cases e : i = t
          · rw [e]; exact h1
          · exact g1 i (by omega) a2
        · rw [← g2]
          simp (disch := omega) only [fX4_read_L89, lt, jn, q_lit, q_bnd, q_cl, q_le, q_lt, q_eq, pk_mul, nI_add, q_sub, q_div, q_pos, q_neg, q_T, q_F, q_max0, q_flg1, q_flg0, q_min, q_min2, q_bit, q_some, h2, h3]
      · refine Or.inr ⟨i0, by omega, g2, fun i a1 a2 => ?_, g4, ?_⟩
        · by_cases e : i = t
          · rw [e]; exact h1
          · exact g3 i (by omega) a2
        · rw [← g5]
          simp (disch := omega) only [fX4_read_L89, lt, jn, q_lit, q_bnd, q_cl, q_le, q_lt, q_eq, pk_mul, nI_add, q_sub, q_div, q_pos, q_neg, q_T, q_F, q_max0, q_flg1, q_flg0, q_min, q_min2, q_bit, q_some, h2, h3]
    · refine Or.inr ⟨t, by omega, by omega, fun i a1 a2 => by omega, h1, ?_⟩
      simp (disch := omega) only [fX4_read_L89, lt, q_lit, q_bnd, q_cl, q_eq, q_le, q_neg, q_T, q_F, q_some, pk_mul, nI_add, h2]
    · refine Or.inr ⟨t, by omega, by omega, fun i a1 a2 => by omega, h1, ?_⟩
      simp (disch := omega) only [fX4_read_L89, lt, q_lit, q_bnd, q_cl, q_eq, q_le, q_neg, q_T, q_F, q_some, pk_mul, nI_add, h2, h3]
theorem t_cell {Q : M2} {sz : Nat} (h0 : Q 0 0 = nI 1) (h2 : Q 2 0 = nI sz) (hsz : sz ≤ 40) (x : Int32) : (∃ j, j < sz ∧ x = nI j ∧ fX2_hasCell x Q = some (nI 1)) ∨ ((∀ j, j < sz → x ≠ nI j) ∧ fX2_hasCell x Q = some (nI 0)) := by
  rcases q_has x sz (by omega) with ⟨j, hj, rfl, e⟩ | ⟨hj, e⟩
  · refine Or.inl ⟨j, hj, rfl, ?_⟩
    unfold fX2_hasCell
    rw [h0, h2, if_neg (by decide), q_lit, q_lit, e]
    rfl
  · refine Or.inr ⟨hj, ?_⟩
    unfold fX2_hasCell
    rw [h0, h2, if_neg (by decide), q_lit, q_lit, e]
    rfl
theorem t_whole_L {Q : M2} {sz f0 n : Nat} (h0 : Q 0 0 = nI 1) (h2 : Q 2 0 = nI sz) (hsz : sz ≤ 40) (hf0 : f0 < sz) (hn : n ≤ 20) (kk : Int32 → Option Int32) : ∀ (d t f : Nat), t + d = n → d < f → f0 + 2 * t ≤ sz → ∃ W, t ≤ W ∧ W ≤ n ∧ f0 + 2 * W ≤ sz ∧ (W < n → sz ≤ f0 + 2 * W + 1) ∧ fX2_wholePairs_L2 Q (nI f0) (nI n) kk f (nI t) = kk (nI W)
  | 0, t, f + 1, ht, hf, hle => by
    refine ⟨t, by omega, by omega, hle, by omega, ?_⟩
    simp (disch := omega) only [fX2_wholePairs_L2, lt, jn, q_lit, q_bnd, q_cl, q_le, q_lt, q_eq, pk_mul, nI_add, q_sub, q_div, q_pos, q_neg, q_T, q_F, q_max0, q_flg1, q_flg0, q_min, q_min2, q_bit, q_some]
  | d + 1, t, f + 1, ht, hf, hle => by
    have hc : fX2_hasCell (nI f0) Q = some (nI 1) := by
      rcases t_cell h0 h2 hsz (nI f0) with ⟨j, hj, -, e⟩ | ⟨hj, -⟩
      · exact e
      · exact absurd rfl (hj f0 hf0)
    rcases t_cell h0 h2 hsz (nI (f0 + 2 * t + 1)) with ⟨j, hj, ej, e⟩ | ⟨hj, e⟩
    · rw [nI_eq (by omega) (by omega)] at ej
      obtain ⟨W, g1, g2, g3, g4, g5⟩ := t_whole_L h0 h2 hsz hf0 hn kk d (t + 1) f (by omega) (by omega) (by omega)
      refine ⟨W, by omega, g2, g3, g4, ?_⟩
      rw [← g5]
      simp (disch := omega) only [fX2_wholePairs_L2, lt, jn, q_lit, q_bnd, q_cl, q_le, q_lt, q_eq, pk_mul, nI_add, q_sub, q_div, q_pos, q_neg, q_T, q_F, q_max0, q_flg1, q_flg0, q_min, q_min2, q_bit, q_some, hc, e]
    · refine ⟨t, Nat.le_refl t, by omega, hle, fun _ => ?_, ?_⟩
      · by_cases e2 : f0 + 2 * t + 1 < sz
        · exact absurd rfl (hj _ e2)
        · omega
      · simp (disch := omega) only [fX2_wholePairs_L2, lt, jn, q_lit, q_bnd, q_cl, q_le, q_lt, q_eq, pk_mul, nI_add, q_sub, q_div, q_pos, q_neg, q_T, q_F, q_max0, q_flg1, q_flg0, q_min, q_min2, q_bit, q_some, hc, e]
/-- the model's two looks at a pair -/
theorem m_two {S : M2} {k l sz f0 t : Nat} (hk : k < 4) (hl : l < 3) (s20 : S 20 k = nI l) (s21 : S 21 k = nI sz) (hsz : sz ≤ 40) (hf0 : f0 < 100) (ht : t < 100) (i4 v10 : Int32) (kk : Int32 → Option (Int32 × M2)) : fX5_read_L77 (nI k) (nI l) (nI f0) i4 v10 (nI t) S kk 400 (nI 0) (nI 0) = kk (if f0 + 2 * t + 1 < sz then nI 0 else nI 2) := by
  have l4 := neg4 l hl
  by_cases e : f0 + 2 * t < sz
  · by_cases e2 : f0 + 2 * t + 1 < sz
    · rw [if_pos e2, fX5_read_L77]
      simp (disch := omega) only [lt, jn, q_lit, q_bnd, q_cl, q_le, q_lt, q_eq, pk_mul, nI_add, q_sub, q_div, q_pos, q_neg, q_T, q_F, q_max0, q_flg1, q_flg0, q_min, q_min2, q_bit, q_some, s20, s21, l4, nI_l, lN_add, q_cmpl, q_lneg, q_llt, Nat.add_zero]
      rw [fX5_read_L77]
      simp (disch := omega) only [lt, jn, q_lit, q_bnd, q_cl, q_le, q_lt, q_eq, pk_mul, nI_add, q_sub, q_div, q_pos, q_neg, q_T, q_F, q_max0, q_flg1, q_flg0, q_min, q_min2, q_bit, q_some, s20, s21, l4, nI_l, lN_add, q_cmpl, q_lneg, q_llt, Nat.add_zero]
      rw [fX5_read_L77]
      simp (disch := omega) only [lt, jn, q_lit, q_bnd, q_cl, q_le, q_lt, q_eq, pk_mul, nI_add, q_sub, q_div, q_pos, q_neg, q_T, q_F, q_max0, q_flg1, q_flg0, q_min, q_min2, q_bit, q_some]
    · rw [if_neg e2, fX5_read_L77]
      simp (disch := omega) only [lt, jn, q_lit, q_bnd, q_cl, q_le, q_lt, q_eq, pk_mul, nI_add, q_sub, q_div, q_pos, q_neg, q_T, q_F, q_max0, q_flg1, q_flg0, q_min, q_min2, q_bit, q_some, s20, s21, l4, nI_l, lN_add, q_cmpl, q_lneg, q_llt, Nat.add_zero]
      rw [fX5_read_L77]
      simp (disch := omega) only [lt, jn, q_lit, q_bnd, q_cl, q_le, q_lt, q_eq, pk_mul, nI_add, q_sub, q_div, q_pos, q_neg, q_T, q_F, q_max0, q_flg1, q_flg0, q_min, q_min2, q_bit, q_some, s20, s21, l4, nI_l, lN_add, q_cmpl, q_lneg, q_llt, Nat.add_zero]
      rw [fX5_read_L77]
      simp (disch := omega) only [lt, jn, q_lit, q_bnd, q_cl, q_le, q_lt, q_eq, pk_mul, nI_add, q_sub, q_div, q_pos, q_neg, q_T, q_F, q_max0, q_flg1, q_flg0, q_min, q_min2, q_bit, q_some]
  · rw [if_neg (by omega), fX5_read_L77]
    simp (disch := omega) only [lt, jn, q_lit, q_bnd, q_cl, q_le, q_lt, q_eq, pk_mul, nI_add, q_sub, q_div, q_pos, q_neg, q_T, q_F, q_max0, q_flg1, q_flg0, q_min, q_min2, q_bit, q_some, s20, s21, l4, nI_l, lN_add, q_cmpl, q_lneg, q_llt, Nat.add_zero]
    rw [fX5_read_L77]
    simp (disch := omega) only [lt, jn, q_lit, q_bnd, q_cl, q_le, q_lt, q_eq, pk_mul, nI_add, q_sub, q_div, q_pos, q_neg, q_T, q_F, q_max0, q_flg1, q_flg0, q_min, q_min2, q_bit, q_some]
/-- T pairs are folded -/
theorem run_L {k l sz f0 n W T : Nat} {p16 : Int32} (hk : k < 4) (hl : l < 3) (hsz : sz ≤ 40) (hf0 : f0 < sz) (hn5 : n ≤ 5) (hm : W ≤ 20) (hW : f0 + 2 * W ≤ sz) (m : Nat) (hmn : W ≤ m) (hm20 : m ≤ 20) (hT : T ≤ W) (k205 : (Int32 × M2) → Option (Int32 × M2)) (k250 : (Int32 × Int32 × M2) → Option (Int32 × M2)) (kx : M3 → Option (Int32 × M3)) : ∀ (d t f g : Nat) (X : M3) (S : M2), t + d = T → R X S → X 2 0 0 = nI n → S 20 k = nI l → S 21 k = nI sz → (∀ i, i < sz → X (6 + k) 3 i = S 22 (40 * k + i)) → (∀ i, t ≤ i → i < T → okPair n (X (6 + k) 3) (f0 + 2 * i)) → ∃ (X' : M3) (S' : M2), fX4_read_L153 (nI k) (nI f0) (nI W) p16 kx (f + d) (nI t) X = fX4_read_L153 (nI k) (nI f0) (nI W) p16 kx f (nI T) X' ∧ fX5_read_L62 (nI k) (nI l) (nI f0) (nI m) k205 k250 (g + d) (nI 0) (nI t) (nI t) S = fX5_read_L62 (nI k) (nI l) (nI f0) (nI m) k205 k250 g (nI 0) (nI T) (nI T) S' ∧ R X' S' ∧ X' 2 0 0 = nI n ∧ (∀ q, q ≠ 2 → X' q = X q) ∧ (∀ q, q ≠ 0 → q ≠ 1 → S' q = S q) ∧ ∀ x, 62 ≤ x → S' 0 x = S 0 x
  | 0, t, f, g, X, S, ht, hR, hX, s20, s21, hc, hok => by
    have e : t = T := by omega
    subst e
    exact ⟨X, S, rfl, rfl, hR, hX, fun _ _ => rfl, fun _ _ _ => rfl, fun _ _ => rfl⟩
  | d + 1, t, f, g, X, S, ht, hR, hX, s20, s21, hc, hok => by
    obtain ⟨⟨b, hb, e1⟩, ⟨k2, hk2, e2⟩⟩ := hok t (Nat.le_refl t) (by omega)
    obtain ⟨Q, S1, v, q1, q2, q3, q4, q5, q6, q7⟩ := fold_step hR hX hn5 hb hk2
    have hX' : va_up X 2 Q 2 0 0 = nI n := q5
    have hx : ∀ q, q ≠ 2 → va_up X 2 Q q = X q := fun q hq => by rw [q_up, if_neg hq]
    obtain ⟨X', S', r1, r2, r3, r4, r5, r6, r7⟩ := run_L (p16 := p16) hk hl hsz hf0 hn5 hm hW m hmn hm20 hT k205 k250 kx d (t + 1) f g (va_up X 2 Q) S1 (by omega) q4 hX' (by rw [q6 20 (by decide) (by decide)]; exact s20) (by rw [q6 21 (by decide) (by decide)]; exact s21) (fun i hi => by rw [hx _ (by omega), q6 22 (by decide) (by decide)]; exact hc i hi) (fun i a1 a2 => by rw [hx _ (by omega)]; exact hok i (by omega) a2)
    refine ⟨X', S', ?_, ?_, r3, r4, fun q hq => (r5 q hq).trans (hx q hq), fun q h0 h1 => (r6 q h0 h1).trans (q6 q h0 h1), fun x hx => (r7 x hx).trans (q7 x hx)⟩
    · rw [← r1, show f + (d + 1) = f + d + 1 by omega]
      simp (disch := omega) only [fX4_read_L153, lt, jn, q_lit, q_bnd, q_cl, q_le, q_lt, q_eq, pk_mul, nI_add, q_sub, q_div, q_pos, q_neg, q_T, q_F, q_max0, q_flg1, q_flg0, q_min, q_min2, q_bit, q_some, e1, e2, q1]
    · have c1 : S 22 (40 * k + f0 + 2 * t) = nI b := by rw [← e1, hc _ (by omega), Nat.add_assoc]
      have c2 : S 22 (40 * k + f0 + 2 * t + 1) = nI k2 := by
        rw [← e2, hc _ (by omega)]
        exact congrArg (S 22) (by omega)
      have tw := fun v10 kk => m_two (f0 := f0) (t := t) hk hl s20 s21 hsz (by omega) (by omega) (nI m) v10 kk
      rw [← r2, show g + (d + 1) = g + d + 1 by omega]
      simp (disch := omega) only [fX5_read_L62, lt, jn, q_lit, q_bnd, q_cl, q_le, q_lt, q_eq, pk_mul, nI_add, q_sub, q_div, q_pos, q_neg, q_T, q_F, q_max0, q_flg1, q_flg0, q_min, q_min2, q_bit, q_some, tw, c1, c2, q2]
theorem look0 {X : M3} {x f p16 : Int32} (kk : Unit → Option (Int32 × M3)) : fX4_read_L89 X x f (nI 0) p16 kk 400 (nI 0) = kk () := by
  rw [fX4_read_L89]
  simp (disch := omega) only [lt, jn, q_lit, q_bnd, q_cl, q_le, q_lt, q_eq, pk_mul, nI_add, q_sub, q_div, q_pos, q_neg, q_T, q_F, q_max0, q_flg1, q_flg0, q_min, q_min2, q_bit, q_some]
theorem run0 {X : M3} {x f p16 : Int32} (kk : M3 → Option (Int32 × M3)) : fX4_read_L153 x f (nI 0) p16 kk 400 (nI 0) X = kk X := by
  rw [fX4_read_L153]
  simp (disch := omega) only [lt, jn, q_lit, q_bnd, q_cl, q_le, q_lt, q_eq, pk_mul, nI_add, q_sub, q_div, q_pos, q_neg, q_T, q_F, q_max0, q_flg1, q_flg0, q_min, q_min2, q_bit, q_some]
theorem R.torn {X : M3} {S : M2} (h : R X S) (v : Int32) : R (va_up X 0 (va_up (X 0) 7 (fun _ => v))) (va_up S 23 (fun _ => v)) := ⟨h.1, h.2.1, h.2.2.1, rfl⟩
theorem m_stop {x y f v10 : Int32} {m v11 r g : Nat} {S : M2} (k205 : (Int32 × M2) → Option (Int32 × M2)) (k250 : (Int32 × Int32 × M2) → Option (Int32 × M2)) (hr : 0 < r ∧ r < 4) (hm : m ≤ 20) (hv : v11 < m) (tw : ∀ kk, fX5_read_L77 x y f (nI m) v10 (nI v11) S kk 400 (nI 0) (nI 0) = kk (nI r)) : fX5_read_L62 x y f (nI m) k205 k250 (g + 2) (nI 0) v10 (nI v11) S = k250 (nI r, v10, S) := by
  rw [fX5_read_L62]
  simp (disch := omega) only [lt, jn, q_lit, q_bnd, q_cl, q_le, q_lt, q_eq, pk_mul, nI_add, q_sub, q_div, q_pos, q_neg, q_T, q_F, q_max0, q_flg1, q_flg0, q_min, q_min2, q_bit, q_some, tw]
  rw [fX5_read_L62]
  by_cases e : m ≤ v11 + 1
  · simp (disch := omega) only [lt, jn, q_lit, q_bnd, q_cl, q_le, q_lt, q_eq, pk_mul, nI_add, q_sub, q_div, q_pos, q_neg, q_T, q_F, q_max0, q_flg1, q_flg0, q_min, q_min2, q_bit, q_some]
  · simp (disch := omega) only [lt, jn, q_lit, q_bnd, q_cl, q_le, q_lt, q_eq, pk_mul, nI_add, q_sub, q_div, q_pos, q_neg, q_T, q_F, q_max0, q_flg1, q_flg0, q_min, q_min2, q_bit, q_some]
theorem q_le01 : (nI 0 ≤ -nI 1) = False := by decide
theorem t_whole0 {Q : M2} (x : Int32) : fX2_wholePairs x (nI 0) Q = some (nI 0) := by
  unfold fX2_wholePairs
  rw [fX2_wholePairs_L2]
  simp (disch := omega) only [lt, jn, q_lit, q_bnd, q_cl, q_le, q_lt, q_eq, pk_mul, nI_add, q_sub, q_div, q_pos, q_neg, q_T, q_F, q_max0, q_flg1, q_flg0, q_min, q_min2, q_bit, q_some]
theorem t_wholeN {Q : M2} {x : Int32} {m : Nat} (hm : 0 < m ∧ m ≤ 20) (h : fX2_hasCell x Q = some (nI 0)) : fX2_wholePairs x (nI m) Q = some (nI 0) := by
  unfold fX2_wholePairs
  rw [fX2_wholePairs_L2]
  simp (disch := omega) only [lt, jn, q_lit, q_bnd, q_cl, q_le, q_lt, q_eq, pk_mul, nI_add, q_sub, q_div, q_pos, q_neg, q_T, q_F, q_max0, q_flg1, q_flg0, q_min, q_min2, q_bit, q_some, h]
theorem z00 (f : Int32) : f.toInt64 + lN (2 * 0) + lN 0 = f.toInt64 := by
  show f.toInt64 + 0 + 0 = f.toInt64
  rw [Int64.add_zero, Int64.add_zero]
theorem m_out {S : M2} {k l sz : Nat} (hk : k < 4) (hl : l < 3) (s20 : S 20 k = nI l) (s21 : S 21 k = nI sz) (hsz : sz ≤ 40) {x : Int32} (hx : ∀ j, j < sz → x ≠ nI j) (i4 v10 : Int32) (kk : Int32 → Option (Int32 × M2)) : fX5_read_L77 (nI k) (nI l) x i4 v10 (nI 0) S kk 400 (nI 0) (nI 0) = kk (nI 2) := by
  have l4 := neg4 l hl
  rcases pk_ix x (n := sz) (by omega) with h | h | ⟨j, hj, e⟩
  · have a1 : x.toInt64 < 0 := by
      rw [Int32.lt_iff_toInt_lt] at h
      rw [Int64.lt_iff_toInt_lt, Int32.toInt_toInt64]
      exact h
    rw [fX5_read_L77]
    simp (disch := omega) only [lt, jn, q_lit, q_bnd, q_cl, q_le, q_lt, q_eq, pk_mul, nI_add, q_sub, q_div, q_pos, q_neg, q_T, q_F, q_max0, q_flg1, q_flg0, q_min, q_min2, q_bit, q_some, s20, s21, l4, nI_l, z00, q_cmpl, a1]
    rw [fX5_read_L77]
    simp (disch := omega) only [lt, jn, q_lit, q_bnd, q_cl, q_le, q_lt, q_eq, pk_mul, nI_add, q_sub, q_div, q_pos, q_neg, q_T, q_F, q_max0, q_flg1, q_flg0, q_min, q_min2, q_bit, q_some]
  · have a1 : ¬ x.toInt64 < 0 := by
      rw [Int32.le_iff_toInt_le, nI_toInt (by omega)] at h
      rw [Int64.lt_iff_toInt_lt, Int32.toInt_toInt64]
      have : (0 : Int64).toInt = 0 := by decide
      omega
    have a2 : ¬ x.toInt64 < lN sz := by
      rw [Int32.le_iff_toInt_le, nI_toInt (by omega)] at h
      rw [Int64.lt_iff_toInt_lt, Int32.toInt_toInt64, lN_toInt (by omega)]
      omega
    rw [fX5_read_L77]
    simp (disch := omega) only [lt, jn, q_lit, q_bnd, q_cl, q_le, q_lt, q_eq, pk_mul, nI_add, q_sub, q_div, q_pos, q_neg, q_T, q_F, q_max0, q_flg1, q_flg0, q_min, q_min2, q_bit, q_some, s20, s21, l4, nI_l, z00, q_cmpl, a1, a2]
    rw [fX5_read_L77]
    simp (disch := omega) only [lt, jn, q_lit, q_bnd, q_cl, q_le, q_lt, q_eq, pk_mul, nI_add, q_sub, q_div, q_pos, q_neg, q_T, q_F, q_max0, q_flg1, q_flg0, q_min, q_min2, q_bit, q_some]
  · exact absurd e (hx j hj)
