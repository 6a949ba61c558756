/-! what was counted; by a seed -/
theorem spSeen_pass {N : NN} {B : BB} {fl st : Nat} : ∀ d i : Nat, spSeen (spPass N B fl) st d i = spSeen (spNight N B fl) st d i
  | 0, _ => rfl
  | d + 1, i => by
    rw [spSeen, spSeen, spSeen_pass d (i + 1)]
    rfl
theorem sn_of {N : NN} {B : BB} {S S1 : M2} (hM : MS N B (S 0)) (hE : ME S S1) : SN N S1 := by
  have e : S1 0 = S 0 := hE 0 (by decide)
  refine ⟨?_, fun i hi => ?_⟩
  · rw [e]
    exact hM.1.2.2.2
  · rw [e]
    exact hM.2.2.2.1 i hi
theorem t_seenN {N : NN} {B : BB} {Q : M2} {fl : Nat} (q2 : CS (spNight N B fl) B Q) (q3 : WF (spNight N B fl) B) : fX1_isAsSeen (nI 0) Q = some (nI (spSeen (spNight N B fl) 0 (N 15 0) 0).toNat) := t_seen q2 q3 (by omega)
theorem m_seenN {N : NN} {B : BB} {S0 S : M2} {fl : Nat} (hS : MA (spPass N B fl) B S0 S) (hW : WF (spPass N B fl) B) (hN : SN N S) {st : Nat} (hst : st < 32) : fX5_isSo (nI st) S = some (nI (spSeen (spNight N B fl) st (N 15 0) 0).toNat) := by
  have := m_seen hS hW hN hst
  rw [← spSeen_pass]
  exact this
theorem tastes_L {X : M3} {S : M2} {N : NN} {B : BB} (hC : CS N B (X 2)) (hW : WF N B) (h3 : S 3 0 = nI (N 0 0)) (h4 : S 4 0 = nI (N 7 0)) (hM : MS N B (S 0)) {m : Nat} (hm : m < N 7 0) : ∀ (d t f g : Nat) (X1 : M3) (S1 : M2), t + d = 6 → d < f → d < g → (∀ q, q ≠ 3 → X1 q = X q) → ME S S1 → ∃ (a : Int32) (X' : M3) (S' : M2), (∀ kk : (Int32 × M3) → Option (Int32 × M3), fX4_tastes_L17 (nI m) kk f (nI (spBits (fun t => spSeen (spNight (va_up N 9 (va_up (N 9) m t)) B 15) 0 (N 15 0) 0) t)) (nI t) X1 = kk (a, X')) ∧ (∀ kk : (Int32 × M2) → Option (Int32 × M2), fX5_tastes_L14 (nI m) kk g (nI (spBits (fun t => spSeen (spNight (va_up N 9 (va_up (N 9) m t)) B 15) 0 (N 15 0) 0) t)) (nI t) S1 = kk (a, S')) ∧ (∀ q, q ≠ 3 → X' q = X q) ∧ ME S S'
  | 0, t, f + 1, g + 1, X1, S1, ht, hf, hg, hX, hE => by
    have e : t = 6 := by omega
    subst e
    refine ⟨nI (spBits (fun t => spSeen (spNight (va_up N 9 (va_up (N 9) m t)) B 15) 0 (N 15 0) 0) 6), X1, S1, fun kk => ?_, fun kk => ?_, hX, hE⟩
    · simp (disch := omega) only [fX4_tastes_L17, lt, jn, q_lit, q_bnd, q_cl, q_le, q_lt, q_eq, pk_mul, nI_add, q_sub, q_div, q_pos, q_neg, q_T, q_F, q_max0, q_flg1, q_flg0, q_min, q_min2, q_bit, q_some]
    · simp (disch := omega) only [fX5_tastes_L14, lt, jn, q_lit, q_bnd, q_cl, q_le, q_lt, q_eq, pk_mul, nI_add, q_sub, q_div, q_pos, q_neg, q_T, q_F, q_max0, q_flg1, q_flg0, q_min, q_min2, q_bit, q_some]
  | d + 1, t, f + 1, g + 1, X1, S1, ht, hf, hg, hX, hE => by
    have w1 := hW.1
    have x2 := hX 2 (by decide)
    obtain ⟨Q0, c1, c2⟩ := t_copy (X1 3) hC hW
    have hW2 := hW.tr1 (m := m) (v := t) (by omega)
    obtain ⟨Q2, q1, q2, q3⟩ := t_loose (fl := 15) (by omega) (c2.tr1 m t) hW2
    have qs : fX1_isAsSeen (nI 0) Q2 = some (nI (spSeen (spNight (va_up N 9 (va_up (N 9) m t)) B 15) 0 (N 15 0) 0).toNat) := t_seenN q2 q3
    obtain ⟨S2, i1, i2⟩ := m_starts hE h3 h4 hM hW
    have i3 : MA (va_up N 9 (va_up (N 9) m t)) B S (va_up S2 1 (upd (S2 1) (30 + 4 * m + 1) (nI t))) := ⟨fun q hq => by rw [q_up, if_neg hq]; exact i2.1 q hq, i2.2.1, i2.2.2.1, by
      rw [q_up, if_pos rfl]
      exact i2.2.2.2.tr1 hW hm⟩
    obtain ⟨S4, l1, l2, l3⟩ := m_nights (n := 1) (by omega) i3 hW2
    have ls : fX5_isSo (nI 0) S4 = some (nI (spSeen (spNight (va_up N 9 (va_up (N 9) m t)) B 15) 0 (N 15 0) 0).toNat) := m_seenN (N := va_up N 9 (va_up (N 9) m t)) l2 l3 (sn_of (N := N) hM (ME.ma l2)) (by omega)
    obtain ⟨a, X', S', r1, r2, r3⟩ := tastes_L hC hW h3 h4 hM hm d (t + 1) f g (va_up X1 3 Q2) S4 (by omega) (by omega) (by omega) (fun q hq => by rw [q_up, if_neg hq]; exact hX q hq) (ME.ma l2)
    rw [spBits] at r1 r2
    refine ⟨a, X', S', fun kk => ?_, fun kk => ?_, r3⟩
    · rw [← r1 kk]
      simp (disch := omega) only [fX4_tastes_L17, lt, jn, q_lit, q_bnd, q_cl, q_le, q_lt, q_eq, pk_mul, nI_add, q_sub, q_div, q_pos, q_neg, q_T, q_F, q_max0, q_flg1, q_flg0, q_min, q_min2, q_bit, q_some, x2, c1, q_up, up_up, q1, qs, q_b0, q_shl, q_or]
      cases spSeen (spNight (va_up N 9 (va_up (N 9) m t)) B 15) 0 (N 15 0) 0 <;> rfl
    · rw [← r2 kk]
      simp (disch := omega) only [fX5_tastes_L14, lt, jn, q_lit, q_bnd, q_cl, q_le, q_lt, q_eq, pk_mul, nI_add, q_sub, q_div, q_pos, q_neg, q_T, q_F, q_max0, q_flg1, q_flg0, q_min, q_min2, q_bit, q_some, i1, l1, ls, q_flag, q_orf]
theorem k_tastes {X : M3} {S : M2} (h : R X S) (x : Int32) : ∃ a X' S', fX4_tastes x X = some (a, X') ∧ fX5_tastes x S = some (a, S') ∧ R X' S' := by
  obtain ⟨N, B, hW, hn, hC, hM, e3, e4, hN, hK⟩ := h.data
  have w1 := hW.1
  have c7 := hC.1.2.2.1
  have eb : fX5_isMoth x S = fX1_hasMoth x (X 2) := m_isMoth (e4.trans c7.symm) x
  rcases t_hasMoth c7 (by omega) x with ⟨m, hm, rfl, h1⟩ | ⟨-, h1⟩
  · rw [h1] at eb
    obtain ⟨a, X', S', r1, r2, r3, r4⟩ := tastes_L hC hW e3 e4 hM hm 6 0 400 400 X S (by omega) (by omega) (by omega) (fun _ _ => rfl) (fun _ _ => rfl)
    rw [spBits] at r1 r2
    refine ⟨a, X', S', ?_, ?_, (h.xe fun k a1 _ _ => r3 k a1).me r4⟩
    · simp (disch := omega) only [fX4_tastes, lt, q_lit, q_some, h1, q_eq, q_neg, r1]
    · simp (disch := omega) only [fX5_tastes, lt, q_lit, q_some, eb, q_eq, q_neg, r2]
  · rw [h1] at eb
    refine ⟨-1, X, S, ?_, ?_, h⟩
    · simp (disch := omega) only [fX4_tastes, lt, jn, q_lit, q_bnd, q_cl, q_le, q_lt, q_eq, pk_mul, nI_add, q_sub, q_div, q_pos, q_neg, q_T, q_F, q_max0, q_flg1, q_flg0, q_min, q_min2, q_bit, q_some, h1]
    · simp (disch := omega) only [fX5_tastes, lt, jn, q_lit, q_bnd, q_cl, q_le, q_lt, q_eq, pk_mul, nI_add, q_sub, q_div, q_pos, q_neg, q_T, q_F, q_max0, q_flg1, q_flg0, q_min, q_min2, q_bit, q_some, eb]
theorem but_c : ∀ m, m < 4 → (nI 15) &&& (nI (2 ^ m) ^^^ (-nI 1)) = nI (15 - 2 ^ m) := by decide +kernel
theorem but_m : ∀ n, n ≤ 4 → ∀ m, m < n → (nI (2 ^ n - 1)) &&& (nI (2 ^ m) ^^^ (-nI 1)) = nI (2 ^ n - 1 - 2 ^ m) := by decide +kernel
theorem but_b : ∀ n, n ≤ 4 → ∀ m, m < n → ∀ i, i < n → (15 - 2 ^ m).testBit i = (2 ^ n - 1 - 2 ^ m).testBit i := by decide +kernel
theorem bought_L {X : M3} {S : M2} {N : NN} {B : BB} (hC : CS N B (X 2)) (hW : WF N B) (h3 : S 3 0 = nI (N 0 0)) (h4 : S 4 0 = nI (N 7 0)) (hM : MS N B (S 0)) : ∀ (d t f g : Nat) (X1 : M3) (S1 : M2), t + d = N 7 0 → d < f → d < g → (∀ q, q ≠ 3 → X1 q = X q) → ME S S1 → ∃ (a : Int32) (X' : M3) (S' : M2), (∀ kk : (Int32 × M3) → Option (Int32 × M3), fX4_bought_L4 kk f (nI (spBits (fun t => spSeen (spNight N B (15 - 2 ^ t)) 0 (N 15 0) 0) t)) (nI t) X1 = kk (a, X')) ∧ (∀ kk : (Int32 × M2) → Option (Int32 × M2), fX5_bought_L4 kk g (nI (spBits (fun t => spSeen (spNight N B (15 - 2 ^ t)) 0 (N 15 0) 0) t)) (nI t) S1 = kk (a, S')) ∧ (∀ q, q ≠ 3 → X' q = X q) ∧ ME S S'
  | 0, t, f + 1, g + 1, X1, S1, ht, hf, hg, hX, hE => by
    have w1 := hW.1
    have e : t = N 7 0 := by omega
    have x2 := hX 2 (by decide)
    have h4' : S1 4 0 = nI (N 7 0) := by rw [hE 4 (by decide)]; exact h4
    refine ⟨nI (spBits (fun t => spSeen (spNight N B (15 - 2 ^ t)) 0 (N 15 0) 0) t), X1, S1, fun kk => ?_, fun kk => ?_, hX, hE⟩
    · simp (disch := omega) only [fX4_bought_L4, lt, jn, q_lit, q_bnd, q_cl, q_le, q_lt, q_eq, pk_mul, nI_add, q_sub, q_div, q_pos, q_neg, q_T, q_F, q_max0, q_flg1, q_flg0, q_min, q_min2, q_bit, q_some, x2, hC.1.2.2.1]
    · simp (disch := omega) only [fX5_bought_L4, lt, jn, q_lit, q_bnd, q_cl, q_le, q_lt, q_eq, pk_mul, nI_add, q_sub, q_div, q_pos, q_neg, q_T, q_F, q_max0, q_flg1, q_flg0, q_min, q_min2, q_bit, q_some, h4']
  | d + 1, t, f + 1, g + 1, X1, S1, ht, hf, hg, hX, hE => by
    have w1 := hW.1
    have x2 := hX 2 (by decide)
    have h4' : S1 4 0 = nI (N 7 0) := by rw [hE 4 (by decide)]; exact h4
    have hC1 : CS N B (X1 2) := by rw [x2]; exact hC
    have bc := but_c t (by omega)
    have bm := but_m (N 7 0) w1.2.1 t (by omega)
    obtain ⟨Q, q1, q2, q3⟩ := t_try (X := X1) (fl := 15 - 2 ^ t) (Nat.lt_of_le_of_lt (Nat.sub_le _ _) (by omega)) hC1 hW
    have qs := t_seenN q2 q3
    obtain ⟨S2, i1, i2⟩ := m_starts hE h3 h4 hM hW
    have h4'' : S2 4 0 = nI (N 7 0) := i2.m
    have hp2 : 2 ^ N 7 0 ≤ 2 ^ 4 := Nat.pow_le_pow_right (by decide) w1.2.1
    obtain ⟨S4, l1, l2, l3⟩ := m_night (fl := 2 ^ N 7 0 - 1 - 2 ^ t) (Nat.lt_of_le_of_lt (Nat.sub_le _ _) (pw4 w1.2.1)) i2 hW
    have ls := m_seenN l2 l3 (sn_of (N := N) hM (ME.ma l2)) (st := 0) (by omega)
    have eN : spNight N B (2 ^ N 7 0 - 1 - 2 ^ t) = spNight N B (15 - 2 ^ t) := by
      unfold spNight
      rw [spLoose_congr (N 7 0) fun i hi => ?_]
      exact (but_b (N 7 0) w1.2.1 t (by omega) i hi).symm
    rw [eN] at ls
    obtain ⟨a, X', S', r1, r2, r3⟩ := bought_L hC hW h3 h4 hM d (t + 1) f g (va_up X1 3 Q) S4 (by omega) (by omega) (by omega) (fun q hq => by rw [q_up, if_neg hq]; exact hX q hq) (ME.ma l2)
    rw [spBits] at r1 r2
    refine ⟨a, X', S', fun kk => ?_, fun kk => ?_, r3⟩
    · rw [← r1 kk]
      simp (disch := omega) only [fX4_bought_L4, lt, jn, q_lit, q_bnd, q_cl, q_le, q_lt, q_eq, pk_mul, nI_add, q_sub, q_div, q_pos, q_neg, q_T, q_F, q_max0, q_flg1, q_flg0, q_min, q_min2, q_bit, q_some, x2, hC.1.2.2.1, bc, q1, q_up, qs, q_b0, q_shl, q_or]
      cases spSeen (spNight N B (15 - 2 ^ t)) 0 (N 15 0) 0 <;> rfl
    · rw [← r2 kk]
      simp (disch := omega) only [fX5_bought_L4, lt, jn, q_lit, q_bnd, q_cl, q_le, q_lt, q_eq, pk_mul, nI_add, q_sub, q_div, q_pos, q_neg, q_T, q_F, q_max0, q_flg1, q_flg0, q_min, q_min2, q_bit, q_some, h4', i1, m_every' h4'' w1.2.1, q_shl, bm, l1, ls, q_flag, q_orf]
theorem k_bought {X : M3} {S : M2} (h : R X S) : ∃ a X' S', fX4_bought X = some (a, X') ∧ fX5_bought S = some (a, S') ∧ R X' S' := by
  obtain ⟨N, B, hW, hn, hC, hM, e3, e4, hN, hK⟩ := h.data
  have w1 := hW.1
  obtain ⟨a, X', S', r1, r2, r3, r4⟩ := bought_L hC hW e3 e4 hM (N 7 0) 0 400 400 X S (by omega) (by omega) (by omega) (fun _ _ => rfl) (fun _ _ => rfl)
  rw [spBits] at r1 r2
  refine ⟨a, X', S', ?_, ?_, (h.xe fun k a1 _ _ => r3 k a1).me r4⟩
  · unfold fX4_bought
    rw [q_lit, r1]
  · unfold fX5_bought
    rw [q_lit, r2]
theorem m4_ne (j : Nat) (h : j < 2 ^ 30) : ¬ nI j = -nI 4 := by
  intro e
  have := congrArg Int32.toInt e
  rw [nI_toInt (by omega), show (-nI 4 : Int32).toInt = -4 by decide] at this
  omega
theorem pricked_L {X3 : M3} {S5 : M2} {n d0 : Nat} {N : NN} {fl : Nat} {B : BB} (hn : n ≤ 5) (c0 : X3 2 0 0 = nI n) (m3 : S5 3 0 = nI n) (hs : ∀ st, st < 32 → fX1_isAsSeen (nI st) (X3 3) = some (nI (spSeen (spNight N B fl) st d0 0).toNat)) (ms : ∀ st, st < 32 → fX5_isSo (nI st) S5 = some (nI (spSeen (spNight N B fl) st d0 0).toNat)) (w : Int32) : ∀ (d t f g c : Nat) (l : Int32), t + d = 2 ^ n → d < f → d < g → c ≤ t → (c = 0 ∧ l = -nI 4 ∨ 0 < c ∧ ∃ j, j < 32 ∧ l = nI j) → ∃ (c' l' : Int32), (∀ kk : (Int32 × Int32) → Option (Int32 × M3), fX4_pricked_L25 w X3 kk f (nI c) l (nI t) = kk (c', l')) ∧ (∀ kk : (Int32 × Int32) → Option (Int32 × M2), fX5_pricked_L26 w S5 kk g (nI c) l (nI t) = kk (c', l'))
  | 0, t, f + 1, g + 1, c, l, ht, hf, hg, hc, hl => by
    have hp2 : 2 ^ n ≤ 2 ^ 5 := Nat.pow_le_pow_right (by decide) hn
    have e : t = 2 ^ n := by omega
    subst e
    refine ⟨nI c, l, fun kk => ?_, fun kk => ?_⟩
    · simp (disch := omega) only [fX4_pricked_L25, lt, jn, q_lit, q_bnd, q_cl, q_le, q_lt, q_eq, pk_mul, nI_add, q_sub, q_div, q_pos, q_neg, q_T, q_F, q_max0, q_flg1, q_flg0, q_min, q_min2, q_bit, q_some, c0, q_shl]
    · simp (disch := omega) only [fX5_pricked_L26, lt, jn, q_lit, q_bnd, q_cl, q_le, q_lt, q_eq, pk_mul, nI_add, q_sub, q_div, q_pos, q_neg, q_T, q_F, q_max0, q_flg1, q_flg0, q_min, q_min2, q_bit, q_some, m3, q_shl]
  | d + 1, t, f + 1, g + 1, c, l, ht, hf, hg, hc, hl => by
    have hp2 : 2 ^ n ≤ 2 ^ 5 := Nat.pow_le_pow_right (by decide) hn
    have h1 := hs t (by omega)
    have h2 := ms t (by omega)
    by_cases e : spSeen (spNight N B fl) t d0 0 = true
    · rcases hl with ⟨rfl, rfl⟩ | ⟨hc0, j, hj, rfl⟩
      · obtain ⟨c', l', r1, r2⟩ := pricked_L hn c0 m3 hs ms w d (t + 1) f g 1 (nI t) (by omega) (by omega) (by omega) (by omega) (Or.inr ⟨by omega, t, by omega, rfl⟩)
        refine ⟨c', l', fun kk => ?_, fun kk => ?_⟩
        · rw [← r1 kk]
          simp (disch := omega) only [fX4_pricked_L25, lt, jn, q_lit, q_bnd, q_cl, q_le, q_lt, q_eq, pk_mul, nI_add, q_sub, q_div, q_pos, q_neg, q_T, q_F, q_max0, q_flg1, q_flg0, q_min, q_min2, q_bit, q_some, c0, q_shl, h1, e, q_b0, Bool.true_eq_false]
        · rw [← r2 kk]
          simp (disch := omega) only [fX5_pricked_L26, lt, jn, q_lit, q_bnd, q_cl, q_le, q_lt, q_eq, pk_mul, nI_add, q_sub, q_div, q_pos, q_neg, q_T, q_F, q_max0, q_flg1, q_flg0, q_min, q_min2, q_bit, q_some, m3, q_shl, h2, e, q_b0, Bool.true_eq_false]
      · obtain ⟨c', l', r1, r2⟩ := pricked_L hn c0 m3 hs ms w d (t + 1) f g (c + 1) (nI j) (by omega) (by omega) (by omega) (by omega) (Or.inr ⟨by omega, j, hj, rfl⟩)
        have hj4 := m4_ne j (by omega)
        refine ⟨c', l', fun kk => ?_, fun kk => ?_⟩
        · rw [← r1 kk]
          simp (disch := omega) only [fX4_pricked_L25, lt, jn, q_lit, q_bnd, q_cl, q_le, q_lt, q_eq, pk_mul, nI_add, q_sub, q_div, q_pos, q_neg, q_T, q_F, q_max0, q_flg1, q_flg0, q_min, q_min2, q_bit, q_some, c0, q_shl, h1, e, q_b0, Bool.true_eq_false, hj4]
        · rw [← r2 kk]
          simp (disch := omega) only [fX5_pricked_L26, lt, jn, q_lit, q_bnd, q_cl, q_le, q_lt, q_eq, pk_mul, nI_add, q_sub, q_div, q_pos, q_neg, q_T, q_F, q_max0, q_flg1, q_flg0, q_min, q_min2, q_bit, q_some, m3, q_shl, h2, e, q_b0, Bool.true_eq_false]
    · have e' : spSeen (spNight N B fl) t d0 0 = false := by simpa using e
      obtain ⟨c', l', r1, r2⟩ := pricked_L hn c0 m3 hs ms w d (t + 1) f g c l (by omega) (by omega) (by omega) (by omega) hl
      refine ⟨c', l', fun kk => ?_, fun kk => ?_⟩
      · rw [← r1 kk]
        simp (disch := omega) only [fX4_pricked_L25, lt, jn, q_lit, q_bnd, q_cl, q_le, q_lt, q_eq, pk_mul, nI_add, q_sub, q_div, q_pos, q_neg, q_T, q_F, q_max0, q_flg1, q_flg0, q_min, q_min2, q_bit, q_some, c0, q_shl, h1, e', q_b0]
      · rw [← r2 kk]
        simp (disch := omega) only [fX5_pricked_L26, lt, jn, q_lit, q_bnd, q_cl, q_le, q_lt, q_eq, pk_mul, nI_add, q_sub, q_div, q_pos, q_neg, q_T, q_F, q_max0, q_flg1, q_flg0, q_min, q_min2, q_bit, q_some, m3, q_shl, h2, e', q_b0]
theorem k_pricked {X : M3} {S : M2} (h : R X S) (w : Int32) : ∃ a X' S', fX4_pricked w X = some (a, X') ∧ fX5_pricked w S = some (a, S') ∧ R X' S' := by
  obtain ⟨N, B, hW, hn, hC, hM, e3, e4, hN, hK⟩ := h.data
  have w1 := hW.1
  rcases t_isPart w with ⟨j, j2, rfl, e6, e7⟩ | ⟨j1, e6, e7⟩
  · obtain ⟨Q, q1, q2, q3⟩ := t_try (X := X) (fl := 15) (by omega) hC hW
    obtain ⟨S1, i1, i2, -⟩ := hN.starts
    obtain ⟨S2, l1, l2, l3⟩ := m_nights (n := 1) (by omega) i2 hW
    have hp2 : 2 ^ N 0 0 ≤ 2 ^ 5 := Nat.pow_le_pow_right (by decide) w1.1
    have hsn : SN N S2 := sn_of (N := N) hM (ME.ma l2)
    have c0 : va_up X 3 Q 2 0 0 = nI (N 0 0) := hC.1.1
    obtain ⟨c', l', r1, r2⟩ := pricked_L (X3 := va_up X 3 Q) (S5 := S2) (n := N 0 0) (d0 := N 15 0) (N := N) (B := B) (fl := 15) w1.1 c0 l2.n (fun st hst => t_seen q2 q3 hst) (fun st hst => m_seenN l2 l3 hsn hst) (nI j) (2 ^ N 0 0) 0 400 400 0 (-nI 4) (by omega) (by omega) (by omega) (by omega) (Or.inl ⟨rfl, rfl⟩)
    refine ⟨if j = 0 then c' else l', va_up X 3 Q, S2, ?_, ?_, (h.xe xe3).me (ME.ma l2)⟩
    · simp (disch := omega) only [fX4_pricked, lt, q_lit, q_some, e7, q_eq, q_neg, q1, r1]
      by_cases a1 : j = 0
      · simp (disch := omega) only [a1, q_T]
      · simp (disch := omega) only [a1, q_F]
    · simp (disch := omega) only [fX5_pricked, lt, q_lit, q_some, e6, q_eq, q_neg, i1, l1, r2]
      by_cases a1 : j = 0
      · simp (disch := omega) only [a1, q_T]
      · simp (disch := omega) only [a1, q_F]
  · refine ⟨-1, X, S, ?_, ?_, h⟩
    · simp (disch := omega) only [fX4_pricked, lt, jn, q_lit, q_bnd, q_cl, q_le, q_lt, q_eq, pk_mul, nI_add, q_sub, q_div, q_pos, q_neg, q_T, q_F, q_max0, q_flg1, q_flg0, q_min, q_min2, q_bit, q_some, e7]
    · simp (disch := omega) only [fX5_pricked, lt, jn, q_lit, q_bnd, q_cl, q_le, q_lt, q_eq, pk_mul, nI_add, q_sub, q_div, q_pos, q_neg, q_T, q_F, q_max0, q_flg1, q_flg0, q_min, q_min2, q_bit, q_some, e6]
/-! a drawn number's bits 16 to 30 -/
theorem bt_l15 (i : Nat) (hi : 15 ≤ i) (h2 : i < 32) : bt (nI 32767) i = false := by
  have : ∀ i, i < 32 → 15 ≤ i → bt (nI 32767) i = false := by decide +kernel
  exact this i h2 hi
theorem of32 (x : Int32) : ∃ n, n < 2 ^ 32 ∧ x = nI n := by
  refine ⟨x.toBitVec.toNat, x.toBitVec.isLt, ?_⟩
  apply Int32.toBitVec_inj.1
  show _ = BitVec.ofNat 32 x.toBitVec.toNat
  simp
theorem draw (x : Int32) : ∃ r, r < 32768 ∧ ((x.toUInt32 >>> ((nI 16).toUInt32 &&& (nI 31).toUInt32)).toInt32) &&& nI 32767 = nI r ∧ (x >>> (nI 16 &&& nI 31)) &&& nI 32767 = nI r := by
  obtain ⟨n, hn, e⟩ := of32 ((x.toUInt32 >>> ((nI 16).toUInt32 &&& Int32.toUInt32 31)).toInt32)
  have e2 : ((x.toUInt32 >>> ((nI 16).toUInt32 &&& Int32.toUInt32 31)).toInt32) &&& nI 32767 = nI (n % 2 ^ 15) := by
    rw [e]
    exact pk_andN hn 15 (by decide)
  refine ⟨n % 2 ^ 15, Nat.mod_lt _ (by decide), e2, ?_⟩
  rw [← e2]
  apply b_ext
  intro i hi
  rw [b_and, b_and]
  by_cases e3 : 15 ≤ i
  · rw [bt_l15 i e3 hi, Bool.and_false, Bool.and_false]
  · have e4 : bt (x >>> (nI 16 &&& nI 31)) i = bt x (16 + i) := by
      have := b_sshr 16 (by decide) x hi
      rw [if_pos (by omega)] at this
      exact this
    rw [e4, b_ushr 16 (by decide) x i]
theorem q_mod {r n : Nat} (h : r < 2 ^ 31 ∧ 0 < n ∧ n < 2 ^ 31) : nI r - nI r / nI n * nI n = nI (r % n) := by
  rw [q_div h, pk_mul, q_sub (Nat.div_mul_le_self r n)]
  refine congrArg nI ?_
  have := Nat.div_add_mod r n
  rw [Nat.mul_comm] at this
  omega
theorem drift_L {X : M3} {S : M2} {n m : Nat} (hn0 : 0 < n) (hm : m ≤ 20) (c0 : X 2 0 0 = nI n) (w : Int32) : ∀ (d t f g : Nat) (s : Int32) (X1 : M3) (S1 : M2) (N : NN) (B : BB), t + d = m → d < f → d < g → (∀ q, q ≠ 3 → X1 q = X q) → N 0 0 = n → CS N B (X1 3) → WF N B → MA N B S S1 → ∃ (N' : NN) (B' : BB) (X' : M3) (S' : M2), (∀ kk : M3 → Option (Int32 × M3), fX4_drift_L51 (nI m) w kk f s (nI t) X1 = kk X') ∧ (∀ kk : M2 → Option (Int32 × M2), fX5_drift_L41 (nI m) w kk g s (nI t) S1 = kk S') ∧ (∀ q, q ≠ 3 → X' q = X q) ∧ CS N' B' (X' 3) ∧ WF N' B' ∧ MA N' B' S S'
  | 0, t, f + 1, g + 1, s, X1, S1, N, B, ht, hf, hg, hX, hn, hC, hW, hM => by
    have e : t = m := by omega
    subst e
    refine ⟨N, B, X1, S1, fun kk => ?_, fun kk => ?_, hX, hC, hW, hM⟩
    · simp (disch := omega) only [fX4_drift_L51, lt, jn, q_lit, q_bnd, q_cl, q_le, q_lt, q_eq, pk_mul, nI_add, q_sub, q_div, q_pos, q_neg, q_T, q_F, q_max0, q_flg1, q_flg0, q_min, q_min2, q_bit, q_some]
    · simp (disch := omega) only [fX5_drift_L41, lt, jn, q_lit, q_bnd, q_cl, q_le, q_lt, q_eq, pk_mul, nI_add, q_sub, q_div, q_pos, q_neg, q_T, q_F, q_max0, q_flg1, q_flg0, q_min, q_min2, q_bit, q_some]
  | d + 1, t, f + 1, g + 1, s, X1, S1, N, B, ht, hf, hg, hX, hn, hC, hW, hM => by
    have w1 := hW.1
    have x2 := hX 2 (by decide)
    have c0' : X1 2 0 0 = nI n := by rw [x2]; exact c0
    obtain ⟨r, hr, d1, d2⟩ := draw (s * nI 1103515245 + nI 12345)
    have hb : r % n < N 0 0 := by rw [hn]; exact Nat.mod_lt _ hn0
    have h3 : r % 3 < 3 := Nat.mod_lt _ (by decide)
    obtain ⟨k, i, hk, hi⟩ := hW.2.2.2.2.ex hb
    obtain ⟨Q, q1, q2, q3⟩ := t_putOnTop hC hW hk h3 hi
    obtain ⟨Q1, p1, p2, p3⟩ := t_pass q2 q3
    obtain ⟨S2, j1, j2⟩ := m_folds hM hW hk h3 hi true
    rw [if_pos rfl] at j2
    have j1' : fX5_folds (nI (r % n)) (nI (r % 3)) (nI 1) S1 = some S2 := j1
    obtain ⟨S3, l1, l2, l3⟩ := m_nights (n := 1) (by omega) j2 q3
    have mn : S1 3 0 = nI n := by rw [hM.n, hn]
    obtain ⟨N', B', X', S', r1, r2, r3⟩ := drift_L (X := X) hn0 hm c0 w d (t + 1) f g (s * nI 1103515245 + nI 12345) (va_up X1 3 Q1) S3 (spPass N (spTop (spTake B k i) (r % 3) (r % n)) 15) _ (by omega) (by omega) (by omega) (fun q hq => by rw [q_up, if_neg hq]; exact hX q hq) hn p2 p3 l2
    refine ⟨N', B', X', S', fun kk => ?_, fun kk => ?_, r3⟩
    · rw [← r1 kk]
      simp (disch := omega) only [fX4_drift_L51, lt, q_lit, q_le, q_eq, q_neg, q_some, q_T, nI_add, d1, c0', q_mod, q_up, q1, up_up, p1]
    · rw [← r2 kk]
      simp (disch := omega) only [fX5_drift_L41, lt, q_lit, q_le, q_eq, q_neg, q_some, nI_add, d2, mn, q_mod, j1', l1]
theorem k_drift {X : M3} {S : M2} (h : R X S) (s x w : Int32) : ∃ a X' S', fX4_drift s x w X = some (a, X') ∧ fX5_drift s x w S = some (a, S') ∧ R X' S' := by
  obtain ⟨N, B, hW, hn, hC, hM, e3, e4, hN, hK⟩ := h.data
  have w1 := hW.1
  have c0 := hC.1.1
  rcases q_within x (a := 1) (b := 20) (by omega) with ⟨n, n1, n2, rfl⟩ | ⟨-, n2⟩
  · rcases t_isPart w with ⟨j, j2, rfl, e6, e7⟩ | ⟨j1, e6, e7⟩
    · by_cases hz : N 0 0 = 0
      · refine ⟨-2, X, S, ?_, ?_, h⟩
        · simp (disch := omega) only [fX4_drift, q_win, lt, jn, q_lit, q_bnd, q_cl, q_le, q_lt, q_eq, pk_mul, nI_add, q_sub, q_div, q_pos, q_neg, q_T, q_F, q_max0, q_flg1, q_flg0, q_min, q_min2, q_bit, q_some, e7, c0, hz]
        · simp (disch := omega) only [fX5_drift, q_win, lt, jn, q_lit, q_bnd, q_cl, q_le, q_lt, q_eq, pk_mul, nI_add, q_sub, q_div, q_pos, q_neg, q_T, q_F, q_max0, q_flg1, q_flg0, q_min, q_min2, q_bit, q_some, q_in_0_127, q_in_0_1, q_in_0_2, q_in_0_3, q_in_0_4, q_in_0_5, q_in_0_9, q_in_0_10, q_in_0_20, q_in_1_20, q_in_48_57, q_in_97_122, q_inB, e6, e3, hz]
      · obtain ⟨Q0, c1, c2⟩ := t_copy (X 3) hC hW
        obtain ⟨S1, i1, i2, -⟩ := hN.starts
        obtain ⟨N', B', X', S', r1, r2, r3, r4, r5, r6⟩ := drift_L (X := X) (S := S) (n := N 0 0) (m := n) (by omega) n2 c0 (nI j) n 0 400 400 s (va_up X 3 Q0) S1 N B (by omega) (by omega) (by omega) (fun q hq => by rw [q_up, if_neg hq]) rfl c2 hW i2
        have hR := (h.xe fun k a1 _ _ => r3 k a1).me (ME.ma r6)
        rcases (by omega : j = 0 ∨ j = 1) with rfl | rfl
        · refine ⟨nI (spAll N' B'), X', S', ?_, ?_, hR⟩
          · simp (disch := omega) only [fX4_drift, q_win, lt, jn, q_lit, q_bnd, q_cl, q_le, q_lt, q_eq, pk_mul, nI_add, q_sub, q_div, q_pos, q_neg, q_T, q_F, q_max0, q_flg1, q_flg0, q_min, q_min2, q_bit, q_some, e7, c0, c1, r1, t_dutyAll r4 r5]
          · simp (disch := omega) only [fX5_drift, q_win, lt, jn, q_lit, q_bnd, q_cl, q_le, q_lt, q_eq, pk_mul, nI_add, q_sub, q_div, q_pos, q_neg, q_T, q_F, q_max0, q_flg1, q_flg0, q_min, q_min2, q_bit, q_some, q_in_0_127, q_in_0_1, q_in_0_2, q_in_0_3, q_in_0_4, q_in_0_5, q_in_0_9, q_in_0_10, q_in_0_20, q_in_1_20, q_in_48_57, q_in_97_122, q_inB, e6, e3, i1, r2, m_dutyAll r6 r5]
        · refine ⟨nI (spSum (N' 3) (N' 0 0)), X', S', ?_, ?_, hR⟩
          · simp (disch := omega) only [fX4_drift, q_win, lt, jn, q_lit, q_bnd, q_cl, q_le, q_lt, q_eq, pk_mul, nI_add, q_sub, q_div, q_pos, q_neg, q_T, q_F, q_max0, q_flg1, q_flg0, q_min, q_min2, q_bit, q_some, e7, c0, c1, r1, t_sum r4 r5]
          · simp (disch := omega) only [fX5_drift, q_win, lt, jn, q_lit, q_bnd, q_cl, q_le, q_lt, q_eq, pk_mul, nI_add, q_sub, q_div, q_pos, q_neg, q_T, q_F, q_max0, q_flg1, q_flg0, q_min, q_min2, q_bit, q_some, q_in_0_127, q_in_0_1, q_in_0_2, q_in_0_3, q_in_0_4, q_in_0_5, q_in_0_9, q_in_0_10, q_in_0_20, q_in_1_20, q_in_48_57, q_in_97_122, q_inB, e6, e3, i1, r2, m_sum r6 r5]
    · refine ⟨-1, X, S, ?_, ?_, h⟩
      · simp (disch := omega) only [fX4_drift, q_win, lt, jn, q_lit, q_bnd, q_cl, q_le, q_lt, q_eq, pk_mul, nI_add, q_sub, q_div, q_pos, q_neg, q_T, q_F, q_max0, q_flg1, q_flg0, q_min, q_min2, q_bit, q_some, e7]
      · simp (disch := omega) only [fX5_drift, q_win, lt, jn, q_lit, q_bnd, q_cl, q_le, q_lt, q_eq, pk_mul, nI_add, q_sub, q_div, q_pos, q_neg, q_T, q_F, q_max0, q_flg1, q_flg0, q_min, q_min2, q_bit, q_some, q_in_0_127, q_in_0_1, q_in_0_2, q_in_0_3, q_in_0_4, q_in_0_5, q_in_0_9, q_in_0_10, q_in_0_20, q_in_1_20, q_in_48_57, q_in_97_122, q_inB, e6]
  · refine ⟨-1, X, S, ?_, ?_, h⟩
    · simp (disch := omega) only [fX4_drift, lt, jn, q_lit, q_bnd, q_cl, q_le, q_lt, q_eq, pk_mul, nI_add, q_sub, q_div, q_pos, q_neg, q_T, q_F, q_max0, q_flg1, q_flg0, q_min, q_min2, q_bit, q_some, n2]
    · simp (disch := omega) only [fX5_drift, lt, jn, q_lit, q_bnd, q_cl, q_le, q_lt, q_eq, pk_mul, nI_add, q_sub, q_div, q_pos, q_neg, q_T, q_F, q_max0, q_flg1, q_flg0, q_min, q_min2, q_bit, q_some, q_in_0_127, q_in_0_1, q_in_0_2, q_in_0_3, q_in_0_4, q_in_0_5, q_in_0_9, q_in_0_10, q_in_0_20, q_in_1_20, q_in_48_57, q_in_97_122, q_inB, n2]
