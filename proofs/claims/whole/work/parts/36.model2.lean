theorem q_eq0 {a b : Nat} (h : a < 2 ^ 30 ∧ b < 2 ^ 30) : (nI a - nI b = nI 0) = (a = b) := by
  refine propext ⟨fun e => ?_, fun e => by rw [e]; exact Int32.sub_self _⟩
  have := congrArg Int32.toInt e
  rw [pk_sub_toInt h.1 h.2, nI_toInt (by decide)] at this
  omega
theorem q_in11 {a b : Nat} (h : a < 2 ^ 30 ∧ b < 2 ^ 30) : fX5_in (nI a - nI b).toInt64 (-1) 1 = some (nI (decide (a ≤ b + 1 ∧ b ≤ a + 1)).toNat) := by
  have e1 : (-1 : Int64) = (-1 : Int32).toInt64 := by decide
  have e2 : (1 : Int64) = (1 : Int32).toInt64 := by decide
  rw [e1, e2, q_in5]
  unfold fX4_within
  simp only [Int32.lt_iff_toInt_lt]
  rw [pk_sub_toInt h.1 h.2]
  have e3 : (-1 : Int32).toInt = -1 := by decide
  have e4 : (1 : Int32).toInt = 1 := by decide
  rw [e3, e4]
  by_cases h1 : (a : Int) - b < -1
  · rw [if_pos h1, decide_eq_false (by omega)]
    rfl
  · rw [if_neg h1]
    by_cases h2 : (1 : Int) < a - b
    · rw [if_pos h2, decide_eq_false (by omega)]
      rfl
    · rw [if_neg h2, decide_eq_true (by omega)]
      rfl
theorem m_appetite {N : NN} {B : BB} {S0 S : M2} (hS : MA N B S0 S) (hW : WF N B) {m : Nat} (hm : m < N 7 0) : fX5_appetite (nI m) S = some (nI (spApp N m)) := by
  obtain ⟨h8, h9, h10, h11⟩ := hS.2.2.2.2.2.1 m hm
  obtain ⟨b8, b9, b10, b11⟩ := hW.2.2.1 m hm
  have w1 := hW.1
  have h12 := hS.2.2.2.1.1
  unfold spApp
  by_cases e1 : N 8 m = 1
  · by_cases e2 : N 10 m + N 12 0 = 0
    · have a1 : N 10 m = 0 := by omega
      have a2 : N 12 0 = 0 := by omega
      simp (disch := omega) only [fX5_appetite, fX5_mothOf, lt, jn, q_lit, q_bnd, q_cl, q_le, q_lt, q_eq, pk_mul, nI_add, q_sub, q_div, q_pos, q_neg, q_T, q_F, q_max0, q_flg1, q_flg0, q_min, q_min2, q_bit, q_some, h8, h10, h12, e1, a1, a2, Nat.add_zero]
    · simp (disch := omega) only [fX5_appetite, fX5_mothOf, lt, jn, q_lit, q_bnd, q_cl, q_le, q_lt, q_eq, pk_mul, nI_add, q_sub, q_div, q_pos, q_neg, q_T, q_F, q_max0, q_flg1, q_flg0, q_min, q_min2, q_bit, q_some, h8, h10, h12, e1, Nat.add_zero]
  · by_cases e2 : N 8 m = 2
    · simp (disch := omega) only [fX5_appetite, fX5_mothOf, lt, jn, q_lit, q_bnd, q_cl, q_le, q_lt, q_eq, pk_mul, nI_add, q_sub, q_div, q_pos, q_neg, q_T, q_F, q_max0, q_flg1, q_flg0, q_min, q_min2, q_bit, q_some, h8, h10, h12, e2, Nat.add_zero]
    · by_cases e3 : N 8 m = 3
      · simp (disch := omega) only [fX5_appetite, fX5_mothOf, lt, jn, q_lit, q_bnd, q_cl, q_le, q_lt, q_eq, pk_mul, nI_add, q_sub, q_div, q_pos, q_neg, q_T, q_F, q_max0, q_flg1, q_flg0, q_min, q_min2, q_bit, q_some, h8, h10, h12, e3, Nat.add_zero]
      · simp (disch := omega) only [fX5_appetite, fX5_mothOf, lt, jn, q_lit, q_bnd, q_cl, q_le, q_lt, q_eq, pk_mul, nI_add, q_sub, q_div, q_pos, q_neg, q_T, q_F, q_max0, q_flg1, q_flg0, q_min, q_min2, q_bit, q_some, h8, h10, h12, Nat.add_zero]
theorem m_likes {N : NN} {B : BB} {S0 S : M2} (hS : MA N B S0 S) (hW : WF N B) {m b : Nat} (hm : m < N 7 0) (hb : b < N 0 0) : fX5_doesLike (nI m) (nI b) S = some (nI (spLik N m b).toNat) := by
  obtain ⟨h8, h9, h10, h11⟩ := hS.2.2.2.2.2.1 m hm
  obtain ⟨b8, b9, b10, b11⟩ := hW.2.2.1 m hm
  obtain ⟨g1, g2, g3, g4⟩ := hS.2.2.2.2.1 b hb
  obtain ⟨c1, c2, c3⟩ := hW.2.1 b hb
  have w1 := hW.1
  unfold spLik
  by_cases e1 : N 8 m = 1
  · simp (disch := omega) only [fX5_doesLike, fX5_of, fX5_mothOf, lt, jn, q_lit, q_bnd, q_cl, q_le, q_lt, q_eq, pk_mul, nI_add, q_sub, q_div, q_pos, q_neg, q_T, q_F, q_max0, q_flg1, q_flg0, q_min, q_min2, q_bit, q_some, h8, h9, g1, e1, Nat.add_zero, q_eq0]
    by_cases e2 : N 1 b = N 9 m
    · simp (disch := omega) only [q_T, e2, decide_true, Bool.toNat_true]
    · simp (disch := omega) only [q_F, e2, decide_false, Bool.toNat_false]
  · by_cases e2 : N 8 m = 2
    · simp (disch := omega) only [fX5_doesLike, fX5_of, fX5_mothOf, lt, jn, q_lit, q_bnd, q_cl, q_le, q_lt, q_eq, pk_mul, nI_add, q_sub, q_div, q_pos, q_neg, q_T, q_F, q_max0, q_flg1, q_flg0, q_min, q_min2, q_bit, q_some, h8, h9, g1, e2, Nat.add_zero, Bool.toNat_true]
    · unfold fX5_doesLike
      simp (disch := omega) only [fX5_of, fX5_mothOf, lt, jn, q_lit, q_bnd, q_cl, q_le, q_lt, q_eq, pk_mul, nI_add, q_sub, q_div, q_pos, q_neg, q_T, q_F, q_max0, q_flg1, q_flg0, q_min, q_min2, q_bit, q_some, h8, h9, g1, Nat.add_zero, q_in11, q_b0, q_tf, q_fl]
theorem MA.holes {N : NN} {B : BB} {S0 S : M2} {h : Nat → Nat} (hS : MA (va_up N 3 h) B S0 S) (hW : WF (va_up N 3 h) B) {b v : Nat} (hb : b < N 0 0) : MA (va_up N 3 (va_up h b v)) B S0 (va_up S 1 (upd (S 1) (6 * b + 2) (nI v))) := by
  obtain ⟨h0, h3, h4, ⟨a1, a2, a3, a4⟩, h5, h6, h7, h8⟩ := hS
  have w1 : N 0 0 ≤ 5 := hW.1.1
  have w2 : N 7 0 ≤ 4 := hW.1.2.1
  have w3 : N 15 0 ≤ 6 := hW.1.2.2.2.2.2.2
  refine ⟨fun k hk => by rw [q_up, if_neg hk]; exact h0 k hk, h3, h4, ⟨?_, ?_, ?_, ?_⟩, fun b' hb' => ⟨?_, ?_, ?_, ?_⟩, fun m hm => ⟨?_, ?_, ?_, ?_⟩, fun i hi => ⟨?_, ?_⟩, fun k hk i c hc => ⟨?_, ?_⟩⟩
  · rw [q_up, if_pos rfl, q_ud, if_neg (by omega)]; exact a1
  · rw [q_up, if_pos rfl, q_ud, if_neg (by omega)]; exact a2
  · rw [q_up, if_pos rfl, q_ud, if_neg (by omega)]; exact a3
  · rw [q_up, if_pos rfl, q_ud, if_neg (by omega)]; exact a4
  · rw [q_up, if_pos rfl, q_ud, if_neg (by omega)]; exact (h5 b' hb').1
  · rw [q_up, if_pos rfl, q_ud, if_neg (by omega)]; exact (h5 b' hb').2.1
  · rw [q_up, if_pos rfl, q_ud]
    show _ = nI (va_up h b v b')
    rw [q_up]
    by_cases e : b' = b
    · rw [if_pos (by omega), if_pos e]
    · rw [if_neg (by omega), if_neg e]
      exact (h5 b' hb').2.2.1
  · rw [q_up, if_pos rfl, q_ud, if_neg (by omega)]; exact (h5 b' hb').2.2.2
  · rw [q_up, if_pos rfl, q_ud, if_neg (by omega)]; exact (h6 m hm).1
  · rw [q_up, if_pos rfl, q_ud, if_neg (by omega)]; exact (h6 m hm).2.1
  · rw [q_up, if_pos rfl, q_ud, if_neg (by omega)]; exact (h6 m hm).2.2.1
  · rw [q_up, if_pos rfl, q_ud, if_neg (by omega)]; exact (h6 m hm).2.2.2
  · rw [q_up, if_pos rfl, q_ud, if_neg (by omega)]; exact (h7 i hi).1
  · rw [q_up, if_pos rfl, q_ud, if_neg (by omega)]; exact (h7 i hi).2
  · rw [q_up, if_pos rfl, q_ud, if_neg (by omega)]; exact (h8 k hk i c hc).1
  · rw [q_up, if_pos rfl, q_ud, if_neg (by omega)]; exact (h8 k hk i c hc).2
theorem WF.eat {N : NN} {B : BB} {m : Nat} : ∀ (l : List Nat) (a : Nat) (h : Nat → Nat), (∀ b, b ∈ l → b < N 0 0) → WF (va_up N 3 h) B → WF (va_up N 3 (spEat N m l a h)) B
  | [], a, h, hl, hW => hW
  | b :: l, a, h, hl, hW => by
    have hb := hl b List.mem_cons_self
    have c3 : h b ≤ N 2 b := (hW.2.1 b hb).2.2
    have hl' : ∀ b, b ∈ l → b < N 0 0 := fun b hb => hl b (List.mem_cons_of_mem _ hb)
    rw [spEat]
    split
    · exact hW
    · split
      · exact WF.eat l _ _ hl' (hW.holes (by omega))
      · exact WF.eat l _ _ hl' hW
theorem sum_up {h : Nat → Nat} {b v : Nat} : ∀ {n : Nat}, b < n → spSum (va_up h b v) n + h b = spSum h n + v
  | n + 1, hb => by
    rw [spSum, spSum, q_up]
    by_cases e : n = b
    · subst e
      rw [if_pos rfl, sum_congr (g := h) fun c hc => by rw [q_up, if_neg (by omega)]]
      omega
    · rw [if_neg e]
      have := sum_up (h := h) (b := b) (v := v) (n := n) (by omega)
      omega
theorem m_eat_L {N : NN} {B : BB} {S0 : M2} {m : Nat} (hm : m < N 7 0) : ∀ (l pre : List Nat) (a mm f : Nat) (h : Nat → Nat) (S : M2), B (N 11 m) = pre ++ l → MA (va_up N 3 h) B S0 S → WF (va_up N 3 h) B → a ≤ 100 → l.length < f → ∃ S' mm', fX5_eatsNow_L23 (nI m) (nI (B (N 11 m)).length) (fun p => some (p.1, p.2)) f (nI a) (nI mm) (nI pre.length) S = some (nI mm', S') ∧ MA (va_up N 3 (spEat N m l a h)) B S0 S' ∧ mm' + spSum h (N 0 0) = mm + spSum (spEat N m l a h) (N 0 0)
  | [], pre, a, mm, f + 1, h, S, hB, hS, hW, ha, hf => by
    have w4 : N 11 m ≤ 2 := (hW.2.2.1 m hm).2.2.2
    have w2 : (B (N 11 m)).length ≤ N 0 0 := hW.2.2.2.2.le (by omega)
    have w3 : N 0 0 ≤ 5 := hW.1.1
    simp only [List.append_nil] at hB
    have hl : (B (N 11 m)).length = pre.length := by rw [hB]
    refine ⟨S, mm, ?_, hS, rfl⟩
    simp (disch := omega) only [fX5_eatsNow_L23, lt, jn, q_lit, q_bnd, q_cl, q_le, q_lt, q_eq, pk_mul, nI_add, q_sub, q_div, q_pos, q_neg, q_T, q_F, q_max0, q_flg1, q_flg0, q_min, q_min2, q_bit, q_some, hl]
  | b :: l, pre, a, mm, f + 1, h, S, hB, hS, hW, ha, hf => by
    have w4 : N 11 m ≤ 2 := (hW.2.2.1 m hm).2.2.2
    have w2 : (B (N 11 m)).length ≤ N 0 0 := hW.2.2.2.2.le (by omega)
    have w3 : N 0 0 ≤ 5 := hW.1.1
    have w5 : N 7 0 ≤ 4 := hW.1.2.1
    have hl : (B (N 11 m)).length = pre.length + (l.length + 1) := by rw [hB]; simp
    have hbm : b ∈ B (N 11 m) := by rw [hB]; simp
    have hb1 : b < N 0 0 := hW.2.2.2.2.lt (by omega) hbm
    have c2 : N 2 b ≤ 9 := (hW.2.1 b hb1).2.1
    have c3 : h b ≤ N 2 b := (hW.2.1 b hb1).2.2
    have e11 : S 1 (30 + 4 * m + 3) = nI (N 11 m) := (hS.2.2.2.2.2.1 m hm).2.2.2
    obtain ⟨g1', g2', g3', g4'⟩ := hS.2.2.2.2.1 b hb1
    have g2 : S 1 (6 * b + 1) = nI (N 2 b) := g2'
    have g3 : S 1 (6 * b + 2) = nI (h b) := g3'
    have g4 : S 1 (6 * b + 3) = nI ((N 4 0).testBit b).toNat := g4'
    have eb : fX5_boltAt (nI (N 11 m)) (nI pre.length) S = some (nI b) := m_boltAt hS hW (by omega) (by rw [hB]; simp)
    have el : fX5_doesLike (nI m) (nI b) S = some (nI (spLik N m b).toNat) := m_likes hS hW hm hb1
    rw [spEat]
    by_cases e1 : (N 4 0).testBit b = true
    · refine ⟨S, mm, ?_, ?_⟩
      · simp (disch := omega) only [fX5_eatsNow_L23, fX5_mothOf, fX5_of, lt, jn, q_lit, q_bnd, q_cl, q_le, q_lt, q_eq, pk_mul, nI_add, q_sub, q_div, q_pos, q_neg, q_T, q_F, q_max0, q_flg1, q_flg0, q_min, q_min2, q_bit, q_some, hl, e11, eb, g4, q_b1, e1]
      · rw [if_pos e1]
        exact ⟨hS, rfl⟩
    · rw [if_neg e1]
      by_cases e2 : spLik N m b = true
      · rw [if_pos e2]
        have ih := m_eat_L (S0 := S0) hm l (pre ++ [b]) (a - min a (N 2 b - h b)) (mm + min a (N 2 b - h b)) f (va_up h b (h b + min a (N 2 b - h b))) (va_up S 1 (upd (S 1) (6 * b + 2) (nI (h b + min a (N 2 b - h b))))) (by rw [hB]; simp) (hS.holes hW hb1) (hW.holes (by omega)) (by omega) (by simp at hf; omega)
        rw [List.length_append, List.length_singleton] at ih
        obtain ⟨S', mm', i1, i2, i3⟩ := ih
        refine ⟨S', mm', ?_, i2, ?_⟩
        · simp (disch := omega) only [fX5_eatsNow_L23, fX5_mothOf, fX5_of, fX5_becomesOf, lt, jn, q_lit, q_bnd, q_cl, q_le, q_lt, q_eq, pk_mul, nI_add, q_sub, q_div, q_pos, q_neg, q_T, q_F, q_max0, q_flg1, q_flg0, q_min, q_min2, q_bit, q_some, hl, e11, eb, g4, q_b1, e1, el, e2, q_b0, Bool.true_eq_false, Bool.false_eq_true, g2, g3]
          rw [hl] at i1
          by_cases e9 : N 2 b - h b ≤ a
          · rw [Nat.min_eq_right e9] at i1
            rw [if_pos e9]
            exact i1
          · rw [Nat.min_eq_left (by omega)] at i1
            rw [if_neg e9]
            exact i1
        · have := sum_up (h := h) (b := b) (v := h b + min a (N 2 b - h b)) hb1
          omega
      · rw [if_neg e2]
        have e2' : spLik N m b = false := by simpa using e2
        have ih := m_eat_L (S0 := S0) hm l (pre ++ [b]) a mm f h S (by rw [hB]; simp) hS hW ha (by simp at hf; omega)
        rw [List.length_append, List.length_singleton] at ih
        obtain ⟨S', mm', i1, i2⟩ := ih
        refine ⟨S', mm', ?_, i2⟩
        simp (disch := omega) only [fX5_eatsNow_L23, fX5_mothOf, fX5_of, fX5_becomesOf, lt, jn, q_lit, q_bnd, q_cl, q_le, q_lt, q_eq, pk_mul, nI_add, q_sub, q_div, q_pos, q_neg, q_T, q_F, q_max0, q_flg1, q_flg0, q_min, q_min2, q_bit, q_some, hl, e11, eb, g4, q_b1, e1, el, e2', q_b0, Bool.false_eq_true]
        rw [hl] at i1
        exact i1
theorem spApp_le {N : NN} {B : BB} (hW : WF N B) {m : Nat} (hm : m < N 7 0) : spApp N m ≤ 100 := by
  have w1 := hW.1
  have w2 := hW.2.2.1 m hm
  unfold spApp
  split
  · omega
  · split
    · omega
    · split <;> omega
theorem m_eatsNow {N : NN} {B : BB} {S0 S : M2} {h : Nat → Nat} {m : Nat} (hS : MA (va_up N 3 h) B S0 S) (hW : WF (va_up N 3 h) B) (hm : m < N 7 0) : ∃ S' mm', fX5_eatsNow (nI m) S = some (nI mm', S') ∧ MA (va_up N 3 (spEat N m (B (N 11 m)) (spApp N m) h)) B S0 S' ∧ WF (va_up N 3 (spEat N m (B (N 11 m)) (spApp N m) h)) B ∧ mm' + spSum h (N 0 0) = spSum (spEat N m (B (N 11 m)) (spApp N m) h) (N 0 0) := by
  have w4 : N 11 m ≤ 2 := (hW.2.2.1 m hm).2.2.2
  have w2 : (B (N 11 m)).length ≤ N 0 0 := hW.2.2.2.2.le (by omega)
  have w3 : N 0 0 ≤ 5 := hW.1.1
  have w5 : N 7 0 ≤ 4 := hW.1.2.1
  have e1 : fX5_appetite (nI m) S = some (nI (spApp N m)) := m_appetite hS hW hm
  have e11 : S 1 (30 + 4 * m + 3) = nI (N 11 m) := (hS.2.2.2.2.2.1 m hm).2.2.2
  have e2 : fX5_liesIn (nI (N 11 m)) S = some (nI (B (N 11 m)).length) := m_lies hS hW (by omega)
  have w6 : spApp N m ≤ 100 := spApp_le hW hm
  obtain ⟨S', mm', i1, i2, i3⟩ := m_eat_L hm (B (N 11 m)) [] (spApp N m) 0 400 h S rfl hS hW w6 (by omega)
  refine ⟨S', mm', ?_, i2, WF.eat _ _ _ (fun b hb => hW.2.2.2.2.lt (by omega) hb) hW, by omega⟩
  unfold fX5_eatsNow
  simp (disch := omega) only [fX5_mothOf, lt, jn, q_lit, q_bnd, q_cl, q_le, q_lt, q_eq, pk_mul, nI_add, q_sub, q_div, q_pos, q_neg, q_T, q_F, q_max0, q_flg1, q_flg0, q_min, q_min2, q_bit, q_some, e1, e11, e2]
  exact i1
theorem MA.pass {N : NN} {B : BB} {S0 S : M2} {fl : Nat} (hS : MA (spNight N B fl) B S0 S) (hW : WF (spNight N B fl) B) : MA (spPass N B fl) B S0 (va_up (va_up S 1 (upd (S 1) 46 (nI ((N 12 0 + 1) % 4)))) 1 (upd (upd (S 1) 46 (nI ((N 12 0 + 1) % 4))) 48 (nI (N 14 0 + 1)))) := by
  obtain ⟨h0, h3, h4, ⟨a1, a2, a3, a4⟩, h5, h6, h7, h8⟩ := hS
  have w1 : N 0 0 ≤ 5 := hW.1.1
  have w2 : N 7 0 ≤ 4 := hW.1.2.1
  have w3 : N 15 0 ≤ 6 := hW.1.2.2.2.2.2.2
  refine ⟨fun k hk => by rw [q_up, if_neg hk, q_up, if_neg hk]; exact h0 k hk, h3, h4, ⟨?_, ?_, ?_, ?_⟩, fun b' hb' => ⟨?_, ?_, ?_, ?_⟩, fun m hm => ⟨?_, ?_, ?_, ?_⟩, fun i hi => ⟨?_, ?_⟩, fun k hk i c hc => ⟨?_, ?_⟩⟩
  · rfl
  · exact a2
  · rfl
  · exact a4
  · have hb2 : b' < N 0 0 := hb'
    rw [q_up, if_pos rfl, q_ud, if_neg (by omega), q_ud, if_neg (by omega)]; exact (h5 b' hb').1
  · have hb2 : b' < N 0 0 := hb'
    rw [q_up, if_pos rfl, q_ud, if_neg (by omega), q_ud, if_neg (by omega)]; exact (h5 b' hb').2.1
  · have hb2 : b' < N 0 0 := hb'
    rw [q_up, if_pos rfl, q_ud, if_neg (by omega), q_ud, if_neg (by omega)]; exact (h5 b' hb').2.2.1
  · have hb2 : b' < N 0 0 := hb'
    rw [q_up, if_pos rfl, q_ud, if_neg (by omega), q_ud, if_neg (by omega)]; exact (h5 b' hb').2.2.2
  · have hm2 : m < N 7 0 := hm
    rw [q_up, if_pos rfl, q_ud, if_neg (by omega), q_ud, if_neg (by omega)]; exact (h6 m hm).1
  · have hm2 : m < N 7 0 := hm
    rw [q_up, if_pos rfl, q_ud, if_neg (by omega), q_ud, if_neg (by omega)]; exact (h6 m hm).2.1
  · have hm2 : m < N 7 0 := hm
    rw [q_up, if_pos rfl, q_ud, if_neg (by omega), q_ud, if_neg (by omega)]; exact (h6 m hm).2.2.1
  · have hm2 : m < N 7 0 := hm
    rw [q_up, if_pos rfl, q_ud, if_neg (by omega), q_ud, if_neg (by omega)]; exact (h6 m hm).2.2.2
  · rw [q_up, if_pos rfl, q_ud, if_neg (by omega), q_ud, if_neg (by omega)]; exact (h7 i hi).1
  · rw [q_up, if_pos rfl, q_ud, if_neg (by omega), q_ud, if_neg (by omega)]; exact (h7 i hi).2
  · have hc2 : c < N 0 0 := hW.2.2.2.2.lt hk (List.mem_of_getElem? hc)
    rw [q_up, if_pos rfl, q_ud, if_neg (by omega), q_ud, if_neg (by omega)]; exact (h8 k hk i c hc).1
  · have hc2 : c < N 0 0 := hW.2.2.2.2.lt hk (List.mem_of_getElem? hc)
    rw [q_up, if_pos rfl, q_ud, if_neg (by omega), q_ud, if_neg (by omega)]; exact (h8 k hk i c hc).2
theorem m_night_L {N : NN} {B : BB} {S0 : M2} {fl : Nat} (hf : fl < 32) : ∀ (d t f : Nat) (S : M2), t + d = N 7 0 → d < f → MA (va_up N 3 (spLoose N B fl t)) B S0 S → WF (va_up N 3 (spLoose N B fl t)) B → ∃ S', (∀ kk : M2 → Option M2, fX5_nightGoes_L2 (nI fl) kk f (nI t) S = kk S') ∧ MA (spNight N B fl) B S0 S' ∧ WF (spNight N B fl) B
  | 0, t, f + 1, S, ht, hd, hS, hW => by
    have w2 : N 7 0 ≤ 4 := hW.1.2.1
    have e : S 4 0 = nI (N 7 0) := hS.m
    have e2 : t = N 7 0 := by omega
    subst e2
    refine ⟨S, fun kk => ?_, hS, hW⟩
    simp (disch := omega) only [fX5_nightGoes_L2, lt, jn, q_lit, q_bnd, q_cl, q_le, q_lt, q_eq, pk_mul, nI_add, q_sub, q_div, q_pos, q_neg, q_T, q_F, q_max0, q_flg1, q_flg0, q_min, q_min2, q_bit, q_some, e]
  | d + 1, t, f + 1, S, ht, hd, hS, hW => by
    have w2 : N 7 0 ≤ 4 := hW.1.2.1
    have e : S 4 0 = nI (N 7 0) := hS.m
    have hm : t < N 7 0 := by omega
    by_cases e1 : fl.testBit t = true
    · obtain ⟨S1, mm, i1, i2, i3, -⟩ := m_eatsNow (m := t) hS hW hm
      obtain ⟨S2, j1, j2⟩ := m_night_L (N := N) (B := B) (S0 := S0) hf d (t + 1) f S1 (by omega) (by omega) (by rw [spLoose, if_pos e1]; exact i2) (by rw [spLoose, if_pos e1]; exact i3)
      refine ⟨S2, fun kk => ?_, j2⟩
      simp (disch := omega) only [fX5_nightGoes_L2, lt, jn, q_lit, q_bnd, q_cl, q_le, q_lt, q_eq, pk_mul, nI_add, q_sub, q_div, q_pos, q_neg, q_T, q_F, q_max0, q_flg1, q_flg0, q_min, q_min2, q_bit, q_some, e, q_b1, e1, i1, j1]
    · obtain ⟨S2, j1, j2⟩ := m_night_L (N := N) (B := B) (S0 := S0) hf d (t + 1) f S (by omega) (by omega) (by rw [spLoose, if_neg e1]; exact hS) (by rw [spLoose, if_neg e1]; exact hW)
      refine ⟨S2, fun kk => ?_, j2⟩
      simp (disch := omega) only [fX5_nightGoes_L2, lt, jn, q_lit, q_bnd, q_cl, q_le, q_lt, q_eq, pk_mul, nI_add, q_sub, q_div, q_pos, q_neg, q_T, q_F, q_max0, q_flg1, q_flg0, q_min, q_min2, q_bit, q_some, e, q_b1, e1, Bool.false_eq_true, j1]
theorem m_night {N : NN} {B : BB} {S0 S : M2} {fl : Nat} (hf : fl < 32) (hS : MA N B S0 S) (hW : WF N B) : ∃ S', fX5_nightGoes (nI fl) S = some S' ∧ MA (spPass N B fl) B S0 S' ∧ WF (spPass N B fl) B := by
  have w2 : N 7 0 ≤ 4 := hW.1.2.1
  have wm : N 12 0 ≤ 3 := hW.1.2.2.2.1
  have e : va_up N 3 (spLoose N B fl 0) = N := up_id N 3
  obtain ⟨S1, j1, j2, j3⟩ := m_night_L (N := N) (B := B) (S0 := S0) hf (N 7 0) 0 400 S (by omega) (by omega) (by rw [e]; exact hS) (by rw [e]; exact hW)
  have e46 : S1 1 46 = nI (N 12 0) := j2.2.2.2.1.1
  have e48 : S1 1 48 = nI (N 14 0) := j2.2.2.2.1.2.2.1
  refine ⟨_, ?_, j2.pass j3, j3.pass⟩
  unfold fX5_nightGoes
  have e4 : nI (N 12 0 + 1) - nI ((N 12 0 + 1) / 4 * 4) = nI ((N 12 0 + 1) % 4) := by
    rw [q_sub (by omega)]
    exact congrArg nI (by omega)
  simp (disch := omega) only [lt, q_lit, q_bnd, q_cl, q_eq, q_neg, q_div, pk_mul, nI_add, q_some, j1, e46, e4, q_up, q_ud, q_T, q_F, e48]
