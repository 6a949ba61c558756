theorem t_in_L {k : Nat} (hk : k < 3) (i1 : Int32) : ∀ (v f : Nat) (S : M2), v ≤ 4 → v < f → ∃ S', (∀ kk : M2 → Option M2, fX1_putOnTop_L12 i1 (nI k) kk f (nI v) S = kk S') ∧ (∀ q, q ≠ 5 → S' q = S q) ∧ ∀ x, S' 5 x = if k * 5 + 1 ≤ x ∧ x ≤ k * 5 + v then S 5 (x - 1) else S 5 x
  | 0, f + 1, S, hv, hf => by
    refine ⟨S, fun kk => ?_, fun _ _ => rfl, fun x => ?_⟩
    · simp (disch := omega) only [fX1_putOnTop_L12, lt, jn, q_lit, q_bnd, q_cl, q_le, q_lt, q_eq, pk_mul, nI_add, q_sub, q_div, q_pos, q_neg, q_T, q_F, q_max0, q_flg1, q_flg0, q_min, q_min2, q_bit, q_some]
    · rw [if_neg (by omega)]
  | v + 1, f + 1, S, hv, hf => by
    obtain ⟨S', i1', i2, i3⟩ := t_in_L hk i1 v f (va_up S 5 (upd (S 5) (k * 5 + (v + 1)) (S 5 (k * 5 + v)))) (by omega) (by omega)
    refine ⟨S', fun kk => ?_, fun q hq => ?_, fun x => ?_⟩
    · rw [fX1_putOnTop_L12]
      simp (disch := omega) only [lt, jn, q_lit, q_bnd, q_cl, q_le, q_lt, q_eq, pk_mul, nI_add, q_sub, q_div, q_pos, q_neg, q_T, q_F, q_max0, q_flg1, q_flg0, q_min, q_min2, q_bit, q_some, pk_m1]
      rw [show k * 5 + (v + 1) - 1 = k * 5 + v by omega]
      have e : nI (v + 1) + (-nI 1) = nI v := pk_m1 v
      rw [e]
      exact i1' kk
    · rw [i2 q hq, q_up, if_neg hq]
    · rw [i3 x]
      show (if k * 5 + 1 ≤ x ∧ x ≤ k * 5 + v then upd (S 5) (k * 5 + (v + 1)) (S 5 (k * 5 + v)) (x - 1) else upd (S 5) (k * 5 + (v + 1)) (S 5 (k * 5 + v)) x) = _
      rw [q_ud, q_ud]
      by_cases e1 : x = k * 5 + (v + 1)
      · subst e1
        rw [if_neg (by omega), if_pos rfl, if_pos (by omega)]
        rfl
      · by_cases e2 : k * 5 + 1 ≤ x ∧ x ≤ k * 5 + v
        · rw [if_pos e2, if_neg (by omega), if_pos (by omega)]
        · rw [if_neg e2, if_neg e1, if_neg (by omega)]
/-- a slice that holds N and B holds N and a bale more with b on it, if so -/
theorem CS.top {N : NN} {B : BB} {S S' : M2} {k b : Nat} (hk : k < 3) (hS : CS N B S) (hl : ∀ k, k < 3 → (B k).length ≤ 5) (hl4 : (B k).length ≤ 4) (h0 : ∀ q, q ≠ 5 → q ≠ 6 → S' q = S q) (h6 : S' 6 = upd (S 6) k (nI ((B k).length + 1))) (h5 : ∀ x, S' 5 x = if x = k * 5 then nI b else if k * 5 + 1 ≤ x ∧ x ≤ k * 5 + (B k).length then S 5 (x - 1) else S 5 x) : CS N (spTop B k b) S' := by
  obtain ⟨g1, g2, g3, g4, g5⟩ := hS
  refine ⟨?_, ?_, ?_, ?_, fun k' hk' => ⟨?_, fun j c hc => ?_⟩⟩
  · simp only [h0, ne_eq, Nat.reduceEqDiff, not_false_eq_true]
    exact g1
  · simp only [h0, ne_eq, Nat.reduceEqDiff, not_false_eq_true]
    exact g2
  · simp only [h0, ne_eq, Nat.reduceEqDiff, not_false_eq_true]
    exact g3
  · simp only [h0, ne_eq, Nat.reduceEqDiff, not_false_eq_true]
    exact g4
  · rw [h6, q_ud, spTop, q_up]
    by_cases e : k' = k
    · rw [if_pos e, if_pos e, List.length_cons]
    · rw [if_neg e, if_neg e]
      exact (g5 k' hk').1
  · rw [spTop, q_up] at hc
    rw [h5]
    have w5 := hl k' hk'
    by_cases e : k' = k
    · subst e
      rw [if_pos rfl] at hc
      have w4 := l_lt hc
      rw [List.length_cons] at w4
      match j, hc with
      | 0, hc =>
        simp only [List.getElem?_cons_zero, Option.some.injEq] at hc
        rw [if_pos (Nat.add_zero _), hc]
      | j + 1, hc =>
        simp only [List.getElem?_cons_succ] at hc
        rw [if_neg (by omega), if_pos (by omega)]
        exact (g5 k' hk').2 j c hc
    · rw [if_neg e] at hc
      have w4 := l_lt hc
      rw [if_neg (by omega), if_neg (by omega)]
      exact (g5 k' hk').2 j c hc
theorem CS.bot {N : NN} {B : BB} {S : M2} {k b : Nat} (hk : k < 3) (hS : CS N B S) (hl : ∀ k, k < 3 → (B k).length ≤ 5) (hl4 : (B k).length ≤ 4) : CS N (spBot B k b) (va_up (va_up S 5 (upd (S 5) (k * 5 + (B k).length) (nI b))) 6 (upd (S 6) k (nI ((B k).length + 1)))) := by
  obtain ⟨g1, g2, g3, g4, g5⟩ := hS
  refine ⟨g1, g2, g3, g4, fun k' hk' => ⟨?_, fun j c hc => ?_⟩⟩
  · show upd (S 6) k (nI ((B k).length + 1)) k' = _
    rw [q_ud, spBot, q_up]
    by_cases e : k' = k
    · rw [if_pos e, if_pos e, List.length_append, List.length_singleton]
    · rw [if_neg e, if_neg e]
      exact (g5 k' hk').1
  · show upd (S 5) (k * 5 + (B k).length) (nI b) (k' * 5 + j) = _
    rw [spBot, q_up] at hc
    rw [q_ud]
    have w5 := hl k' hk'
    by_cases e : k' = k
    · subst e
      rw [if_pos rfl, List.getElem?_append] at hc
      by_cases e2 : j < (B k').length
      · rw [if_pos e2] at hc
        rw [if_neg (by omega)]
        exact (g5 k' hk').2 j c hc
      · rw [if_neg e2] at hc
        have e3 : j = (B k').length := by
          have := l_lt hc
          rw [List.length_singleton] at this
          omega
        subst e3
        rw [Nat.sub_self, List.getElem?_cons_zero, Option.some.injEq] at hc
        rw [if_pos rfl, hc]
    · rw [if_neg e] at hc
      have w4 := l_lt hc
      rw [if_neg (by omega)]
      exact (g5 k' hk').2 j c hc
theorem spTake_len {n : Nat} {B : BB} (hB : WB n B) (hn : n ≤ 5) {k i b : Nat} (hk : k < 3) (hb : (B k)[i]? = some b) : ∀ k', k' < 3 → (spTake B k i k').length ≤ 4 := by
  intro k' hk'
  have h1 := hB.len
  have h2 := l_lt hb
  rw [spTake, q_up]
  split
  · rw [List.length_eraseIdx, if_pos h2]
    have := hB.le hk
    omega
  · rename_i e
    rcases wb_cases hk with rfl | rfl | rfl <;> rcases wb_cases hk' with rfl | rfl | rfl <;> first | (exact absurd rfl e) | omega
theorem cnt_out : ∀ (l : List Nat) (i b x : Nat), l[i]? = some b → l.count x = (l.eraseIdx i).count x + if x = b then 1 else 0
  | [], i, b, x, h => by simp at h
  | c :: l, 0, b, x, h => by
    simp only [List.getElem?_cons_zero, Option.some.injEq] at h
    rw [List.eraseIdx_cons_zero, List.count_cons, h]
    by_cases e : x = b
    · simp [e]
    · have e' : ¬ b = x := fun q => e q.symm
      simp [e, e']
  | c :: l, i + 1, b, x, h => by
    simp only [List.getElem?_cons_succ] at h
    rw [List.eraseIdx_cons_succ, List.count_cons, List.count_cons, cnt_out l i b x h]
    omega
theorem WB.move {n : Nat} {B B' : BB} (hB : WB n B) {k k2 i b : Nat} (hk : k < 3) (hk2 : k2 < 3) (hb : (B k)[i]? = some b) (h1 : ∀ x, (B' k2).count x = (spTake B k i k2).count x + if x = b then 1 else 0) (h2 : ∀ k', k' ≠ k2 → B' k' = spTake B k i k') : WB n B' := by
  intro x
  have e0 := hB x
  have e2 := cnt_out _ _ _ x hb
  have key : ∀ k', (B' k').count x + (if k' = k then (if x = b then 1 else 0) else 0) = (B k').count x + (if k' = k2 then (if x = b then 1 else 0) else 0) := by
    intro k'
    have e3 : (spTake B k i k').count x + (if k' = k then (if x = b then 1 else 0) else 0) = (B k').count x := by
      rw [spTake, q_up]
      by_cases e : k' = k
      · rw [if_pos e, if_pos e, e, e2]
      · rw [if_neg e, if_neg e, Nat.add_zero]
    by_cases e : k' = k2
    · rw [if_pos e, ← e3, e, h1 x]
      omega
    · rw [if_neg e, h2 k' e, e3, Nat.add_zero]
  have a0 := key 0
  have a1 := key 1
  have a2 := key 2
  rcases wb_cases hk with rfl | rfl | rfl <;> rcases wb_cases hk2 with rfl | rfl | rfl <;> simp only [Nat.reduceEqDiff, if_true, if_false, reduceCtorEq, ↓reduceIte, Nat.one_ne_zero, Nat.zero_ne_one ] at a0 a1 a2 <;> omega
theorem WB.top {n : Nat} {B : BB} (hB : WB n B) {k k2 i b : Nat} (hk : k < 3) (hk2 : k2 < 3) (hb : (B k)[i]? = some b) : WB n (spTop (spTake B k i) k2 b) := by
  refine hB.move hk hk2 hb (fun x => ?_) (fun k' h => ?_)
  · rw [spTop, q_up, if_pos rfl, List.count_cons]
    by_cases e : x = b
    · simp [e]
    · have e' : ¬ b = x := fun q => e q.symm
      simp [e, e']
  · rw [spTop, q_up, if_neg h]
theorem WB.bot {n : Nat} {B : BB} (hB : WB n B) {k k2 i b : Nat} (hk : k < 3) (hk2 : k2 < 3) (hb : (B k)[i]? = some b) : WB n (spBot (spTake B k i) k2 b) := by
  refine hB.move hk hk2 hb (fun x => ?_) (fun k' h => ?_)
  · rw [spBot, q_up, if_pos rfl, List.count_append, List.count_singleton]
    by_cases e : x = b
    · simp [e]
    · have e' : ¬ b = x := fun q => e q.symm
      simp [e, e']
  · rw [spBot, q_up, if_neg h]
theorem WF.bb {N : NN} {B B' : BB} (h : WF N B) (hB : WB (N 0 0) B') : WF N B' := ⟨h.1, h.2.1, h.2.2.1, h.2.2.2.1, hB⟩
theorem t_putOnTop {N : NN} {B : BB} {S : M2} (hS : CS N B S) (hW : WF N B) {k k2 b i : Nat} (hk : k < 3) (hk2 : k2 < 3) (hb : (B k)[i]? = some b) : ∃ S', fX1_putOnTop (nI b) (nI k2) S = some S' ∧ CS N (spTop (spTake B k i) k2 b) S' ∧ WF N (spTop (spTake B k i) k2 b) := by
  obtain ⟨S1, i1, i2⟩ := t_takeOut hS hW hk hb
  have hl := spTake_len hW.2.2.2.2 hW.1.1 hk hb
  have h6 := (i2.2.2.2.2 k2 hk2).1
  have hl2 := hl k2 hk2
  obtain ⟨S2, j1, j2, j3⟩ := t_in_L hk2 (nI b) ((spTake B k i k2).length) 400 S1 hl2 (by omega)
  refine ⟨va_up (va_up S2 5 (upd (S2 5) (k2 * 5) (nI b))) 6 (upd (S2 6) k2 (nI ((spTake B k i k2).length + 1))), ?_, ?_, hW.bb (hW.2.2.2.2.top hk hk2 hb)⟩
  · unfold fX1_putOnTop
    simp (disch := omega) only [lt, jn, q_lit, q_bnd, q_cl, q_le, q_lt, q_eq, pk_mul, nI_add, q_sub, q_div, q_pos, q_neg, q_T, q_F, q_max0, q_flg1, q_flg0, q_min, q_min2, q_bit, q_some, i1, h6, j1]
    have e6 : va_up S2 5 (upd (S2 5) (k2 * 5) (nI b)) 6 = S2 6 := rfl
    rw [e6, j2 6 (by decide), h6]
    simp (disch := omega) only [lt, jn, q_lit, q_bnd, q_cl, q_le, q_lt, q_eq, pk_mul, nI_add, q_sub, q_div, q_pos, q_neg, q_T, q_F, q_max0, q_flg1, q_flg0, q_min, q_min2, q_bit, q_some]
  · refine CS.top hk2 i2 (fun k' hk' => by have := hl k' hk'; omega) hl2 (fun q a1 a2 => ?_) ?_ (fun x => ?_)
    · rw [q_up, if_neg a2, q_up, if_neg a1, j2 q a1]
    · rw [q_up, if_pos rfl, j2 6 (by decide)]
    · show upd (S2 5) (k2 * 5) (nI b) x = _
      rw [q_ud, j3 x]
theorem t_under {N : NN} {B : BB} {S : M2} (hS : CS N B S) (hW : WF N B) {k k2 b i : Nat} (hk : k < 3) (hk2 : k2 < 3) (hb : (B k)[i]? = some b) : ∃ S1 S', fX1_takeOut (nI b) S = some S1 ∧ fX1_putBelow (nI b) (nI k2) S1 = some S' ∧ CS N (spBot (spTake B k i) k2 b) S' ∧ WF N (spBot (spTake B k i) k2 b) := by
  obtain ⟨S1, i1, i2⟩ := t_takeOut hS hW hk hb
  have hl := spTake_len hW.2.2.2.2 hW.1.1 hk hb
  have h6 := (i2.2.2.2.2 k2 hk2).1
  have hl2 := hl k2 hk2
  refine ⟨S1, _, i1, ?_, CS.bot hk2 i2 (fun k' hk' => by have := hl k' hk'; omega) hl2, hW.bb (hW.2.2.2.2.bot hk hk2 hb)⟩
  unfold fX1_putBelow
  simp (disch := omega) only [lt, jn, q_lit, q_bnd, q_cl, q_le, q_lt, q_eq, pk_mul, nI_add, q_sub, q_div, q_pos, q_neg, q_T, q_F, q_max0, q_flg1, q_flg0, q_min, q_min2, q_bit, q_some, h6]
  have e6 : va_up S1 5 (upd (S1 5) (k2 * 5 + (spTake B k i k2).length) (nI b)) 6 = S1 6 := rfl
  rw [e6, h6]
  simp (disch := omega) only [lt, jn, q_lit, q_bnd, q_cl, q_le, q_lt, q_eq, pk_mul, nI_add, q_sub, q_div, q_pos, q_neg, q_T, q_F, q_max0, q_flg1, q_flg0, q_min, q_min2, q_bit, q_some]
