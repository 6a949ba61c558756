/-! the draft of a text: bolts and moths are added, camphor apart -/
def spAdd (N : NN) (a s : Nat) : NN := va_up (va_up (va_up (va_up N 0 (fun _ => N 0 0 + 1)) 1 (va_up (N 1) (N 0 0) a)) 2 (va_up (N 2) (N 0 0) s)) 3 (va_up (N 3) (N 0 0) 0)
def spMo (N : NN) (kd t h a : Nat) : NN := va_up (va_up (va_up (va_up (va_up N 7 (fun _ => N 7 0 + 1)) 8 (va_up (N 8) (N 7 0) kd)) 9 (va_up (N 9) (N 7 0) t)) 10 (va_up (N 10) (N 7 0) h)) 11 (va_up (N 11) (N 7 0) a)
theorem WB.add {n : Nat} {B : BB} (h : WB n B) {k : Nat} (hk : k < 3) : WB (n + 1) (spBot B k n) := by
  intro x
  have h1 := h x
  have key : ∀ k', (spBot B k n k').count x = (B k').count x + if k' = k then (if x = n then 1 else 0) else 0 := by
    intro k'
    rw [spBot, q_up]
    by_cases e : k' = k
    · rw [if_pos e, if_pos e, e, List.count_append, List.count_singleton]
      by_cases e2 : x = n
      · simp [e2]
      · have e' : ¬ n = x := fun q => e2 q.symm
        simp [e2, e']
    · rw [if_neg e, if_neg e, Nat.add_zero]
  have k0 := key 0
  have k1 := key 1
  have k2 := key 2
  by_cases e : x = n
  · have r0 : (if x < n then 1 else 0) = 0 := if_neg (by omega)
    have r1 : (if x < n + 1 then 1 else 0) = 1 := if_pos (by omega)
    rw [r0] at h1
    rw [r1]
    rcases wb_cases hk with rfl | rfl | rfl <;> simp [e] at k0 k1 k2 h1 ⊢ <;> omega
  · have r1 : (if x < n + 1 then 1 else 0) = (if x < n then 1 else 0) := by
      by_cases e2 : x < n
      · rw [if_pos e2, if_pos (by omega)]
      · rw [if_neg e2, if_neg (by omega)]
    have r2 : ∀ k', (if k' = k then (if x = n then 1 else 0) else 0) = 0 := by
      intro k'
      rw [if_neg e]
      split <;> rfl
    rw [r1, k0, k1, k2, r2, r2, r2]
    omega
theorem WF.add {N : NN} {B : BB} (h : WF N B) {k a s : Nat} (hn : N 0 0 < 5) (hk : k < 3) (ha : a ≤ 5) (hs : s ≤ 9) : WF (spAdd N a s) (spBot B k (N 0 0)) := by
  obtain ⟨w1, w2, w3, w4, w5⟩ := h
  have p1 : 2 ^ N 0 0 < 2 ^ (N 0 0 + 1) := Nat.pow_lt_pow_right (by decide) (by omega)
  refine ⟨⟨?_, w1.2.1, ?_, w1.2.2.2.1, w1.2.2.2.2.1, w1.2.2.2.2.2.1, w1.2.2.2.2.2.2⟩, fun b hb => ?_, w3, fun i hi => ⟨?_, (w4 i hi).2⟩, ?_⟩
  · show N 0 0 + 1 ≤ 5
    omega
  · show N 4 0 < 2 ^ (N 0 0 + 1)
    omega
  · have hb' : b < N 0 0 + 1 := hb
    show va_up (N 1) (N 0 0) a b ≤ 5 ∧ va_up (N 2) (N 0 0) s b ≤ 9 ∧ va_up (N 3) (N 0 0) 0 b ≤ va_up (N 2) (N 0 0) s b
    rw [q_up, q_up, q_up]
    by_cases e : b = N 0 0
    · rw [if_pos e, if_pos e, if_pos e]
      omega
    · rw [if_neg e, if_neg e, if_neg e]
      exact w2 b (by omega)
  · have := (w4 i hi).1
    show N 16 i < N 0 0 + 1
    omega
  · exact w5.add hk
theorem WF.mo {N : NN} {B : BB} (h : WF N B) {kd t g a : Nat} (hm : N 7 0 < 4) (hk : kd ≤ 3) (ht : t ≤ 5) (hg : g ≤ 9) (ha : a ≤ 2) : WF (spMo N kd t g a) B := by
  obtain ⟨w1, w2, w3, w4, w5⟩ := h
  refine ⟨⟨w1.1, ?_, w1.2.2⟩, w2, fun m hm' => ?_, w4, w5⟩
  · show N 7 0 + 1 ≤ 4
    omega
  · have hb' : m < N 7 0 + 1 := hm'
    show va_up (N 8) (N 7 0) kd m ≤ 3 ∧ va_up (N 9) (N 7 0) t m ≤ 5 ∧ va_up (N 10) (N 7 0) g m ≤ 9 ∧ va_up (N 11) (N 7 0) a m ≤ 2
    rw [q_up, q_up, q_up, q_up]
    by_cases e : m = N 7 0
    · rw [if_pos e, if_pos e, if_pos e, if_pos e]
      omega
    · rw [if_neg e, if_neg e, if_neg e, if_neg e]
      exact w3 m (by omega)
theorem t_addBolt {N : NN} {B : BB} {S : M2} (hS : CS N B S) (hB : WB (N 0 0) B) {k a s : Nat} (hn : N 0 0 < 5) (hk : k < 3) : ∃ S', fX1_addBolt (nI a) (nI s) (nI k) S = some S' ∧ CS (spAdd N a s) (spBot B k (N 0 0)) S' := by
  obtain ⟨⟨c0, c4, c7, c12, c13, c14, c15⟩, g2, g3, g4, g5⟩ := id hS
  have hle : ∀ k, k < 3 → (B k).length ≤ 4 := fun k hk => by have := hB.le hk; omega
  have h6 := (g5 k hk).1
  have l4 := hle k hk
  have C1 : CS (spAdd N a s) B (va_up (va_up (va_up (va_up S 0 (fun _ => nI (N 0 0 + 1))) 1 (upd (S 1) (N 0 0) (nI a))) 2 (upd (S 2) (N 0 0) (nI s))) 3 (upd (S 3) (N 0 0) (nI 0))) := by
    refine ⟨⟨rfl, c4, c7, c12, c13, c14, c15⟩, fun b hb => ?_, g3, g4, g5⟩
    have hb' : b < N 0 0 + 1 := hb
    show upd (S 1) (N 0 0) (nI a) b = nI (va_up (N 1) (N 0 0) a b) ∧ upd (S 2) (N 0 0) (nI s) b = nI (va_up (N 2) (N 0 0) s b) ∧ upd (S 3) (N 0 0) (nI 0) b = nI (va_up (N 3) (N 0 0) 0 b)
    rw [q_up, q_up, q_up, q_ud, q_ud, q_ud]
    by_cases e : b = N 0 0
    · rw [if_pos e, if_pos e, if_pos e, if_pos e, if_pos e, if_pos e]
      exact ⟨rfl, rfl, rfl⟩
    · rw [if_neg e, if_neg e, if_neg e, if_neg e, if_neg e, if_neg e]
      exact g2 b (by omega)
  refine ⟨_, ?_, CS.bot (b := N 0 0) hk C1 (fun k' hk' => by have := hle k' hk'; omega) l4⟩
  have e6 : ∀ (f : Nat → Int32) (j : Nat), va_up (va_up (va_up (va_up (va_up S 0 (fun _ => nI (N 0 0 + 1))) 1 (upd (S 1) (N 0 0) (nI a))) 2 (upd (S 2) (N 0 0) (nI s))) 3 (upd (S 3) (N 0 0) (nI 0))) 5 f 6 j = S 6 j := fun _ _ => rfl
  have e7 : ∀ (j : Nat), va_up (va_up (va_up (va_up S 0 (fun _ => nI (N 0 0 + 1))) 1 (upd (S 1) (N 0 0) (nI a))) 2 (upd (S 2) (N 0 0) (nI s))) 3 (upd (S 3) (N 0 0) (nI 0)) 6 j = S 6 j := fun _ => rfl
  have a1 : va_up S 0 (fun _ => nI (N 0 0 + 1)) 1 = S 1 := rfl
  have a2 : va_up (va_up S 0 (fun _ => nI (N 0 0 + 1))) 1 (upd (S 1) (N 0 0) (nI a)) 2 = S 2 := rfl
  have a3 : va_up (va_up (va_up S 0 (fun _ => nI (N 0 0 + 1))) 1 (upd (S 1) (N 0 0) (nI a))) 2 (upd (S 2) (N 0 0) (nI s)) 3 = S 3 := rfl
  have a5 : va_up (va_up (va_up (va_up S 0 (fun _ => nI (N 0 0 + 1))) 1 (upd (S 1) (N 0 0) (nI a))) 2 (upd (S 2) (N 0 0) (nI s))) 3 (upd (S 3) (N 0 0) (nI 0)) 5 = S 5 := rfl
  have a6 : ∀ f, va_up (va_up (va_up (va_up (va_up S 0 (fun _ => nI (N 0 0 + 1))) 1 (upd (S 1) (N 0 0) (nI a))) 2 (upd (S 2) (N 0 0) (nI s))) 3 (upd (S 3) (N 0 0) (nI 0))) 5 f 6 = S 6 := fun _ => rfl
  simp (disch := omega) only [fX1_addBolt, fX1_putBelow, lt, q_lit, q_bnd, q_cl, q_lt, q_pos, q_T, nI_add, pk_mul, q_some, c0, a1, a2, a3, a5, a6, e7, h6]
  rfl
theorem t_addMoth {N : NN} {B : BB} {S : M2} (hS : CS N B S) {kd t g a : Nat} (hn : N 7 0 < 4) : ∃ S', fX1_addMoth (nI kd) (nI t) (nI g) (nI a) S = some S' ∧ CS (spMo N kd t g a) B S' := by
  obtain ⟨⟨c0, c4, c7, c12, c13, c14, c15⟩, g2, g3, g4, g5⟩ := id hS
  refine ⟨va_up (va_up (va_up (va_up (va_up S 7 (fun _ => nI (N 7 0 + 1))) 8 (upd (S 8) (N 7 0) (nI kd))) 9 (upd (S 9) (N 7 0) (nI t))) 10 (upd (S 10) (N 7 0) (nI g))) 11 (upd (S 11) (N 7 0) (nI a)), ?_, ⟨c0, c4, rfl, c12, c13, c14, c15⟩, g2, fun m hm => ?_, g4, g5⟩
  · have a1 : va_up S 7 (fun _ => nI (N 7 0 + 1)) 8 = S 8 := rfl
    have a2 : va_up (va_up S 7 (fun _ => nI (N 7 0 + 1))) 8 (upd (S 8) (N 7 0) (nI kd)) 9 = S 9 := rfl
    have a3 : va_up (va_up (va_up S 7 (fun _ => nI (N 7 0 + 1))) 8 (upd (S 8) (N 7 0) (nI kd))) 9 (upd (S 9) (N 7 0) (nI t)) 10 = S 10 := rfl
    have a4 : va_up (va_up (va_up (va_up S 7 (fun _ => nI (N 7 0 + 1))) 8 (upd (S 8) (N 7 0) (nI kd))) 9 (upd (S 9) (N 7 0) (nI t))) 10 (upd (S 10) (N 7 0) (nI g)) 11 = S 11 := rfl
    simp (disch := omega) only [fX1_addMoth, lt, q_lit, q_bnd, q_cl, q_lt, q_pos, q_T, nI_add, q_some, c7, a1, a2, a3, a4]
  · have hm' : m < N 7 0 + 1 := hm
    show upd (S 8) (N 7 0) (nI kd) m = nI (va_up (N 8) (N 7 0) kd m) ∧ upd (S 9) (N 7 0) (nI t) m = nI (va_up (N 9) (N 7 0) t m) ∧ upd (S 10) (N 7 0) (nI g) m = nI (va_up (N 10) (N 7 0) g m) ∧ upd (S 11) (N 7 0) (nI a) m = nI (va_up (N 11) (N 7 0) a m)
    rw [q_up, q_up, q_up, q_up, q_ud, q_ud, q_ud, q_ud]
    by_cases e : m = N 7 0
    · rw [if_pos e, if_pos e, if_pos e, if_pos e, if_pos e, if_pos e, if_pos e, if_pos e]
      exact ⟨rfl, rfl, rfl, rfl⟩
    · rw [if_neg e, if_neg e, if_neg e, if_neg e, if_neg e, if_neg e, if_neg e, if_neg e]
      exact g3 m (by omega)
/-- the model's row of the draft gets a bolt, a moth -/
theorem MS.add {N : NN} {B : BB} {r r' : Nat → Int32} (h : MS N B r) (hB : WB (N 0 0) B) {k a s : Nat} (hn : N 0 0 < 5) (hc : N 4 0 = 0) (hm : N 7 0 ≤ 4) (hs : N 15 0 ≤ 6) (hk : k < 3) (e0 : r' (6 * N 0 0) = nI a) (e1 : r' (6 * N 0 0 + 1) = nI s) (e2 : r' (6 * N 0 0 + 2) = nI 0) (e3 : r' (6 * N 0 0 + 3) = nI 0) (e4 : r' (6 * N 0 0 + 4) = nI k) (e5 : r' (6 * N 0 0 + 5) = nI (B k).length) (he : ∀ x, x < 6 * N 0 0 ∨ 30 ≤ x → r' x = r x) : MS (spAdd N a s) (spBot B k (N 0 0)) r' := by
  obtain ⟨⟨a1, a2, a3, a4⟩, h2, h3, h4, h5⟩ := h
  refine ⟨⟨?_, ?_, ?_, ?_⟩, fun b hb => ?_, fun m hm => ⟨?_, ?_, ?_, ?_⟩, fun i hi => ⟨?_, ?_⟩, fun k' hk' i b hb => ?_⟩
  · rw [he _ (by omega)]; exact a1
  · rw [he _ (by omega)]; exact a2
  · rw [he _ (by omega)]; exact a3
  · rw [he _ (by omega)]; exact a4
  · have hb' : b < N 0 0 + 1 := hb
    show r' (6 * b) = nI (va_up (N 1) (N 0 0) a b) ∧ r' (6 * b + 1) = nI (va_up (N 2) (N 0 0) s b) ∧ r' (6 * b + 2) = nI (va_up (N 3) (N 0 0) 0 b) ∧ r' (6 * b + 3) = nI ((N 4 0).testBit b).toNat
    rw [q_up, q_up, q_up]
    by_cases e : b = N 0 0
    · rw [if_pos e, if_pos e, if_pos e, e, hc, Nat.zero_testBit]
      exact ⟨e0, e1, e2, e3⟩
    · rw [if_neg e, if_neg e, if_neg e, he _ (by omega), he _ (by omega), he _ (by omega), he _ (by omega)]
      exact h2 b (by omega)
  · rw [he _ (by omega)]; exact (h3 m hm).1
  · rw [he _ (by omega)]; exact (h3 m hm).2.1
  · rw [he _ (by omega)]; exact (h3 m hm).2.2.1
  · rw [he _ (by omega)]; exact (h3 m hm).2.2.2
  · have hi' : i < N 15 0 := hi
    rw [he _ (by omega)]; exact (h4 i hi).1
  · have hi' : i < N 15 0 := hi
    rw [he _ (by omega)]; exact (h4 i hi).2
  · rw [spBot, q_up] at hb
    by_cases e : k' = k
    · subst e
      rw [if_pos rfl, List.getElem?_append] at hb
      by_cases e2 : i < (B k').length
      · rw [if_pos e2] at hb
        have hl := hB.lt hk (List.mem_of_getElem? hb)
        rw [he _ (by omega), he _ (by omega)]
        exact h5 k' hk' i b hb
      · rw [if_neg e2] at hb
        have e3 : i = (B k').length := by
          have := l_lt hb
          rw [List.length_singleton] at this
          omega
        subst e3
        rw [Nat.sub_self, List.getElem?_cons_zero, Option.some.injEq] at hb
        rw [← hb]
        exact ⟨e4, e5⟩
    · rw [if_neg e] at hb
      have hl := hB.lt hk' (List.mem_of_getElem? hb)
      rw [he _ (by omega), he _ (by omega)]
      exact h5 k' hk' i b hb
theorem MS.mo {N : NN} {B : BB} {r r' : Nat → Int32} (h : MS N B r) (hB : WB (N 0 0) B) {kd t g a : Nat} (hn : N 0 0 ≤ 5) (hm : N 7 0 < 4) (hs : N 15 0 ≤ 6) (e0 : r' (30 + 4 * N 7 0) = nI kd) (e1 : r' (30 + 4 * N 7 0 + 1) = nI t) (e2 : r' (30 + 4 * N 7 0 + 2) = nI g) (e3 : r' (30 + 4 * N 7 0 + 3) = nI a) (he : ∀ x, x < 30 + 4 * N 7 0 ∨ 46 ≤ x → r' x = r x) : MS (spMo N kd t g a) B r' := by
  obtain ⟨⟨a1, a2, a3, a4⟩, h2, h3, h4, h5⟩ := h
  refine ⟨⟨?_, ?_, ?_, ?_⟩, fun b hb => ⟨?_, ?_, ?_, ?_⟩, fun m hm => ?_, fun i hi => ⟨?_, ?_⟩, fun k' hk' i b hb => ?_⟩
  · rw [he _ (by omega)]; exact a1
  · rw [he _ (by omega)]; exact a2
  · rw [he _ (by omega)]; exact a3
  · rw [he _ (by omega)]; exact a4
  · have hb' : b < N 0 0 := hb
    rw [he _ (by omega)]; exact (h2 b hb).1
  · have hb' : b < N 0 0 := hb
    rw [he _ (by omega)]; exact (h2 b hb).2.1
  · have hb' : b < N 0 0 := hb
    rw [he _ (by omega)]; exact (h2 b hb).2.2.1
  · have hb' : b < N 0 0 := hb
    rw [he _ (by omega)]; exact (h2 b hb).2.2.2
  · have hm' : m < N 7 0 + 1 := hm
    show r' (30 + 4 * m) = nI (va_up (N 8) (N 7 0) kd m) ∧ r' (30 + 4 * m + 1) = nI (va_up (N 9) (N 7 0) t m) ∧ r' (30 + 4 * m + 2) = nI (va_up (N 10) (N 7 0) g m) ∧ r' (30 + 4 * m + 3) = nI (va_up (N 11) (N 7 0) a m)
    rw [q_up, q_up, q_up, q_up]
    by_cases e : m = N 7 0
    · rw [if_pos e, if_pos e, if_pos e, if_pos e, e]
      exact ⟨e0, e1, e2, e3⟩
    · rw [if_neg e, if_neg e, if_neg e, if_neg e, he _ (by omega), he _ (by omega), he _ (by omega), he _ (by omega)]
      exact h3 m (by omega)
  · have hi' : i < N 15 0 := hi
    rw [he _ (by omega)]; exact (h4 i hi).1
  · have hi' : i < N 15 0 := hi
    rw [he _ (by omega)]; exact (h4 i hi).2
  · have hl := hB.lt hk' (List.mem_of_getElem? hb)
    rw [he _ (by omega), he _ (by omega)]
    exact h5 k' hk' i b hb
theorem ms_cnt {N : NN} {B : BB} {r : Nat → Int32} (h : MS N B r) (hB : WB (N 0 0) B) {k : Nat} (hk : k < 3) {r' : Nat → Int32} (e4 : r' (6 * N 0 0 + 4) = nI k) (he : ∀ x, x < 6 * N 0 0 → r' x = r x) : spSum (fun c => (decide (r' (6 * c + 4) = r' (6 * N 0 0 + 4))).toNat) (N 0 0) = (B k).length := by
  rw [sum_congr (g := fun b => (B k).count b) (fun b hb => ?_), sum_count _ _ fun x hx => hB.lt hk hx]
  obtain ⟨k', i, hk', hi⟩ := hB.ex hb
  rw [e4, he _ (by omega), (h.2.2.2.2 k' hk' i b hi).1, (hB.nodup hk).count]
  by_cases e : b ∈ B k
  · have e2 : k' = k := hB.uq hk' hk (List.mem_of_getElem? hi) e
    simp [e, e2]
  · have e2 : ¬ nI k' = nI k := by
      rw [q_eq (by omega)]
      intro e3
      exact e (e3 ▸ List.mem_of_getElem? hi)
    simp [e, e2]
