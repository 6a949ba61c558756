/-! the model's row 'at' -/
theorem MS.ext {N : NN} {B : BB} {r r' : Nat → Int32} (h : MS N B r) (hW : WF N B) (he : ∀ x, x < 62 → r' x = r x) : MS N B r' := by
  obtain ⟨⟨a1, a2, a3, a4⟩, h2, h3, h4, h5⟩ := h
  have w1 := hW.1
  refine ⟨⟨?_, ?_, ?_, ?_⟩, fun b hb => ⟨?_, ?_, ?_, ?_⟩, fun m hm => ⟨?_, ?_, ?_, ?_⟩, fun i hi => ⟨?_, ?_⟩, fun k hk i b hb => ⟨?_, ?_⟩⟩
  · rw [he _ (by omega)]; exact a1
  · rw [he _ (by omega)]; exact a2
  · rw [he _ (by omega)]; exact a3
  · rw [he _ (by omega)]; exact a4
  · rw [he _ (by omega)]; exact (h2 b hb).1
  · rw [he _ (by omega)]; exact (h2 b hb).2.1
  · rw [he _ (by omega)]; exact (h2 b hb).2.2.1
  · rw [he _ (by omega)]; exact (h2 b hb).2.2.2
  · rw [he _ (by omega)]; exact (h3 m hm).1
  · rw [he _ (by omega)]; exact (h3 m hm).2.1
  · rw [he _ (by omega)]; exact (h3 m hm).2.2.1
  · rw [he _ (by omega)]; exact (h3 m hm).2.2.2
  · rw [he _ (by omega)]; exact (h4 i hi).1
  · rw [he _ (by omega)]; exact (h4 i hi).2
  · have := hW.2.2.2.2.lt hk (List.mem_of_getElem? hb)
    rw [he _ (by omega)]; exact (h5 k hk i b hb).1
  · have := hW.2.2.2.2.lt hk (List.mem_of_getElem? hb)
    rw [he _ (by omega)]; exact (h5 k hk i b hb).2
theorem m_starts_L : ∀ (d j f : Nat) (S : M2), j + d = 62 → d < f → ∃ S', (∀ kk : M2 → Option M2, fX5_starts_L2 kk f (nI j) S = kk S') ∧ (∀ q, q ≠ 1 → S' q = S q) ∧ ∀ x, S' 1 x = if j ≤ x ∧ x < 62 then S 0 x else S 1 x
  | 0, j, f + 1, S, hd, hf => by
    refine ⟨S, fun kk => ?_, fun _ _ => rfl, fun x => ?_⟩
    · simp (disch := omega) only [fX5_starts_L2, lt, jn, q_lit, q_bnd, q_cl, q_le, q_lt, q_eq, pk_mul, nI_add, q_sub, q_div, q_pos, q_neg, q_T, q_F, q_max0, q_flg1, q_flg0, q_min, q_min2, q_bit, q_some]
    · rw [if_neg (by omega)]
  | d + 1, j, f + 1, S, hd, hf => by
    obtain ⟨S', i1, i2, i3⟩ := m_starts_L d (j + 1) f (va_up S 1 (upd (S 1) j (S 0 j))) (by omega) (by omega)
    refine ⟨S', fun kk => ?_, fun q hq => ?_, fun x => ?_⟩
    · simp (disch := omega) only [fX5_starts_L2, lt, jn, q_lit, q_bnd, q_cl, q_le, q_lt, q_eq, pk_mul, nI_add, q_sub, q_div, q_pos, q_neg, q_T, q_F, q_max0, q_flg1, q_flg0, q_min, q_min2, q_bit, q_some, i1]
    · rw [i2 q hq, q_up, if_neg hq]
    · rw [i3]
      show (if j + 1 ≤ x ∧ x < 62 then S 0 x else upd (S 1) j (S 0 j) x) = _
      rw [q_ud]
      by_cases e1 : x = j
      · subst e1
        rw [if_neg (by omega), if_pos rfl, if_pos (by omega)]
      · by_cases e2 : j ≤ x ∧ x < 62
        · rw [if_pos (by omega), if_pos e2]
        · rw [if_neg (by omega), if_neg e1, if_neg e2]
/-- what the model's state is while a try runs: as S0 but for 'at' -/
def ME (S0 S : M2) : Prop := ∀ k, k ≠ 1 → S k = S0 k
theorem m_starts {N : NN} {B : BB} {S0 S : M2} (hS : ME S0 S) (h3 : S0 3 0 = nI (N 0 0)) (h4 : S0 4 0 = nI (N 7 0)) (hm : MS N B (S0 0)) (hW : WF N B) : ∃ S', fX5_starts S = some S' ∧ MA N B S0 S' := by
  obtain ⟨S', i1, i2, i3⟩ := m_starts_L 62 0 400 S (by omega) (by omega)
  refine ⟨S', i1 _, fun k hk => (i2 k hk).trans (hS k hk), h3, h4, hm.ext hW fun x hx => ?_⟩
  rw [i3, if_pos (by omega), hS 0 (by decide)]
theorem m_settles_L : ∀ (d j f : Nat) (S : M2), j + d = 62 → d < f → ∃ S', (∀ kk : M2 → Option M2, fX5_settles_L2 kk f (nI j) S = kk S') ∧ (∀ q, q ≠ 0 → S' q = S q) ∧ ∀ x, S' 0 x = if j ≤ x ∧ x < 62 then S 1 x else S 0 x
  | 0, j, f + 1, S, hd, hf => by
    refine ⟨S, fun kk => ?_, fun _ _ => rfl, fun x => ?_⟩
    · simp (disch := omega) only [fX5_settles_L2, lt, jn, q_lit, q_bnd, q_cl, q_le, q_lt, q_eq, pk_mul, nI_add, q_sub, q_div, q_pos, q_neg, q_T, q_F, q_max0, q_flg1, q_flg0, q_min, q_min2, q_bit, q_some]
    · rw [if_neg (by omega)]
  | d + 1, j, f + 1, S, hd, hf => by
    obtain ⟨S', i1, i2, i3⟩ := m_settles_L d (j + 1) f (va_up S 0 (upd (S 0) j (S 1 j))) (by omega) (by omega)
    refine ⟨S', fun kk => ?_, fun q hq => ?_, fun x => ?_⟩
    · simp (disch := omega) only [fX5_settles_L2, lt, jn, q_lit, q_bnd, q_cl, q_le, q_lt, q_eq, pk_mul, nI_add, q_sub, q_div, q_pos, q_neg, q_T, q_F, q_max0, q_flg1, q_flg0, q_min, q_min2, q_bit, q_some, i1]
    · rw [i2 q hq, q_up, if_neg hq]
    · rw [i3]
      show (if j + 1 ≤ x ∧ x < 62 then S 1 x else upd (S 0) j (S 1 j) x) = _
      rw [q_ud]
      by_cases e1 : x = j
      · subst e1
        rw [if_neg (by omega), if_pos rfl, if_pos (by omega)]
      · by_cases e2 : j ≤ x ∧ x < 62
        · rw [if_pos (by omega), if_pos e2]
        · rw [if_neg (by omega), if_neg e1, if_neg e2]
/-- what is tried becomes what is -/
theorem m_settles {N : NN} {B : BB} {S0 S : M2} (hS : MA N B S0 S) (hW : WF N B) : ∃ S', fX5_settles S = some S' ∧ (∀ q, q ≠ 0 → q ≠ 1 → S' q = S0 q) ∧ MS N B (S' 0) ∧ MS N B (S' 1) ∧ ∀ x, 62 ≤ x → S' 0 x = S0 0 x := by
  obtain ⟨S', i1, i2, i3⟩ := m_settles_L 62 0 400 S (by omega) (by omega)
  refine ⟨S', i1 _, fun q h0 h1 => (i2 q h0).trans (hS.1 q h1), hS.2.2.2.ext hW fun x hx => ?_, ?_, fun x hx => ?_⟩
  · rw [i3, if_pos (by omega)]
  · rw [i2 1 (by decide)]
    exact hS.2.2.2
  · rw [i3, if_neg (by omega), hS.1 0 (by decide)]
theorem m_isBolt {S T : M2} (h : S 3 0 = T 0 0) (x : Int32) : fX5_isBolt x S = fX1_hasBolt x T := by
  unfold fX5_isBolt fX1_hasBolt
  rw [q_inB, h]
  rfl
theorem m_isMoth {S T : M2} (h : S 4 0 = T 7 0) (x : Int32) : fX5_isMoth x S = fX1_hasMoth x T := by
  unfold fX5_isMoth fX1_hasMoth
  rw [q_inB, h]
  rfl
theorem m_isBale (x : Int32) : fX5_isBale x = fX4_isBale x := by
  unfold fX5_isBale fX4_isBale
  rw [q_in_0_2]
  rfl
theorem m_isPart (x : Int32) : fX5_isPart x = (fX4_within x (nI 0) (nI 1)).bind fun r => zb r (some r) := by
  unfold fX5_isPart
  rw [q_in_0_1]
theorem m_lies_L {S : M2} {n k : Nat} (h3 : S 3 0 = nI n) (hn : n ≤ 5) {c : Nat → Bool} (hc : ∀ b, b < n → (S 1 (6 * b + 4) = nI k) = (c b = true)) (kk : Int32 → Option Int32) : ∀ d b f : Nat, b + d = n → d < f → fX5_liesIn_L4 S (nI k) kk f (nI (spSum (fun b => (c b).toNat) b)) (nI b) = kk (nI (spSum (fun b => (c b).toNat) n))
  | 0, b, f + 1, hb, hf => by
    have e : b = n := by omega
    simp (disch := omega) only [fX5_liesIn_L4, lt, jn, q_lit, q_bnd, q_cl, q_le, q_lt, q_eq, pk_mul, nI_add, q_sub, q_div, q_pos, q_neg, q_T, q_F, q_max0, q_flg1, q_flg0, q_min, q_min2, q_bit, q_some, h3, e]
  | d + 1, b, f + 1, hb, hf => by
    have h1 : b < n := by omega
    have ih := m_lies_L h3 hn hc kk d (b + 1) f (by omega) (by omega)
    rw [spSum] at ih
    simp (disch := omega) only [fX5_liesIn_L4, fX5_of, lt, jn, q_lit, q_bnd, q_cl, q_le, q_lt, q_eq, pk_mul, nI_add, q_sub, q_div, q_pos, q_neg, q_T, q_F, q_max0, q_flg1, q_flg0, q_min, q_min2, q_bit, q_some, h3, hc b h1]
    by_cases e : c b = true
    · rw [if_pos e]
      rw [e] at ih
      exact ih
    · have e' : c b = false := by simpa using e
      rw [if_neg e]
      rw [e'] at ih
      exact ih
theorem sum_count (n : Nat) : ∀ (l : List Nat), (∀ x, x ∈ l → x < n) → spSum (fun b => l.count b) n = l.length := by
  intro l
  induction l with
  | nil =>
    intro _
    have : ∀ n, spSum (fun b => ([] : List Nat).count b) n = 0 := by
      intro n
      induction n with
      | zero => rfl
      | succ n ih => rw [spSum, ih]; rfl
    exact this n
  | cons c l ih =>
    intro h
    rw [List.length_cons, ← ih fun x hx => h x (List.mem_cons_of_mem _ hx)]
    have hc := h c List.mem_cons_self
    have : ∀ m, spSum (fun b => (c :: l).count b) m = spSum (fun b => l.count b) m + if c < m then 1 else 0 := by
      intro m
      induction m with
      | zero => rfl
      | succ m ih =>
        rw [spSum, spSum, ih, List.count_cons]
        by_cases e : c = m
        · subst e
          simp
          omega
        · by_cases e2 : c < m
          · have e3 : c < m + 1 := by omega
            simp [e, e2, e3]
            omega
          · have e3 : ¬ c < m + 1 := by omega
            simp [e, e2, e3]
    rw [this, if_pos hc]
theorem sum_congr {f g : Nat → Nat} : ∀ {n : Nat}, (∀ b, b < n → f b = g b) → spSum f n = spSum g n
  | 0, _ => rfl
  | n + 1, h => by rw [spSum, spSum, sum_congr fun b hb => h b (by omega), h n (by omega)]
theorem MA.bale {N : NN} {B : BB} {S0 S : M2} (hS : MA N B S0 S) (hW : WF N B) {k b : Nat} (hk : k < 3) (hb : b < N 0 0) : (S 1 (6 * b + 4) = nI k) = (decide (b ∈ B k) = true) := by
  obtain ⟨k', i, hk', hi⟩ := hW.2.2.2.2.ex hb
  rw [(hS.2.2.2.2.2.2.2 k' hk' i b hi).1, q_eq (by omega), decide_eq_true_eq]
  refine propext ⟨fun e => e ▸ List.mem_of_getElem? hi, fun e => hW.2.2.2.2.uq hk' hk (List.mem_of_getElem? hi) e⟩
theorem MA.n {N : NN} {B : BB} {S0 S : M2} (hS : MA N B S0 S) : S 3 0 = nI (N 0 0) := by rw [hS.1 3 (by decide)]; exact hS.2.1
theorem MA.m {N : NN} {B : BB} {S0 S : M2} (hS : MA N B S0 S) : S 4 0 = nI (N 7 0) := by rw [hS.1 4 (by decide)]; exact hS.2.2.1
theorem m_lies {N : NN} {B : BB} {S0 S : M2} (hS : MA N B S0 S) (hW : WF N B) {k : Nat} (hk : k < 3) : fX5_liesIn (nI k) S = some (nI (B k).length) := by
  have w1 := hW.1
  have := m_lies_L hS.n w1.1 (fun b hb => hS.bale hW hk hb) (fun p => some p) (N 0 0) 0 400 (by omega) (by omega)
  refine this.trans ?_
  rw [sum_congr (g := fun b => (B k).count b) (fun b hb => ?_), sum_count _ _ fun x hx => hW.2.2.2.2.lt hk hx]
  have h1 := hW.2.2.2.2.nodup hk
  rw [h1.count]
  by_cases e : b ∈ B k <;> simp [e]
theorem m_boltAt_L {S : M2} {n k i b : Nat} (h3 : S 3 0 = nI n) (hn : n ≤ 5) (hb : ∀ c, c < n → (S 1 (6 * c + 4) = nI k ∧ S 1 (6 * c + 5) = nI i ↔ c = b)) (kk : Int32 → Option Int32) : ∀ (d c f : Nat) (v : Int32), c + d = n → d < f → fX5_boltAt_L6 S (nI k) (nI i) kk f v (nI c) = kk (if c ≤ b ∧ b < n then nI b else v)
  | 0, c, f + 1, v, hd, hf => by
    have e : c = n := by omega
    rw [if_neg (by omega)]
    simp (disch := omega) only [fX5_boltAt_L6, lt, jn, q_lit, q_bnd, q_cl, q_le, q_lt, q_eq, pk_mul, nI_add, q_sub, q_div, q_pos, q_neg, q_T, q_F, q_max0, q_flg1, q_flg0, q_min, q_min2, q_bit, q_some, h3, e]
  | d + 1, c, f + 1, v, hd, hf => by
    have h1 : c < n := by omega
    have h2 := hb c h1
    have ih := fun v => m_boltAt_L h3 hn hb kk d (c + 1) f v (by omega) (by omega)
    simp (disch := omega) only [fX5_boltAt_L6, fX5_of, lt, jn, q_lit, q_bnd, q_cl, q_le, q_lt, q_eq, pk_mul, nI_add, q_sub, q_div, q_pos, q_neg, q_T, q_F, q_max0, q_flg1, q_flg0, q_min, q_min2, q_bit, q_some, h3, ih]
    by_cases e1 : S 1 (6 * c + 4) = nI k
    · by_cases e2 : S 1 (6 * c + 5) = nI i
      · have e := h2.mp ⟨e1, e2⟩
        subst e
        rw [if_pos e1, if_pos e2, if_neg (by omega), if_pos (by omega)]
      · have e : ¬ c = b := fun q => e2 (h2.mpr q).2
        rw [if_pos e1, if_neg e2]
        by_cases e3 : c ≤ b ∧ b < n
        · rw [if_pos (by omega), if_pos e3]
        · rw [if_neg (by omega), if_neg e3]
    · have e : ¬ c = b := fun q => e1 (h2.mpr q).1
      rw [if_neg e1]
      by_cases e3 : c ≤ b ∧ b < n
      · rw [if_pos (by omega), if_pos e3]
      · rw [if_neg (by omega), if_neg e3]
theorem m_boltAt {N : NN} {B : BB} {S0 S : M2} (hS : MA N B S0 S) (hW : WF N B) {k i b : Nat} (hk : k < 3) (hb : (B k)[i]? = some b) : fX5_boltAt (nI k) (nI i) S = some (nI b) := by
  have w1 := hW.1
  have w2 := hW.2.2.2.2.lt hk (List.mem_of_getElem? hb)
  have w3 := l_lt hb
  have w4 := hW.2.2.2.2.le hk
  have := m_boltAt_L (S := S) (n := N 0 0) (k := k) (i := i) (b := b) hS.n w1.1 (fun c hc => ?_) (fun p => some p) (N 0 0) 0 400 (-4) (by omega) (by omega)
  · rw [if_pos (by omega)] at this
    exact this
  · obtain ⟨k', i', hk', hi'⟩ := hW.2.2.2.2.ex hc
    have w5 := l_lt hi'
    have w6 := hW.2.2.2.2.le hk'
    rw [(hS.2.2.2.2.2.2.2 k' hk' i' c hi').1, (hS.2.2.2.2.2.2.2 k' hk' i' c hi').2, q_eq (by omega), q_eq (by omega)]
    constructor
    · rintro ⟨rfl, rfl⟩
      rw [hi'] at hb
      exact Option.some.inj hb
    · rintro rfl
      exact hW.2.2.2.2.at hk' hk hi' hb
theorem m_boltNo {N : NN} {B : BB} {S0 S : M2} (hS : MA N B S0 S) (hW : WF N B) {k i : Nat} (hk : k < 3) (hi : i < 2 ^ 30) (hb : (B k)[i]? = none) : fX5_boltAt (nI k) (nI i) S = some (-4) := by
  have w1 := hW.1
  have := m_boltAt_L (S := S) (n := N 0 0) (k := k) (i := i) (b := N 0 0) hS.n w1.1 (fun c hc => ?_) (fun p => some p) (N 0 0) 0 400 (-4) (by omega) (by omega)
  · rw [if_neg (by omega)] at this
    exact this
  · obtain ⟨k', i', hk', hi'⟩ := hW.2.2.2.2.ex hc
    have w5 := l_lt hi'
    have w6 := hW.2.2.2.2.le hk'
    rw [(hS.2.2.2.2.2.2.2 k' hk' i' c hi').1, (hS.2.2.2.2.2.2.2 k' hk' i' c hi').2, q_eq (by omega), q_eq (by omega)]
    constructor
    · rintro ⟨rfl, rfl⟩
      rw [hi'] at hb
      cases hb
    · intro e
      omega
