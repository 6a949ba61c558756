/-! the model folds a bolt -/
theorem m_fa_L {n b k i : Nat} (hn : n ≤ 5) (hb : b < n) (K Y : Nat → Nat) (hK : ∀ c, c < n → K c < 3) (hY : ∀ c, c < n → Y c ≤ 4) (hk : k < 3) (hi : Y b = i) (i2 i3 : Int32) : ∀ (d t f : Nat) (S : M2), t + d = n → d < f → S 3 0 = nI n → (∀ c, c < n → S 1 (6 * c + 4) = nI (K c)) → (∀ c, c < n → S 1 (6 * c + 5) = nI (if c < t then (if K c = k ∧ i < Y c then Y c - 1 else Y c) else Y c)) → ∃ S', (∀ kk : M2 → Option M2, fX5_folds_L11 (nI b) i2 i3 (nI k) kk f (nI t) S = kk S') ∧ (∀ q, q ≠ 1 → S' q = S q) ∧ (∀ c, c < n → S' 1 (6 * c + 5) = nI (if K c = k ∧ i < Y c then Y c - 1 else Y c)) ∧ ∀ x, (∀ c, c < n → x ≠ 6 * c + 5) → S' 1 x = S 1 x
  | 0, t, f + 1, S, hd, hf, h3, h4, h5 => by
    have e : t = n := by omega
    subst e
    refine ⟨S, fun kk => ?_, fun _ _ => rfl, fun c hc => ?_, fun _ _ => rfl⟩
    · simp (disch := omega) only [fX5_folds_L11, lt, jn, q_lit, q_bnd, q_cl, q_le, q_lt, q_eq, pk_mul, nI_add, q_sub, q_div, q_pos, q_neg, q_T, q_F, q_max0, q_flg1, q_flg0, q_min, q_min2, q_bit, q_some, h3]
    · rw [h5 c hc, if_pos hc]
  | d + 1, t, f + 1, S, hd, hf, h3, h4, h5 => by
    have ht : t < n := by omega
    have yt := hY t ht
    have yb := hY b hb
    have kt := hK t ht
    have e4 := h4 t ht
    have e5 := h5 t ht
    have e5b := h5 b hb
    rw [if_neg (by omega)] at e5
    have hbi : (if b < t then (if K b = k ∧ i < Y b then Y b - 1 else Y b) else Y b) = i := by
      split
      · rw [if_neg (by omega)]
        exact hi
      · exact hi
    rw [hbi] at e5b
    have hi4 : i ≤ 4 := by omega
    obtain ⟨S', i1, i2', i3', i4⟩ := m_fa_L hn hb K Y hK hY hk hi i2 i3 d (t + 1) f (va_up S 1 (upd (S 1) (6 * t + 5) (nI (if K t = k ∧ i < Y t then Y t - 1 else Y t)))) (by omega) (by omega) h3 (fun c hc => by rw [q_up, if_pos rfl, q_ud, if_neg (by omega)]; exact h4 c hc) (fun c hc => by
      rw [q_up, if_pos rfl, q_ud]
      by_cases e : c = t
      · subst e
        rw [if_pos rfl, if_pos (show c < c + 1 by omega)]
      · rw [if_neg (by omega), h5 c hc]
        by_cases e2 : c < t
        · rw [if_pos e2, if_pos (show c < t + 1 by omega)]
        · rw [if_neg e2, if_neg (show ¬ c < t + 1 by omega)])
    refine ⟨S', fun kk => ?_, fun q hq => by rw [i2' q hq, q_up, if_neg hq], i3', fun x hx => by rw [i4 x hx, q_up, if_pos rfl, q_ud, if_neg (hx t ht)]⟩
    rw [← i1 kk]
    simp (disch := omega) only [fX5_folds_L11, fX5_of, fX5_becomesOf, lt, jn, q_lit, q_bnd, q_cl, q_le, q_lt, q_eq, pk_mul, nI_add, q_sub, q_div, q_pos, q_neg, q_T, q_F, q_max0, q_flg1, q_flg0, q_min, q_min2, q_bit, q_some, h3, e4, e5, e5b]
    by_cases e1 : K t = k
    · by_cases e2 : Y t ≤ i
      · rw [if_pos e1, if_pos e2, if_neg (by omega), Nat.sub_zero]
      · rw [if_pos e1, if_neg e2, if_pos (by omega)]
    · rw [if_neg e1, if_neg (by omega), Nat.sub_zero]
theorem m_fb_L {n k2 : Nat} (hn : n ≤ 5) (C : Nat → Bool) (Y : Nat → Nat) (i1 : Int32) (p : Bool) : ∀ (d t f : Nat) (S : M2), t + d = n → d < f → S 3 0 = nI n → (∀ c, c < n → (S 1 (6 * c + 4) = nI k2) = (C c = true)) → (∀ c, c < n → S 1 (6 * c + 5) = nI (if c < t then Y c + (p && C c).toNat else Y c)) → ∃ S', (∀ kk : M2 → Option M2, fX5_folds_L92 i1 (nI k2) (nI p.toNat) kk f (nI t) S = kk S') ∧ (∀ q, q ≠ 1 → S' q = S q) ∧ (∀ c, c < n → S' 1 (6 * c + 5) = nI (Y c + (p && C c).toNat)) ∧ ∀ x, (∀ c, c < n → x ≠ 6 * c + 5) → S' 1 x = S 1 x
  | 0, t, f + 1, S, hd, hf, h3, h4, h5 => by
    have e : t = n := by omega
    subst e
    refine ⟨S, fun kk => ?_, fun _ _ => rfl, fun c hc => ?_, fun _ _ => rfl⟩
    · simp (disch := omega) only [fX5_folds_L92, lt, jn, q_lit, q_bnd, q_cl, q_le, q_lt, q_eq, pk_mul, nI_add, q_sub, q_div, q_pos, q_neg, q_T, q_F, q_max0, q_flg1, q_flg0, q_min, q_min2, q_bit, q_some, h3]
    · rw [h5 c hc, if_pos hc]
  | d + 1, t, f + 1, S, hd, hf, h3, h4, h5 => by
    have ht : t < n := by omega
    have e4 := h4 t ht
    have e5 := h5 t ht
    rw [if_neg (by omega)] at e5
    obtain ⟨S', i1', i2', i3', i4⟩ := m_fb_L hn C Y i1 p d (t + 1) f (va_up S 1 (upd (S 1) (6 * t + 5) (nI (Y t + (p && C t).toNat)))) (by omega) (by omega) h3 (fun c hc => by rw [q_up, if_pos rfl, q_ud, if_neg (by omega)]; exact h4 c hc) (fun c hc => by
      rw [q_up, if_pos rfl, q_ud]
      by_cases e : c = t
      · subst e
        rw [if_pos rfl, if_pos (show c < c + 1 by omega)]
      · rw [if_neg (by omega), h5 c hc]
        by_cases e2 : c < t
        · rw [if_pos e2, if_pos (show c < t + 1 by omega)]
        · rw [if_neg e2, if_neg (show ¬ c < t + 1 by omega)])
    refine ⟨S', fun kk => ?_, fun q hq => by rw [i2' q hq, q_up, if_neg hq], i3', fun x hx => by rw [i4 x hx, q_up, if_pos rfl, q_ud, if_neg (hx t ht)]⟩
    rw [← i1' kk]
    simp (disch := omega) only [fX5_folds_L92, fX5_of, fX5_becomesOf, lt, jn, q_lit, q_bnd, q_cl, q_le, q_lt, q_eq, pk_mul, nI_add, q_sub, q_div, q_pos, q_neg, q_T, q_F, q_max0, q_flg1, q_flg0, q_min, q_min2, q_bit, q_some, h3, e4, e5, q_b0]
    cases p
    · rw [if_pos rfl]
      rfl
    · rw [if_neg (by decide)]
      by_cases e : C t = true
      · rw [if_pos e, e]
        rfl
      · have e' : C t = false := by simpa using e
        rw [if_neg e, e']
        rfl
/-- where each bolt lies -/
theorem WB.loc {n : Nat} {B : BB} (h : WB n B) : ∃ K Y : Nat → Nat, (∀ c, c < n → K c < 3 ∧ (B (K c))[Y c]? = some c) ∧ ∀ k j c, k < 3 → (B k)[j]? = some c → K c = k ∧ Y c = j := by
  have : ∀ c, ∃ p : Nat × Nat, c < n → p.1 < 3 ∧ (B p.1)[p.2]? = some c := by
    intro c
    by_cases hc : c < n
    · obtain ⟨k, i, h1, h2⟩ := h.ex hc
      exact ⟨(k, i), fun _ => ⟨h1, h2⟩⟩
    · exact ⟨(0, 0), fun q => absurd q hc⟩
  have ⟨p, hp⟩ := Classical.axiomOfChoice this
  refine ⟨fun c => (p c).1, fun c => (p c).2, hp, fun k j c hk hj => ?_⟩
  have h1 := hp c (h.lt hk (List.mem_of_getElem? hj))
  exact h.at h1.1 hk h1.2 hj
theorem take_at {n : Nat} {B : BB} (h : WB n B) {k i b k' j c : Nat} (hk : k < 3) (hk' : k' < 3) (hb : (B k)[i]? = some b) (hc : (spTake B k i k')[j]? = some c) {K Y : Nat → Nat} (hL : ∀ k j c, k < 3 → (B k)[j]? = some c → K c = k ∧ Y c = j) : c ≠ b ∧ K c = k' ∧ (if K c = k ∧ i < Y c then Y c - 1 else Y c) = j ∧ c < n := by
  have lb := hL k i b hk hb
  rw [spTake, q_up] at hc
  by_cases e : k' = k
  · subst e
    rw [if_pos rfl, List.getElem?_eraseIdx] at hc
    by_cases e2 : j < i
    · rw [if_pos e2] at hc
      have lc := hL k' j c hk' hc
      refine ⟨fun q => ?_, lc.1, ?_, h.lt hk' (List.mem_of_getElem? hc)⟩
      · subst q
        omega
      · rw [if_neg (by omega)]
        exact lc.2
    · rw [if_neg e2] at hc
      have lc := hL k' (j + 1) c hk' hc
      refine ⟨fun q => ?_, lc.1, ?_, h.lt hk' (List.mem_of_getElem? hc)⟩
      · subst q
        omega
      · rw [if_pos (by omega), lc.2]
        rfl
  · rw [if_neg e] at hc
    have lc := hL k' j c hk' hc
    refine ⟨fun q => ?_, lc.1, ?_, h.lt hk' (List.mem_of_getElem? hc)⟩
    · subst q
      omega
    · rw [if_neg (by omega)]
      exact lc.2
theorem take_cnt {n : Nat} {B : BB} (h : WB n B) {k i b k2 : Nat} (hk : k < 3) (hk2 : k2 < 3) (hb : (B k)[i]? = some b) {K Y : Nat → Nat} (hp : ∀ c, c < n → K c < 3 ∧ (B (K c))[Y c]? = some c) (hL : ∀ k j c, k < 3 → (B k)[j]? = some c → K c = k ∧ Y c = j) : spSum (fun c => (decide (K c = k2) && decide (c ≠ b)).toNat) n = (spTake B k i k2).length := by
  rw [← sum_count n (spTake B k i k2)]
  · refine sum_congr fun c hc => ?_
    have e1 := cnt_out _ _ _ c hb
    have e2 : (spTake B k i k2).count c = (if k2 = k then (B k).eraseIdx i else B k2).count c := by rw [spTake, q_up]
    rw [e2]
    have h1 := hp c hc
    have n1 := (h.nodup hk2).count (a := c)
    have m1 : c ∈ B k2 ↔ K c = k2 := ⟨fun q => by
      obtain ⟨j, hj⟩ := List.mem_iff_getElem?.mp q
      exact (hL k2 j c hk2 hj).1, fun q => by
      rw [← q]
      exact List.mem_of_getElem? h1.2⟩
    have lb := hL k i b hk hb
    by_cases e : k2 = k
    · subst e
      rw [if_pos rfl]
      by_cases e3 : K c = k2
      · rw [if_pos (m1.mpr e3)] at n1
        by_cases e4 : c = b
        · rw [if_pos e4] at e1
          have : ((B k2).eraseIdx i).count c = 0 := by omega
          rw [this]
          simp [e4]
        · rw [if_neg e4] at e1
          have : ((B k2).eraseIdx i).count c = 1 := by omega
          rw [this]
          simp [e3, e4]
      · rw [if_neg fun q => e3 (m1.mp q)] at n1
        have : ((B k2).eraseIdx i).count c = 0 := by omega
        rw [this]
        simp [e3]
    · rw [if_neg e, n1]
      by_cases e3 : K c = k2
      · rw [if_pos (m1.mpr e3)]
        have e4 : c ≠ b := fun q => by
          subst q
          omega
        simp [e3, e4]
      · rw [if_neg fun q => e3 (m1.mp q)]
        simp [e3]
  · intro x hx
    rw [spTake, q_up] at hx
    split at hx
    · exact h.lt hk (List.mem_of_mem_eraseIdx hx)
    · exact h.lt hk2 hx
theorem m_folds {N : NN} {B : BB} {S0 S : M2} (hS : MA N B S0 S) (hW : WF N B) {k k2 b i : Nat} (hk : k < 3) (hk2 : k2 < 3) (hb : (B k)[i]? = some b) (p : Bool) : ∃ S', fX5_folds (nI b) (nI k2) (nI p.toNat) S = some S' ∧ MA N (if p = true then spTop (spTake B k i) k2 b else spBot (spTake B k i) k2 b) S0 S' := by
  have w1 := hW.1
  have hB := hW.2.2.2.2
  have hbn := hB.lt hk (List.mem_of_getElem? hb)
  obtain ⟨K, Y, hp, hL⟩ := hB.loc
  have lb := hL k i b hk hb
  have hY : ∀ c, c < N 0 0 → Y c ≤ 4 := fun c hc => by
    have h1 := hp c hc
    have h2 := l_lt h1.2
    have h3 := hB.le h1.1
    omega
  obtain ⟨h0, g3, g4, ⟨a1, a2, a3, a4⟩, h5, h6, h7, h8⟩ := id hS
  obtain ⟨S1, s1, s2, s3, s4⟩ := m_fa_L (n := N 0 0) (b := b) (k := k) (i := i) (by omega) hbn K Y (fun c hc => (hp c hc).1) hY hk lb.2 (nI k2) (nI p.toNat) (N 0 0) 0 400 S (by omega) (by omega) hS.n (fun c hc => (h8 _ (hp c hc).1 _ c (hp c hc).2).1) (fun c hc => by rw [if_neg (Nat.not_lt_zero c)]; exact (h8 _ (hp c hc).1 _ c (hp c hc).2).2)
  have hC : ∀ c, c < N 0 0 → (va_up S1 1 (upd (S1 1) (6 * b + 4) (-4)) 1 (6 * c + 4) = nI k2) = ((decide (K c = k2) && decide (c ≠ b)) = true) := by
    intro c hc
    rw [q_up, if_pos rfl, q_ud]
    by_cases e : c = b
    · subst e
      rw [if_pos rfl]
      have : ¬ (-4 : Int32) = nI k2 := by rcases wb_cases hk2 with rfl | rfl | rfl <;> decide
      simp [this]
    · rw [if_neg (by omega), s4 _ (by omega), (h8 _ (hp c hc).1 _ c (hp c hc).2).1, q_eq (by have := (hp c hc).1; omega)]
      simp [e]
  obtain ⟨S2, u1, u2, u3, u4⟩ := m_fb_L (n := N 0 0) (k2 := k2) (by omega) (fun c => decide (K c = k2) && decide (c ≠ b)) (fun c => if K c = k ∧ i < Y c then Y c - 1 else Y c) (nI b) p (N 0 0) 0 400 (va_up S1 1 (upd (S1 1) (6 * b + 4) (-4))) (by omega) (by omega) (by rw [q_up, if_neg (by decide), s2 3 (by decide)]; exact hS.n) hC (fun c hc => by
    rw [if_neg (Nat.not_lt_zero c), q_up, if_pos rfl, q_ud, if_neg (by omega)]
    exact s3 c hc)
  have n2 : S2 3 0 = nI (N 0 0) := by rw [u2 3 (by decide), q_up, if_neg (by decide), s2 3 (by decide)]; exact hS.n
  have lies : fX5_liesIn (nI k2) S2 = some (nI (spTake B k i k2).length) := by
    have := m_lies_L n2 w1.1 (c := fun c => decide (K c = k2) && decide (c ≠ b)) (fun c hc => by rw [u4 _ (by omega)]; exact hC c hc) (fun p => some p) (N 0 0) 0 400 (by omega) (by omega)
    rw [take_cnt hB hk hk2 hb hp hL] at this
    exact this
  have e4 : S 1 (6 * b + 4) = nI k := (h8 k hk i b hb).1
  refine ⟨va_up S2 1 (upd (upd (S2 1) (6 * b + 4) (nI k2)) (6 * b + 5) (nI (if p = true then 0 else (spTake B k i k2).length))), ?_, ?_⟩
  · unfold fX5_folds
    have e9 : fX5_liesIn (nI k2) S2 = some (nI (spTake B k i k2).length) := lies
    simp (disch := omega) only [fX5_of, fX5_becomesOf, lt, q_lit, q_bnd, q_cl, pk_mul, nI_add, q_some, e4, s1]
    have e10 : (-nI 4) = (-4 : Int32) := by decide
    rw [e10]
    simp (disch := omega) only [u1, q_some, e9, q_up, q_T]
    rw [up_up, up_up]
    cases p
    · rfl
    · rfl
  · have hfin : ∀ c, c < N 0 0 → c ≠ b → va_up S2 1 (upd (upd (S2 1) (6 * b + 4) (nI k2)) (6 * b + 5) (nI (if p = true then 0 else (spTake B k i k2).length))) 1 (6 * c + 4) = nI (K c) ∧ va_up S2 1 (upd (upd (S2 1) (6 * b + 4) (nI k2)) (6 * b + 5) (nI (if p = true then 0 else (spTake B k i k2).length))) 1 (6 * c + 5) = nI ((if K c = k ∧ i < Y c then Y c - 1 else Y c) + (p && (decide (K c = k2) && decide (c ≠ b))).toNat) := by
      intro c hc e
      rw [q_up, if_pos rfl, q_ud, if_neg (by omega), q_ud, if_neg (by omega), q_ud, if_neg (by omega), q_ud, if_neg (by omega), u4 _ (by omega), q_up, if_pos rfl, q_ud, if_neg (by omega), s4 _ (by omega)]
      exact ⟨(h8 _ (hp c hc).1 _ c (hp c hc).2).1, u3 c hc⟩
    have hrest : ∀ x, (∀ c, c < N 0 0 → x ≠ 6 * c + 5 ∧ x ≠ 6 * c + 4) → va_up S2 1 (upd (upd (S2 1) (6 * b + 4) (nI k2)) (6 * b + 5) (nI (if p = true then 0 else (spTake B k i k2).length))) 1 x = S 1 x := by
      intro x hx
      have hx1 := hx b hbn
      rw [q_up, if_pos rfl, q_ud, if_neg hx1.1, q_ud, if_neg hx1.2, u4 x fun c hc => (hx c hc).1, q_up, if_pos rfl, q_ud, if_neg hx1.2, s4 x fun c hc => (hx c hc).1]
    refine ⟨fun q hq => ?_, g3, g4, ⟨?_, ?_, ?_, ?_⟩, fun b' hb' => ⟨?_, ?_, ?_, ?_⟩, fun m hm => ⟨?_, ?_, ?_, ?_⟩, fun i hi => ⟨?_, ?_⟩, fun k' hk' j c hc => ?_⟩
    · rw [q_up, if_neg hq, u2 q hq, q_up, if_neg hq, s2 q hq]
      exact h0 q hq
    · rw [hrest _ (by omega)]; exact a1
    · rw [hrest _ (by omega)]; exact a2
    · rw [hrest _ (by omega)]; exact a3
    · rw [hrest _ (by omega)]; exact a4
    · rw [hrest _ (by omega)]; exact (h5 b' hb').1
    · rw [hrest _ (by omega)]; exact (h5 b' hb').2.1
    · rw [hrest _ (by omega)]; exact (h5 b' hb').2.2.1
    · rw [hrest _ (by omega)]; exact (h5 b' hb').2.2.2
    · rw [hrest _ (by omega)]; exact (h6 m hm).1
    · rw [hrest _ (by omega)]; exact (h6 m hm).2.1
    · rw [hrest _ (by omega)]; exact (h6 m hm).2.2.1
    · rw [hrest _ (by omega)]; exact (h6 m hm).2.2.2
    · rw [hrest _ (by omega)]; exact (h7 i hi).1
    · rw [hrest _ (by omega)]; exact (h7 i hi).2
    · have old : ∀ j, (spTake B k i k')[j]? = some c → va_up S2 1 (upd (upd (S2 1) (6 * b + 4) (nI k2)) (6 * b + 5) (nI (if p = true then 0 else (spTake B k i k2).length))) 1 (6 * c + 4) = nI k' ∧ va_up S2 1 (upd (upd (S2 1) (6 * b + 4) (nI k2)) (6 * b + 5) (nI (if p = true then 0 else (spTake B k i k2).length))) 1 (6 * c + 5) = nI (j + (p && decide (k' = k2)).toNat) := by
        intro j hc
        obtain ⟨t1, t2, t3, t4⟩ := take_at hB hk hk' hb hc hL
        obtain ⟨f1, f2⟩ := hfin c t4 t1
        rw [f1, f2, t3, t2]
        refine ⟨rfl, ?_⟩
        simp [t1]
      have new : va_up S2 1 (upd (upd (S2 1) (6 * b + 4) (nI k2)) (6 * b + 5) (nI (if p = true then 0 else (spTake B k i k2).length))) 1 (6 * b + 4) = nI k2 ∧ va_up S2 1 (upd (upd (S2 1) (6 * b + 4) (nI k2)) (6 * b + 5) (nI (if p = true then 0 else (spTake B k i k2).length))) 1 (6 * b + 5) = nI (if p = true then 0 else (spTake B k i k2).length) := by
        rw [q_up, if_pos rfl, q_ud, if_neg (by omega), q_ud, if_pos rfl, q_ud, if_pos rfl]
        exact ⟨rfl, rfl⟩
      cases p
      · rw [if_neg (by decide), spBot, q_up] at hc
        by_cases e : k' = k2
        · subst e
          rw [if_pos rfl, List.getElem?_append] at hc
          by_cases e2 : j < (spTake B k i k').length
          · rw [if_pos e2] at hc
            exact old j hc
          · rw [if_neg e2] at hc
            have e3 : j = (spTake B k i k').length := by
              have := l_lt hc
              rw [List.length_singleton] at this
              omega
            subst e3
            rw [Nat.sub_self, List.getElem?_cons_zero, Option.some.injEq] at hc
            subst hc
            exact new
        · rw [if_neg e] at hc
          have := old j hc
          rw [decide_eq_false e] at this
          exact this
      · rw [if_pos rfl, spTop, q_up] at hc
        by_cases e : k' = k2
        · subst e
          rw [if_pos rfl] at hc
          match j, hc with
          | 0, hc =>
            simp only [List.getElem?_cons_zero, Option.some.injEq] at hc
            subst hc
            exact new
          | j + 1, hc =>
            simp only [List.getElem?_cons_succ] at hc
            have := old j hc
            rw [decide_eq_true rfl] at this
            exact this
        · rw [if_neg e] at hc
          have := old j hc
          rw [decide_eq_false e] at this
          exact this
