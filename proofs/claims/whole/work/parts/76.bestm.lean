/-! best, the model -/
def cut (row : List Nat) (x y : Nat) : BB := fun k => if k = 0 then row.take x else if k = 1 then (row.drop x).take (y - x) else row.drop y
theorem cut_at {row : List Nat} {x y k i b : Nat} (hxy : x ≤ y) (hk : k < 3) (h : (cut row x y k)[i]? = some b) : ∃ j, row[j]? = some b ∧ (if x ≤ j then (if y ≤ j then 2 else 1) else 0) = k ∧ (if x ≤ j then (if y ≤ j then j - y else j - x) else j) = i := by
  rcases wb_cases hk with rfl | rfl | rfl
  · have h' : (row.take x)[i]? = some b := h
    rw [List.getElem?_take] at h'
    by_cases e : i < x
    · rw [if_pos e] at h'
      exact ⟨i, h', by rw [if_neg (by omega)], by rw [if_neg (by omega)]⟩
    · rw [if_neg e] at h'
      exact absurd h' (fun h => nomatch h)
  · have h' : ((row.drop x).take (y - x))[i]? = some b := h
    rw [List.getElem?_take] at h'
    by_cases e : i < y - x
    · rw [if_pos e, List.getElem?_drop] at h'
      exact ⟨x + i, h', by rw [if_pos (by omega), if_neg (by omega)], by rw [if_pos (by omega), if_neg (by omega)]; omega⟩
    · rw [if_neg e] at h'
      exact absurd h' (fun h => nomatch h)
  · have h' : (row.drop y)[i]? = some b := h
    rw [List.getElem?_drop] at h'
    exact ⟨y + i, h', by rw [if_pos (by omega), if_pos (by omega)], by rw [if_pos (by omega), if_pos (by omega)]; omega⟩
theorem cut_wb {n : Nat} {row : List Nat} (hr : row.Perm (List.range n)) {x y : Nat} (hxy : x ≤ y) : WB n (cut row x y) := by
  intro a
  have h1 := hr.count_eq a
  rw [List.count_range] at h1
  rw [← h1]
  have e : row = row.take x ++ ((row.drop x).take (y - x) ++ row.drop y) := by
    have e2 : row.drop y = (row.drop x).drop (y - x) := by
      rw [List.drop_drop]
      congr 1
      omega
    rw [e2, List.take_append_drop, List.take_append_drop]
  have e3 : row.count a = (row.take x).count a + (((row.drop x).take (y - x)).count a + (row.drop y).count a) := by
    have := congrArg (List.count a) e
    rw [List.count_append, List.count_append] at this
    exact this
  rw [e3, Nat.add_assoc]
  rfl
noncomputable def cof (n : Nat) (B : BB) : List Nat := @dite _ (∃ c, FD n c B) (Classical.propDecidable _) (fun h => h.choose) (fun _ => [])
theorem cof_fd {n : Nat} {B : BB} (h : WB n B) (hn : n ≤ 5) : FD n (cof n B) B := by
  have hx : ∃ c, FD n c B := FD.mk h hn
  unfold cof
  rw [dif_pos hx]
  exact hx.choose_spec
noncomputable def lmc (n v : Nat) : List (List Nat) := if isR n v = true then ups (fun w => if w % 6 < w / 6 then [] else if n < w % 6 then [] else [cof n (cut (dgs n v) (w / 6) (w % 6))]) 36 0 else []
noncomputable def LM (n : Nat) : List (List Nat) := ups (lmc n) (n ^ n) 0
theorem LM_mem {n : Nat} (hn : n ≤ 5) {c : List Nat} : c ∈ LM n ↔ ∃ B, FD n c B := by
  unfold LM
  rw [ups_mem]
  constructor
  · rintro ⟨v, -, hv, hc⟩
    unfold lmc at hc
    by_cases e : isR n v = true
    · rw [if_pos e, ups_mem] at hc
      obtain ⟨w, -, hw, hc⟩ := hc
      by_cases e1 : w % 6 < w / 6
      · rw [if_pos e1] at hc
        exact absurd hc List.not_mem_nil
      · rw [if_neg e1] at hc
        by_cases e2 : n < w % 6
        · rw [if_pos e2] at hc
          exact absurd hc List.not_mem_nil
        · rw [if_neg e2, List.mem_singleton] at hc
          have hr : (dgs n v).Perm (List.range n) := chk_perm.mp (by rw [← isR_eq hn (by omega)]; exact e)
          rw [hc]
          exact ⟨_, cof_fd (cut_wb hr (by omega)) hn⟩
    · rw [if_neg e] at hc
      exact absurd hc List.not_mem_nil
  · rintro ⟨B, h⟩
    have hp := h.2.1.perm
    obtain ⟨v, hv, hd⟩ := row_ex hp
    have hlen := h.2.1.len
    refine ⟨v, Nat.zero_le _, by omega, ?_⟩
    unfold lmc
    rw [isR_eq hn hv, hd, chk_perm.mpr hp, if_pos rfl, ups_mem]
    have q1 : ((B 0).length * 6 + ((B 0).length + (B 1).length)) / 6 = (B 0).length := by omega
    have q2 : ((B 0).length * 6 + ((B 0).length + (B 1).length)) % 6 = (B 0).length + (B 1).length := by omega
    refine ⟨(B 0).length * 6 + ((B 0).length + (B 1).length), Nat.zero_le _, by omega, ?_⟩
    rw [q1, q2, if_neg (by omega), if_neg (by omega), List.mem_singleton]
    refine h.codes (cof_fd (cut_wb hp (by omega)) hn) fun k hk => ?_
    rcases wb_cases hk with rfl | rfl | rfl
    · show (B 0 ++ B 1 ++ B 2).take (B 0).length = B 0
      rw [List.append_assoc, List.take_left]
    · show ((B 0 ++ B 1 ++ B 2).drop (B 0).length).take ((B 0).length + (B 1).length - (B 0).length) = B 1
      rw [List.append_assoc, List.drop_left, Nat.add_sub_cancel_left, List.take_left]
    · show (B 0 ++ B 1 ++ B 2).drop ((B 0).length + (B 1).length) = B 2
      rw [← List.length_append, List.drop_left]
theorem m_cut_L {n x y : Nat} {row : List Nat} (hn : n ≤ 5) (hx : x ≤ 5) (hy : y ≤ 5) (hxy : x ≤ y) (hl : row.length = n) (hnd : row.Nodup) (hlt : ∀ b, b ∈ row → b < n) : ∀ (d t f : Nat) (S : M2), t + d = n → d < f → S 3 0 = nI n → (∀ i b, row[i]? = some b → S 19 i = nI b) → ∃ S', (∀ kk : M2 → Option M2, fX5_cutsAt_L2 (nI x) (nI y) kk f (nI t) S = kk S') ∧ (∀ q, q ≠ 1 → S' q = S q) ∧ (∀ j b, t ≤ j → row[j]? = some b → S' 1 (6 * b + 4) = nI (if x ≤ j then (if y ≤ j then 2 else 1) else 0) ∧ S' 1 (6 * b + 5) = nI (if x ≤ j then (if y ≤ j then j - y else j - x) else j)) ∧ ∀ z, (∀ j b, t ≤ j → row[j]? = some b → z ≠ 6 * b + 4 ∧ z ≠ 6 * b + 5) → S' 1 z = S 1 z
  | 0, t, f + 1, S, ht, hf, h3, h19 => by
    refine ⟨S, fun kk => ?_, fun _ _ => rfl, fun j b hj hb => ?_, fun _ _ => rfl⟩
    · simp (disch := omega) only [fX5_cutsAt_L2, lt, jn, q_lit, q_bnd, q_cl, q_le, q_lt, q_eq, pk_mul, nI_add, q_sub, q_div, q_pos, q_neg, q_T, q_F, q_max0, q_flg1, q_flg0, q_min, q_min2, q_bit, q_some, h3]
    · have := l_lt hb
      omega
  | d + 1, t, f + 1, S, ht, hf, h3, h19 => by
    have htl : t < row.length := by omega
    obtain ⟨b0, hb0⟩ : ∃ b, row[t]? = some b := ⟨_, List.getElem?_eq_getElem htl⟩
    have hb0n := hlt b0 (List.mem_of_getElem? hb0)
    have h19b := h19 t b0 hb0
    obtain ⟨S', a1, a2, a3, a4⟩ := m_cut_L hn hx hy hxy hl hnd hlt d (t + 1) f (va_up S 1 (upd (upd (S 1) (6 * b0 + 4) (nI (if x ≤ t then (if y ≤ t then 2 else 1) else 0))) (6 * b0 + 5) (nI (if x ≤ t then (if y ≤ t then t - y else t - x) else t)))) (by omega) (by omega) h3 h19
    refine ⟨S', fun kk => ?_, fun q hq => by rw [a2 q hq, q_up, if_neg hq], fun j b hj hb => ?_, fun z hz => ?_⟩
    · rw [← a1 kk]
      have h19c : ∀ g, va_up S 1 g 19 t = nI b0 := fun _ => h19b
      have s1 : ∀ g, va_up S 1 g 1 = g := fun _ => rfl
      by_cases e1 : x ≤ t
      · by_cases e2 : y ≤ t
        · rw [if_pos e1, if_pos e2, if_pos e1, if_pos e2]
          simp (disch := omega) only [fX5_cutsAt_L2, fX5_becomesOf, lt, jn, q_lit, q_le, q_neg, q_pos, q_T, q_F, q_bnd, q_cl, q_some, pk_mul, nI_add, q_sub, h3, h19b, h19c, s1, up_up]
        · rw [if_pos e1, if_neg e2, if_pos e1, if_neg e2]
          simp (disch := omega) only [fX5_cutsAt_L2, fX5_becomesOf, lt, jn, q_lit, q_le, q_neg, q_pos, q_T, q_F, q_bnd, q_cl, q_some, pk_mul, nI_add, q_sub, h3, h19b, h19c, s1, up_up]
      · rw [if_neg e1, if_neg e1]
        simp (disch := omega) only [fX5_cutsAt_L2, fX5_becomesOf, lt, jn, q_lit, q_le, q_neg, q_pos, q_T, q_F, q_bnd, q_cl, q_some, pk_mul, nI_add, q_sub, h3, h19b, h19c, s1, up_up]
    · by_cases e : j = t
      · subst e
        rw [hb0, Option.some.injEq] at hb
        subst hb
        have nt : ∀ z, z = 6 * b0 + 4 ∨ z = 6 * b0 + 5 → ∀ j' b', j + 1 ≤ j' → row[j']? = some b' → z ≠ 6 * b' + 4 ∧ z ≠ 6 * b' + 5 := by
          intro z hz j' b' hj' hb'
          have : b' ≠ b0 := fun q => by
            rw [q] at hb'
            have := nd_ix hnd hb' hb0
            omega
          omega
        rw [a4 _ (nt _ (Or.inl rfl)), a4 _ (nt _ (Or.inr rfl)), q_up, if_pos rfl, q_ud, if_neg (by omega), q_ud, if_pos rfl, q_ud, if_pos rfl]
        exact ⟨rfl, rfl⟩
      · exact a3 j b (by omega) hb
    · have h0 := hz t b0 (Nat.le_refl _) hb0
      rw [a4 z fun j b hj hb => hz j b (by omega) hb, q_up, if_pos rfl, q_ud, if_neg h0.2, q_ud, if_neg h0.1]
theorem m_cutsAt {N : NN} {B : BB} {S0 S : M2} {x y : Nat} {row : List Nat} (hS : MA N B S0 S) (hW : WF N B) (hxy : x ≤ y) (hy : y ≤ 5) (hr : row.Perm (List.range (N 0 0))) (h19 : ∀ i b, row[i]? = some b → S 19 i = nI b) : ∃ S', fX5_cutsAt (nI x) (nI y) S = some S' ∧ MA N (cut row x y) S0 S' ∧ WF N (cut row x y) := by
  have hlen : row.length = N 0 0 := by rw [hr.length_eq, List.length_range]
  have hnd : row.Nodup := hr.symm.nodup List.nodup_range
  have hlt : ∀ b, b ∈ row → b < N 0 0 := fun b hb => List.mem_range.mp (hr.mem_iff.mp hb)
  obtain ⟨S', a1, a2, a3, a4⟩ := m_cut_L hW.1.1 (show x ≤ 5 by omega) hy hxy hlen hnd hlt (N 0 0) 0 400 S (by omega) (by have := hW.1.1; omega) hS.n h19
  refine ⟨S', ?_, ⟨fun q hq => by rw [a2 q hq]; exact hS.1 q hq, hS.2.1, hS.2.2.1, ?_⟩, hW.bb (cut_wb hr hxy)⟩
  · unfold fX5_cutsAt
    exact a1 _
  · obtain ⟨⟨m1, m2, m3, m4⟩, h2, h3, h4, h5⟩ := hS.2.2.2
    have w1 := hW.1
    have o : ∀ z, (∀ c, c < N 0 0 → z ≠ 6 * c + 4 ∧ z ≠ 6 * c + 5) → S' 1 z = S 1 z := fun z hz => a4 z fun j b _ hb => hz b (hlt b (List.mem_of_getElem? hb))
    refine ⟨⟨?_, ?_, ?_, ?_⟩, fun b hb => ⟨?_, ?_, ?_, ?_⟩, fun m hm => ⟨?_, ?_, ?_, ?_⟩, fun i hi => ⟨?_, ?_⟩, fun k' hk' i b hb => ?_⟩
    · rw [o _ fun c hc => by omega]; exact m1
    · rw [o _ fun c hc => by omega]; exact m2
    · rw [o _ fun c hc => by omega]; exact m3
    · rw [o _ fun c hc => by omega]; exact m4
    · rw [o _ fun c hc => by omega]; exact (h2 b hb).1
    · rw [o _ fun c hc => by omega]; exact (h2 b hb).2.1
    · rw [o _ fun c hc => by omega]; exact (h2 b hb).2.2.1
    · rw [o _ fun c hc => by omega]; exact (h2 b hb).2.2.2
    · rw [o _ fun c hc => by omega]; exact (h3 m hm).1
    · rw [o _ fun c hc => by omega]; exact (h3 m hm).2.1
    · rw [o _ fun c hc => by omega]; exact (h3 m hm).2.2.1
    · rw [o _ fun c hc => by omega]; exact (h3 m hm).2.2.2
    · rw [o _ fun c hc => by omega]; exact (h4 i hi).1
    · rw [o _ fun c hc => by omega]; exact (h4 i hi).2
    · obtain ⟨j, hj, e1, e2⟩ := cut_at hxy hk' hb
      have := a3 j b (Nat.zero_le _) hj
      rw [e1, e2] at this
      exact this
theorem m_pl_L {N : NN} {B : BB} {S0 S : M2} {c : List Nat} (hS : MA N B S0 S) (hW : WF N B) (hF : FD (N 0 0) c B) (kk : Int32 → Option Int32) : ∀ d t f : Nat, t + d = N 0 0 → d < f → fX5_placesNow_L4 S kk f (nI (num (c.take t))) (nI t) = kk (nI (num c))
  | 0, t, f + 1, ht, hf => by
    have w1 := hW.1.1
    have e : t = N 0 0 := by omega
    rw [List.take_of_length_le (by rw [hF.1]; omega)]
    simp (disch := omega) only [fX5_placesNow_L4, lt, jn, q_lit, q_bnd, q_cl, q_le, q_lt, q_eq, pk_mul, nI_add, q_sub, q_div, q_pos, q_neg, q_T, q_F, q_max0, q_flg1, q_flg0, q_min, q_min2, q_bit, q_some, hS.n]
  | d + 1, t, f + 1, ht, hf => by
    have w1 := hW.1.1
    have ih := m_pl_L hS hW hF kk d (t + 1) f (by omega) (by omega)
    obtain ⟨k, i, hk, hi, hb, hc⟩ := hF.at (b := t) (by omega)
    obtain ⟨m5, m6⟩ := hS.2.2.2.2.2.2.2 k hk i t hb
    have e : c.take (t + 1) = c.take t ++ [10 * k + i] := by
      rw [List.take_succ, ← hc, List.getD_eq_getElem?_getD, List.getElem?_eq_getElem (by rw [hF.1]; omega)]
      rfl
    rw [e, num_snoc] at ih
    have e2 : 30 * num (c.take t) + 10 * k + i = 30 * num (c.take t) + (10 * k + i) := by omega
    rw [← e2] at ih
    simp (disch := omega) only [fX5_placesNow_L4, fX5_of, lt, jn, q_lit, q_bnd, q_cl, q_le, q_lt, q_eq, pk_mul, nI_add, q_sub, q_div, q_pos, q_neg, q_T, q_F, q_max0, q_flg1, q_flg0, q_min, q_min2, q_bit, q_some, hS.n, m5, m6]
    exact ih
theorem m_places {N : NN} {B : BB} {S0 S : M2} {c : List Nat} (hS : MA N B S0 S) (hW : WF N B) (hF : FD (N 0 0) c B) : fX5_placesNow S = some (nI (num c)) := by
  have w1 := hW.1.1
  exact m_pl_L hS hW hF (fun p => some p) (N 0 0) 0 400 (by omega) (by omega)
theorem num_bd {n : Nat} {c : List Nat} {B : BB} (hF : FD n c B) : num c < 2 ^ 30 := by
  have h1 := num_lt c hF.d30
  rw [hF.1] at h1
  have h2 : 30 ^ n ≤ 30 ^ 5 := Nat.pow_le_pow_right (by decide) hF.2.2.1
  omega
theorem m_b46 {N : NN} {B : BB} {Sx : M2} (hW : WF N B) (hM : MS N B (Sx 0)) (h3 : Sx 3 0 = nI (N 0 0)) (h4 : Sx 4 0 = nI (N 7 0)) {v : Nat} (hr : (dgs (N 0 0) v).Perm (List.range (N 0 0))) (x y : Int32) : ∀ (d w f : Nat) (st : Nat × Nat) (S : M2), w + d = 36 → d < f → ME2 Sx S → (∀ i b, (dgs (N 0 0) v)[i]? = some b → S 19 i = nI b) → st.1 < 2 ^ 30 ∧ st.2 < 2 ^ 30 → ∃ (st' : Nat × Nat) (S' : M2), (∀ kk : (Int32 × Int32 × M2) → Option (Int32 × M2), fX5_best_L46 x y kk f (nI st.1) (nI st.2) (nI w) S = kk (nI st'.1, nI st'.2, S')) ∧ ME2 Sx S' ∧ (st'.1 < 2 ^ 30 ∧ st'.2 < 2 ^ 30) ∧ st' = (ups (fun w => if w % 6 < w / 6 then [] else if N 0 0 < w % 6 then [] else [cof (N 0 0) (cut (dgs (N 0 0) v) (w / 6) (w % 6))]) d w).foldl (mst (DD N (N 0 0))) st
  | 0, w, f + 1, st, S, hw, hf, hE, h19, hst => by
    refine ⟨st, S, fun kk => ?_, hE, hst, rfl⟩
    rw [fX5_best_L46]
    exact if_pos (show nI 36 ≤ nI w by rw [q_le (by omega)]; omega)
  | d + 1, w, f + 1, st, S, hw, hf, hE, h19, hst => by
    have hn := hW.1.1
    have h3' : S 3 0 = nI (N 0 0) := by rw [hE 3 (by omega) (by omega)]; exact h3
    have h4' : S 4 0 = nI (N 7 0) := by rw [hE 4 (by omega) (by omega)]; exact h4
    have hM' : MS N B (S 0) := by rw [hE 0 (by omega) (by omega)]; exact hM
    have hm : nI w - nI w / nI 6 * nI 6 = nI (w % 6) := q_mod (by omega)
    rw [q_div (by omega)] at hm
    rw [ups, List.foldl_append]
    by_cases e1 : w % 6 < w / 6
    · rw [if_pos e1, List.foldl_nil]
      obtain ⟨st', S', r1, r2⟩ := m_b46 hW hM h3 h4 hr x y d (w + 1) f st S (by omega) (by omega) hE h19 hst
      refine ⟨st', S', fun kk => ?_, r2⟩
      rw [← r1 kk]
      simp (disch := omega) only [fX5_best_L46, q_ltn, jn, q_lit, q_le, q_lt, q_eq, q_neg, q_pos, q_T, q_F, q_div, hm, nI_add]
    · rw [if_neg e1]
      by_cases e2 : N 0 0 < w % 6
      · rw [if_pos e2, List.foldl_nil]
        obtain ⟨st', S', r1, r2⟩ := m_b46 hW hM h3 h4 hr x y d (w + 1) f st S (by omega) (by omega) hE h19 hst
        refine ⟨st', S', fun kk => ?_, r2⟩
        rw [← r1 kk]
        simp (disch := omega) only [fX5_best_L46, q_ltn, jn, q_lit, q_le, q_lt, q_eq, q_neg, q_pos, q_T, q_F, q_div, hm, nI_add, h3']
      · rw [if_neg e2, List.foldl_cons, List.foldl_nil]
        obtain ⟨S10, b1, b2⟩ := m_starts (S0 := S) (S := S) (fun _ _ => rfl) h3' h4' hM' hW
        obtain ⟨S12, c1, c2, c3⟩ := m_cutsAt (x := w / 6) (y := w % 6) b2 hW (by omega) (by omega) hr (fun i b hb => by rw [b2.1 19 (by omega)]; exact h19 i b hb)
        have hF := cof_fd c3.2.2.2.2 hn
        have hpl := m_places c2 c3 hF
        obtain ⟨S15, l1, l2, l3⟩ := m_next c2 c3
        have hD : spAll (spNight N (cut (dgs (N 0 0) v) (w / 6) (w % 6)) 15) (cut (dgs (N 0 0) v) (w / 6) (w % 6)) = DD N (N 0 0) (cof (N 0 0) (cut (dgs (N 0 0) v) (w / 6) (w % 6))) := by
          unfold DD
          exact (spAll_cg (fun m hm => (hW.2.2.1 m hm).2.2.2) (hF.uq (trc_fd hF))).symm
        rw [hD] at l1
        have hDl : DD N (N 0 0) (cof (N 0 0) (cut (dgs (N 0 0) v) (w / 6) (w % 6))) ≤ 405 := DD_le hW ⟨_, hF⟩
        have hnb := num_bd hF
        have hE15 : ME2 Sx S15 := fun q q1 q2 => by rw [l2.1 q q1]; exact hE q q1 q2
        have h19' : ∀ i b, (dgs (N 0 0) v)[i]? = some b → S15 19 i = nI b := fun i b hb => by rw [l2.1 19 (by omega)]; exact h19 i b hb
        generalize cof (N 0 0) (cut (dgs (N 0 0) v) (w / 6) (w % 6)) = c at hF hpl l1 hDl hnb
        generalize hDc : DD N (N 0 0) c = Dc at l1 hDl
        by_cases e3 : Dc < st.1 ∨ (Dc = st.1 ∧ num c < st.2)
        · have em : mst (DD N (N 0 0)) st c = (Dc, num c) := by
            unfold mst
            rw [hDc, if_pos e3]
          rw [em]
          obtain ⟨st', S', r1, r2⟩ := m_b46 hW hM h3 h4 hr x y d (w + 1) f (Dc, num c) S15 (by omega) (by omega) hE15 h19' ⟨Nat.lt_of_le_of_lt hDl (by decide), hnb⟩
          refine ⟨st', S', fun kk => ?_, r2⟩
          rw [← r1 kk]
          by_cases e4 : Dc < st.1
          · simp (disch := omega) only [fX5_best_L46, q_ltn, jn, q_lit, q_le, q_lt, q_eq, q_neg, q_pos, q_T, q_F, q_div, q_some, hm, nI_add, h3', b1, c1, hpl, l1]
          · simp (disch := omega) only [fX5_best_L46, q_ltn, jn, q_lit, q_le, q_lt, q_eq, q_neg, q_pos, q_T, q_F, q_div, q_some, hm, nI_add, h3', b1, c1, hpl, l1]
        · have em : mst (DD N (N 0 0)) st c = st := by
            unfold mst
            rw [hDc, if_neg e3]
          rw [em]
          obtain ⟨st', S', r1, r2⟩ := m_b46 hW hM h3 h4 hr x y d (w + 1) f st S15 (by omega) (by omega) hE15 h19' hst
          refine ⟨st', S', fun kk => ?_, r2⟩
          rw [← r1 kk]
          by_cases e4 : Dc = st.1
          · simp (disch := omega) only [fX5_best_L46, q_ltn, jn, q_lit, q_le, q_lt, q_eq, q_neg, q_pos, q_T, q_F, q_div, q_some, hm, nI_add, h3', b1, c1, hpl, l1]
          · simp (disch := omega) only [fX5_best_L46, q_ltn, jn, q_lit, q_le, q_lt, q_eq, q_neg, q_pos, q_T, q_F, q_div, q_some, hm, nI_add, h3', b1, c1, hpl, l1]
theorem q_jnn {α β : Type} (b : (β → α) → α) (k : β → α) : jn b k = b k := Eq.trans rfl rfl
theorem m_b25 {N : NN} {B : BB} {Sx : M2} (hW : WF N B) (hM : MS N B (Sx 0)) (h3 : Sx 3 0 = nI (N 0 0)) (h4 : Sx 4 0 = nI (N 7 0)) (x : Int32) : ∀ (d v f : Nat) (st : Nat × Nat) (S : M2), v + d = N 0 0 ^ N 0 0 → d < f → ME2 Sx S → st.1 < 2 ^ 30 ∧ st.2 < 2 ^ 30 → ∃ (st' : Nat × Nat) (S' : M2), (∀ kk : (Int32 × Int32 × M2) → Option (Int32 × M2), fX5_best_L25 x kk f (nI st.1) (nI st.2) (nI v) S = kk (nI st'.1, nI st'.2, S')) ∧ ME2 Sx S' ∧ (st'.1 < 2 ^ 30 ∧ st'.2 < 2 ^ 30) ∧ st' = (ups (lmc (N 0 0)) d v).foldl (mst (DD N (N 0 0))) st
  | 0, v, f + 1, st, S, hv, hf, hE, hst => by
    have hp := row_pow hW.1.1
    have h3' : S 3 0 = nI (N 0 0) := by rw [hE 3 (by omega) (by omega)]; exact h3
    have hr := m_rows h3' hW.1.1
    refine ⟨st, S, fun kk => ?_, hE, hst, rfl⟩
    rw [fX5_best_L25, hr, q_some]
    exact if_pos (show nI (N 0 0 ^ N 0 0) ≤ nI v by rw [q_le (by omega)]; omega)
  | d + 1, v, f + 1, st, S, hv, hf, hE, hst => by
    have hp := row_pow hW.1.1
    have h3' : S 3 0 = nI (N 0 0) := by rw [hE 3 (by omega) (by omega)]; exact h3
    have hr := m_rows h3' hW.1.1
    obtain ⟨S7, a1, a2, a3⟩ := m_isRow (v := v) h3' hW.1.1 (by omega)
    have hE7 : ME2 Sx S7 := fun q q1 q2 => by rw [a2 q q2]; exact hE q q1 q2
    rw [ups, List.foldl_append]
    unfold lmc
    by_cases e : isR (N 0 0) v = true
    · rw [if_pos e]
      rw [e] at a1
      have hperm : (dgs (N 0 0) v).Perm (List.range (N 0 0)) := chk_perm.mp (by rw [← isR_eq hW.1.1 (by omega)]; exact e)
      obtain ⟨st2, S2, r1, r2, r3, r4⟩ := m_b46 hW hM h3 h4 hperm x (nI v) 36 0 4000 st S7 (by omega) (by omega) hE7 a3 hst
      rw [← r4]
      obtain ⟨st', S', u1, u2⟩ := m_b25 hW hM h3 h4 x d (v + 1) f st2 S2 (by omega) (by omega) r2 r3
      refine ⟨st', S', fun kk => ?_, u2⟩
      rw [← u1 kk]
      have hle : ¬ nI (N 0 0 ^ N 0 0) ≤ nI v := by rw [q_le (by omega)]; omega
      have h10 : ¬ (nI true.toNat, S7).1 = (0 : Int32) := show ¬ nI 1 = (0 : Int32) by decide
      rw [fX5_best_L25, hr, q_some, if_neg hle, a1, q_some, q_ltn, q_jnn, if_neg h10]
      refine (r1 _).trans ?_
      show lt (nI v + (1 : Int32)) (fun x51 => fX5_best_L25 x kk f (nI st2.1) (nI st2.2) x51 S2) = _
      rw [q_ltn, show nI v + (1 : Int32) = nI (v + 1) from nI_add v 1]
    · have e' : isR (N 0 0) v = false := by simpa using e
      rw [if_neg e, List.foldl_nil]
      rw [e'] at a1
      obtain ⟨st', S', u1, u2⟩ := m_b25 hW hM h3 h4 x d (v + 1) f st S7 (by omega) (by omega) hE7 hst
      refine ⟨st', S', fun kk => ?_, u2⟩
      rw [← u1 kk]
      have hle : ¬ nI (N 0 0 ^ N 0 0) ≤ nI v := by rw [q_le (by omega)]; omega
      have h10 : (nI false.toNat, S7).1 = (0 : Int32) := rfl
      rw [fX5_best_L25, hr, q_some, if_neg hle, a1, q_some, q_ltn, q_jnn, if_pos h10]
      show lt (nI v + (1 : Int32)) (fun x51 => fX5_best_L25 x kk f (nI st.1) (nI st.2) x51 S7) = _
      rw [q_ltn, show nI v + (1 : Int32) = nI (v + 1) from nI_add v 1]
theorem m_in_L {S : M2} {b : Nat} (hb : b < 2 ^ 20) (kk : Int32 → Option Int32) : ∀ (d p f : Nat), d < f → d < 2 ^ 20 → p < 2 ^ 30 → fX5_placeIn_L10 S (nI b) kk f (nI p) (nI (b + d)) = kk (nI (p / 30 ^ d))
  | 0, p, f + 1, hf, hd, hp => by
    rw [Nat.pow_zero, Nat.div_one, Nat.add_zero]
    simp (disch := omega) only [fX5_placeIn_L10, lt, jn, q_lit, q_bnd, q_cl, q_le, q_lt, q_eq, pk_mul, nI_add, q_sub, q_div, q_pos, q_neg, q_T, q_F, q_max0, q_flg1, q_flg0, q_min, q_min2, q_bit, q_some]
  | d + 1, p, f + 1, hf, hd, hp => by
    have ih := m_in_L (S := S) hb kk d (p / 30) f (by omega) (by omega) (by omega)
    rw [Nat.div_div_eq_div_mul, ← Nat.pow_succ'] at ih
    have e : nI (b + (d + 1)) + (-nI 1) = nI (b + d) := by
      rw [← Int32.sub_eq_add_neg, q_sub (by omega)]
      congr 1
    simp (disch := omega) only [fX5_placeIn_L10, lt, q_lit, q_le, q_eq, q_neg, q_div, e]
    exact ih
theorem m_in {S : M2} {n b p : Nat} (h3 : S 3 0 = nI n) (hn : n ≤ 5) (hb : b < n) (hp : p < 2 ^ 30) : fX5_placeIn (nI p) (nI b) S = some (nI (p / 30 ^ (n - 1 - b) % 30)) := by
  have h := fun kk => m_in_L (S := S) (b := b) (by omega) kk (n - 1 - b) p 400 (by omega) (by omega) hp
  have e : b + (n - 1 - b) = n - 1 := by omega
  rw [e] at h
  have hd : p / 30 ^ (n - 1 - b) < 2 ^ 31 := Nat.lt_of_le_of_lt (Nat.div_le_self _ _) (by omega)
  have hm : nI (p / 30 ^ (n - 1 - b)) - nI (p / 30 ^ (n - 1 - b)) / nI 30 * nI 30 = nI (p / 30 ^ (n - 1 - b) % 30) := q_mod (by omega)
  unfold fX5_placeIn
  rw [q_ltn, h3]
  have e1 : nI n - (1 : Int32) = nI (n - 1) := q_sub (show 1 ≤ n by omega)
  rw [e1, h]
  have e30 : ¬ (30 : Int32) = 0 := by decide
  rw [if_neg e30]
  exact congrArg some hm
theorem k_best {X : M3} {S : M2} (h : R X S) (x : Int32) : ∃ a X' S', fX4_best x X = some (a, X') ∧ fX5_best x S = some (a, S') ∧ R X' S' := by
  obtain ⟨N, B, hW, hn, hC, hM, e3, e4, hN, hK⟩ := h.data
  have w1 := hW.1
  have hp := row_pow w1.1
  obtain ⟨T', Q', f1, f2, f3, f4⟩ := t_findBest hC hW (X 10) (X 11)
  obtain ⟨st', S', g1, g2, g3, g4⟩ := m_b25 hW hM e3 e4 x (N 0 0 ^ N 0 0) 0 4000 (1000000000, 0) S (by omega) (by omega) (fun _ _ _ => rfl) ⟨by decide, by decide⟩
  obtain ⟨a, ha⟩ := FD.mk hW.2.2.2.2 w1.1
  obtain ⟨b, hb, r1, r2⟩ := least_eq (DD N (N 0 0)) (L := LC (N 0 0)) (M := LM (N 0 0)) (lc_srt (pi0 w1.1) (Nat.zero_le _)) (fun c hc => DD_le hW ((LC_mem w1.1).mp hc)) (fun c => (LC_mem w1.1).trans (LM_mem w1.1).symm) ((LC_mem w1.1).mpr ⟨_, ha⟩)
  have g4' : st' = (DD N (N 0 0) b, num b) := g4.trans r2
  subst g4'
  rw [r1] at f2 f3 f4
  obtain ⟨B', hF⟩ := (LC_mem w1.1).mp hb
  have hle := DD_le (c := b) hW ⟨_, hF⟩
  have g1' : ∀ kk : (Int32 × Int32 × M2) → Option (Int32 × M2), fX5_best_L25 x kk 4000 (nI 1000000000) (nI 0) (nI 0) S = kk (nI (DD N (N 0 0) b), nI (num b), S') := g1
  have hR : R (va_up (va_up X 10 T') 11 Q') S' := (h.xe fun k a1 a2 a3 => by rw [q_up, if_neg a3, q_up, if_neg a2]).me2 g2
  have eb : fX5_isBolt (x - nI 10) S = fX1_hasBolt (x - nI 10) (X 2) := m_isBolt (e3.trans hC.1.1.symm) _
  have f2' : va_up (va_up X 10 T') 11 Q' 10 3 0 = nI (DD N (N 0 0) b) := f2
  rcases t_hasBolt hC.1.1 w1.1 (x - nI 10) with ⟨j, hj, hx, h1⟩ | ⟨hno, h1⟩
  · have hx' : x = nI (j + 10) := by rw [← nI_add, ← hx, Int32.sub_add_cancel]
    rw [h1] at eb
    rw [hx] at h1 eb
    have hx10 : nI (j + 10) - nI 10 = nI j := by rw [← hx', hx]
    have hg : b.getD j 0 = num b / 30 ^ (N 0 0 - 1 - j) % 30 := by
      have := num_dig hF.d30 (b := j) (by rw [hF.1]; exact hj)
      rw [hF.1] at this
      exact this.symm
    have ft : va_up (va_up X 10 T') 11 Q' 10 2 j = nI (b.getD j 0) := f4 (by show DD N (N 0 0) b < 406; omega) j hj
    have h3' : S' 3 0 = nI (N 0 0) := by rw [g2 3 (by omega) (by omega)]; exact e3
    have hin := m_in h3' w1.1 hj (num_bd hF)
    rw [hx'] at g1' ⊢
    refine ⟨nI (b.getD j 0), _, S', ?_, ?_, hR⟩
    · simp (disch := omega) only [fX4_best, lt, jn, q_lit, q_lt, q_eq, q_neg, q_T, q_F, q_some, hx10, h1, f1, q_bnd, q_cl, ft]
    · simp (disch := omega) only [fX5_best, lt, jn, q_lit, q_eq, q_neg, q_some, hx10, eb, g1', hin, hg]
  · rw [h1] at eb
    by_cases x0 : x = nI 0
    · subst x0
      refine ⟨nI (DD N (N 0 0) b), _, S', ?_, ?_, hR⟩
      · simp (disch := omega) only [fX4_best, lt, jn, q_lit, q_lt, q_eq, q_pos, q_T, q_some, f1, f2']
      · simp (disch := omega) only [fX5_best, lt, jn, q_lit, q_eq, q_pos, q_T, q_some, g1']
    · refine ⟨-1, X, S, ?_, ?_, h⟩
      · by_cases xl : x < nI 10
        · simp (disch := omega) only [fX4_best, lt, jn, q_lit, q_bnd, q_cl, q_le, q_lt, q_eq, pk_mul, nI_add, q_sub, q_div, q_pos, q_neg, q_T, q_F, q_max0, q_flg1, q_flg0, q_min, q_min2, q_bit, q_some, xl, x0]
        · simp (disch := omega) only [fX4_best, lt, jn, q_lit, q_bnd, q_cl, q_le, q_lt, q_eq, pk_mul, nI_add, q_sub, q_div, q_pos, q_neg, q_T, q_F, q_max0, q_flg1, q_flg0, q_min, q_min2, q_bit, q_some, xl, x0, h1]
      · simp (disch := omega) only [fX5_best, lt, jn, q_lit, q_bnd, q_cl, q_le, q_lt, q_eq, pk_mul, nI_add, q_sub, q_div, q_pos, q_neg, q_T, q_F, q_max0, q_flg1, q_flg0, q_min, q_min2, q_bit, q_some, x0, eb]
