/-! lain -/
def ME2 (S0 S : M2) : Prop := ∀ k, k ≠ 1 → k ≠ 19 → S k = S0 k
theorem R.me2 {X : M3} {S S' : M2} (h : R X S) (e : ME2 S S') : R X S' := by
  have e0 := e 0 (by decide) (by decide)
  have e2 := e 2 (by decide) (by decide)
  have e3 := e 3 (by decide) (by decide)
  have e4 := e 4 (by decide) (by decide)
  have e11 := e 11 (by decide) (by decide)
  have e12 := e 12 (by decide) (by decide)
  have e17 := e 17 (by decide) (by decide)
  have e20 := e 20 (by decide) (by decide)
  have e21 := e 21 (by decide) (by decide)
  have e22 := e 22 (by decide) (by decide)
  have e23 := e 23 (by decide) (by decide)
  unfold R at h ⊢
  rw [e0, e2, e3, e4, e11, e12, e17, e20, e21, e22, e23]
  exact h
theorem l_snoc {α : Type} (pre rest : List α) (x : α) : pre ++ (x :: rest) = (pre ++ [x]) ++ rest := by rw [List.append_assoc]; rfl
/-- the model lays a bale by a row -/
theorem m_lb_L {n k : Nat} {S1 : M2} (hn : n ≤ 5) (hk : k < 3) (K : Nat → Bool) (hK : ∀ c, c < n → (S1 1 (6 * c + 4) = nI k) = (K c = true)) : ∀ (rest pre : List Nat) (f : Nat) (S : M2), (pre ++ rest).length = n → (∀ x, x ∈ pre ++ rest → x < n) → (pre ++ rest).Nodup → S 3 0 = nI n → (∀ i x, (pre ++ rest)[i]? = some x → S 19 i = nI x) → (∀ x, (∀ c, c ∈ pre.filter K → x ≠ 6 * c + 5) → S 1 x = S1 1 x) → (∀ i b, (pre.filter K)[i]? = some b → S 1 (6 * b + 5) = nI i) → rest.length < f → ∃ S', (∀ kk : M2 → Option M2, fX5_liesBy_L4 (nI k) kk f (nI (pre.filter K).length) (nI pre.length) S = kk S') ∧ (∀ q, q ≠ 1 → S' q = S q) ∧ (∀ x, (∀ c, c ∈ (pre ++ rest).filter K → x ≠ 6 * c + 5) → S' 1 x = S1 1 x) ∧ ∀ i b, ((pre ++ rest).filter K)[i]? = some b → S' 1 (6 * b + 5) = nI i
  | [], pre, f + 1, S, hlen, hlt, hnd, h3, h19, h1, h5, hf => by
    rw [List.append_nil] at hlen
    refine ⟨S, fun kk => ?_, fun _ _ => rfl, ?_, ?_⟩
    · simp (disch := omega) only [fX5_liesBy_L4, lt, jn, q_lit, q_bnd, q_cl, q_le, q_lt, q_eq, pk_mul, nI_add, q_sub, q_div, q_pos, q_neg, q_T, q_F, q_max0, q_flg1, q_flg0, q_min, q_min2, q_bit, q_some, h3]
    · rw [List.append_nil]; exact h1
    · rw [List.append_nil]; exact h5
  | x :: rest, pre, f + 1, S, hlen, hlt, hnd, h3, h19, h1, h5, hf => by
    have hlen' : pre.length + (rest.length + 1) = n := by rw [← hlen, List.length_append, List.length_cons]
    have hfl : (pre.filter K).length ≤ pre.length := List.length_filter_le _ _
    have hx : x < n := hlt x (List.mem_append_right _ List.mem_cons_self)
    have hxp : x ∉ pre := fun h => by
      have := (List.nodup_append.mp hnd).2.2 x h x List.mem_cons_self
      exact this rfl
    have h19x : S 19 pre.length = nI x := h19 pre.length x (by rw [List.getElem?_append_right (Nat.le_refl _), Nat.sub_self]; rfl)
    have hx4 : S 1 (6 * x + 4) = S1 1 (6 * x + 4) := h1 _ fun c _ => by omega
    have hKx := hK x hx
    rw [l_snoc] at hlen hlt hnd h19 ⊢
    by_cases e : K x = true
    · have hf2 : (pre ++ [x]).filter K = pre.filter K ++ [x] := by rw [List.filter_append, List.filter_cons, if_pos e, List.filter_nil]
      obtain ⟨S', a1, a2, a3, a4⟩ := m_lb_L hn hk K hK rest (pre ++ [x]) f (va_up S 1 (upd (S 1) (6 * x + 5) (nI (pre.filter K).length))) hlen hlt hnd h3 h19 (fun y hy => by
        show upd (S 1) (6 * x + 5) (nI (pre.filter K).length) y = _
        rw [q_ud, if_neg (hy x (by rw [hf2]; exact List.mem_append_right _ (List.mem_singleton.mpr rfl)))]
        exact h1 y fun c hc => hy c (by rw [hf2]; exact List.mem_append_left _ hc)) (fun i b hb => by
        show upd (S 1) (6 * x + 5) (nI (pre.filter K).length) (6 * b + 5) = _
        rw [hf2, List.getElem?_append] at hb
        rw [q_ud]
        by_cases e2 : i < (pre.filter K).length
        · rw [if_pos e2] at hb
          have hbp : b ∈ pre := (List.mem_filter.mp (List.mem_of_getElem? hb)).1
          have : b ≠ x := fun q => hxp (q ▸ hbp)
          rw [if_neg (by omega)]
          exact h5 i b hb
        · rw [if_neg e2] at hb
          have e3 : i = (pre.filter K).length := by
            have := l_lt hb
            rw [List.length_singleton] at this
            omega
          subst e3
          rw [Nat.sub_self, List.getElem?_cons_zero, Option.some.injEq] at hb
          rw [if_pos (by omega)]) (by rw [List.length_cons] at hf; omega)
      refine ⟨S', fun kk => ?_, fun q hq => by rw [a2 q hq, q_up, if_neg hq], a3, a4⟩
      have a1 := a1 kk
      rw [hf2, List.length_append, List.length_append, List.length_singleton] at a1
      have hKx' : S1 1 (6 * x + 4) = nI k := by rw [hKx]; exact e
      rw [← a1]
      simp (disch := omega) only [fX5_liesBy_L4, fX5_of, fX5_becomesOf, lt, jn, q_lit, q_bnd, q_cl, q_le, q_lt, q_eq, pk_mul, nI_add, q_sub, q_div, q_pos, q_neg, q_T, q_F, q_max0, q_flg1, q_flg0, q_min, q_min2, q_bit, q_some, h3, h19x, hx4, hKx']
    · have hf2 : (pre ++ [x]).filter K = pre.filter K := by rw [List.filter_append, List.filter_cons, if_neg e, List.filter_nil, List.append_nil]
      obtain ⟨S', a1, a2, a3, a4⟩ := m_lb_L hn hk K hK rest (pre ++ [x]) f S hlen hlt hnd h3 h19 (by rw [hf2]; exact h1) (by rw [hf2]; exact h5) (by rw [List.length_cons] at hf; omega)
      refine ⟨S', fun kk => ?_, a2, a3, a4⟩
      have a1 := a1 kk
      rw [hf2, List.length_append, List.length_singleton] at a1
      have hKx' : ¬ S1 1 (6 * x + 4) = nI k := by rw [hKx]; exact e
      rw [← a1]
      simp (disch := omega) only [fX5_liesBy_L4, fX5_of, fX5_becomesOf, lt, jn, q_lit, q_bnd, q_cl, q_le, q_lt, q_eq, pk_mul, nI_add, q_sub, q_div, q_pos, q_neg, q_T, q_F, q_max0, q_flg1, q_flg0, q_min, q_min2, q_bit, q_some, h3, h19x, hx4, hKx']
theorem filt_perm {n : Nat} {B : BB} (h : WB n B) {k : Nat} (hk : k < 3) {row : List Nat} (hr : row.Perm (List.range n)) : (row.filter (fun x => decide (x ∈ B k))).Perm (B k) := by
  rw [List.perm_iff_count]
  intro a
  have hnr : row.Nodup := hr.symm.nodup List.nodup_range
  have hnf : (row.filter (fun x => decide (x ∈ B k))).Nodup := hnr.filter _
  rw [hnf.count, (h.nodup hk).count]
  have : (a ∈ row.filter (fun x => decide (x ∈ B k))) = (a ∈ B k) := by
    rw [List.mem_filter, decide_eq_true_eq]
    refine propext ⟨fun q => q.2, fun q => ⟨hr.mem_iff.mpr (List.mem_range.mpr (h.lt hk q)), q⟩⟩
  simp only [this]
theorem filt_ex {n : Nat} {B : BB} (h : WB n B) {k : Nat} (hk : k < 3) {q : List Nat} (hq : q.Perm (B k)) : ∃ row : List Nat, row.Perm (List.range n) ∧ row.filter (fun x => decide (x ∈ B k)) = q := by
  refine ⟨q ++ (List.range n).filter (fun x => !decide (x ∈ B k)), ?_, ?_⟩
  · have h1 : q.Perm ((List.range n).filter (fun x => decide (x ∈ B k))) := hq.trans (filt_perm h hk (List.Perm.refl _)).symm
    exact (h1.append_right _).trans (List.filter_append_perm (fun x => decide (x ∈ B k)) (List.range n))
  · rw [List.filter_append, List.filter_filter]
    have e1 : q.filter (fun x => decide (x ∈ B k)) = q := List.filter_eq_self.mpr fun a ha => decide_eq_true (hq.mem_iff.mp ha)
    have e2 : (List.range n).filter (fun a => decide (a ∈ B k) && !decide (a ∈ B k)) = [] := List.filter_eq_nil_iff.mpr fun a _ => by cases decide (a ∈ B k) <;> decide
    rw [e1, e2, List.append_nil]
theorem m_liesBy {N : NN} {B : BB} {S0 S : M2} (hS : MA N B S0 S) (hW : WF N B) {k : Nat} (hk : k < 3) {row : List Nat} (hr : row.Perm (List.range (N 0 0))) (h19 : ∀ i x, row[i]? = some x → S 19 i = nI x) : ∃ S', fX5_liesBy (nI k) S = some S' ∧ MA N (va_up B k (row.filter (fun x => decide (x ∈ B k)))) S0 S' ∧ WF N (va_up B k (row.filter (fun x => decide (x ∈ B k)))) := by
  have hlen : row.length = N 0 0 := by rw [hr.length_eq, List.length_range]
  have hnd : row.Nodup := hr.symm.nodup List.nodup_range
  obtain ⟨S', a1, a2, a3, a4⟩ := m_lb_L (S1 := S) hW.1.1 hk (fun x => decide (x ∈ B k)) (fun c hc => hS.bale hW hk hc) row [] 400 S hlen (fun x hx => List.mem_range.mp (hr.mem_iff.mp hx)) hnd hS.n h19 (fun _ _ => rfl) (fun i b hb => absurd hb (by rw [List.filter_nil, List.getElem?_nil]; exact fun h => nomatch h)) (by have := hW.1.1; omega)
  have hp := filt_perm hW.2.2.2.2 hk hr
  refine ⟨S', ?_, ⟨fun q hq => by rw [a2 q hq]; exact hS.1 q hq, hS.2.1, hS.2.2.1, ?_⟩, hW.bb (hW.2.2.2.2.perm' hp)⟩
  · unfold fX5_liesBy
    exact a1 _
  · obtain ⟨⟨m1, m2, m3, m4⟩, h2, h3, h4, h5⟩ := hS.2.2.2
    have w1 := hW.1
    have o : ∀ x, (∀ c, c < N 0 0 → x ≠ 6 * c + 5) → S' 1 x = S 1 x := fun x hx => a3 x fun c hc => hx c (hW.2.2.2.2.lt hk (hp.mem_iff.mp hc))
    refine ⟨⟨?_, ?_, ?_, ?_⟩, fun b hb => ⟨?_, ?_, ?_, ?_⟩, fun m hm => ⟨?_, ?_, ?_, ?_⟩, fun i hi => ⟨?_, ?_⟩, fun k' hk' i b hb => ?_⟩
    · rw [o _ fun c hc => by omega]; exact m1
    · rw [o _ fun c hc => by omega]; exact m2
    · rw [o _ fun c hc => by omega]; exact m3
    · rw [o _ fun c hc => by omega]; exact m4
    · rw [o _ fun c hc => by omega]; exact (h2 b hb).1
    · rw [o _ fun c hc => by omega]; exact (h2 b hb).2.1
    · rw [o _ fun c hc => by omega]; exact (h2 b hb).2.2.1
    · rw [o _ fun c hc => by omega]; exact (h2 b hb).2.2.2
    · rw [o _ fun c hc => by omega]; exact (h3 m hm).1
    · rw [o _ fun c hc => by omega]; exact (h3 m hm).2.1
    · rw [o _ fun c hc => by omega]; exact (h3 m hm).2.2.1
    · rw [o _ fun c hc => by omega]; exact (h3 m hm).2.2.2
    · rw [o _ fun c hc => by omega]; exact (h4 i hi).1
    · rw [o _ fun c hc => by omega]; exact (h4 i hi).2
    · rw [q_up] at hb
      by_cases e : k' = k
      · rw [if_pos e] at hb
        rw [o _ fun c hc => by omega, e]
        have hbk : b ∈ B k := hp.mem_iff.mp (List.mem_of_getElem? hb)
        obtain ⟨j, hj⟩ := List.mem_iff_getElem?.mp hbk
        exact ⟨(h5 k hk j b hj).1, a4 i b hb⟩
      · rw [if_neg e] at hb
        have hbk : b ∈ B k' := List.mem_of_getElem? hb
        rw [o _ fun c hc => by omega, a3 _ fun c hc => ?_]
        · exact h5 k' hk' i b hb
        · have : c ∈ B k := hp.mem_iff.mp hc
          intro q
          have e2 : b = c := by omega
          exact e (hW.2.2.2.2.uq hk' hk hbk (e2 ▸ this))
def lml (N : NN) (B : BB) (k v : Nat) : List (List Nat) := if isR (N 0 0) v = true then [(dgs (N 0 0) v).filter (fun x => decide (x ∈ B k))] else []
theorem m_lain_L {N : NN} {B : BB} {k : Nat} {Sx : M2} (hk : k < 3) (hW : WF N B) (hM : MS N B (Sx 0)) (h3 : Sx 3 0 = nI (N 0 0)) (h4 : Sx 4 0 = nI (N 7 0)) : ∀ (d v f m : Nat) (S : M2), v + d = N 0 0 ^ N 0 0 → d < f → ME2 Sx S → ∃ S', (∀ kk : (Int32 × M2) → Option (Int32 × M2), fX5_lain_L13 (nI k) kk f (nI m) (nI v) S = kk (nI ((ups (lml N B k) d v).foldl (stp N B k) m), S')) ∧ ME2 Sx S'
  | 0, v, f + 1, m, S, hv, hf, hE => by
    have hp := row_pow hW.1.1
    have h3' : S 3 0 = nI (N 0 0) := by rw [hE 3 (by omega) (by omega)]; exact h3
    have hr := m_rows h3' hW.1.1
    refine ⟨S, fun kk => ?_, hE⟩
    simp (disch := omega) only [fX5_lain_L13, lt, jn, q_lit, q_bnd, q_cl, q_le, q_lt, q_eq, pk_mul, nI_add, q_sub, q_div, q_pos, q_neg, q_T, q_F, q_max0, q_flg1, q_flg0, q_min, q_min2, q_bit, q_some, hr]
    rfl
  | d + 1, v, f + 1, m, S, hv, hf, hE => by
    have hp := row_pow hW.1.1
    have h3' : S 3 0 = nI (N 0 0) := by rw [hE 3 (by omega) (by omega)]; exact h3
    have h4' : S 4 0 = nI (N 7 0) := by rw [hE 4 (by omega) (by omega)]; exact h4
    have hM' : MS N B (S 0) := by rw [hE 0 (by omega) (by omega)]; exact hM
    have hr := m_rows h3' hW.1.1
    obtain ⟨S7, a1, a2, a3⟩ := m_isRow (v := v) h3' hW.1.1 (by omega)
    have hE7 : ME2 Sx S7 := fun q q1 q2 => by rw [a2 q q2]; exact hE q q1 q2
    by_cases e : isR (N 0 0) v = true
    · have hperm : (dgs (N 0 0) v).Perm (List.range (N 0 0)) := chk_perm.mp (by rw [← isR_eq hW.1.1 (by omega)]; exact e)
      obtain ⟨S10, b1, b2⟩ := m_starts (S0 := S7) (S := S7) (fun _ _ => rfl) (by rw [a2 3 (by omega)]; exact h3') (by rw [a2 4 (by omega)]; exact h4') (by rw [a2 0 (by omega)]; exact hM') hW
      obtain ⟨S12, c1, c2, c3⟩ := m_liesBy b2 hW hk hperm (fun i x hx => by rw [b2.1 19 (by omega)]; exact a3 i x hx)
      obtain ⟨S15, l1, l2, l3⟩ := m_nights (n := 1) (by omega) c2 c3
      have hsn : SN N S15 := by
        refine ⟨?_, fun i hi => ?_⟩
        · rw [l2.1 0 (by omega), a2 0 (by omega)]
          exact hM'.1.2.2.2
        · rw [l2.1 0 (by omega), a2 0 (by omega)]
          exact hM'.2.2.2.1 i hi
      have l2' : MA (spPass N (va_up B k ((dgs (N 0 0) v).filter (fun x => decide (x ∈ B k)))) 15) (va_up B k ((dgs (N 0 0) v).filter (fun x => decide (x ∈ B k)))) S7 S15 := l2
      have l3' : WF (spPass N (va_up B k ((dgs (N 0 0) v).filter (fun x => decide (x ∈ B k)))) 15) (va_up B k ((dgs (N 0 0) v).filter (fun x => decide (x ∈ B k)))) := l3
      have hs := m_seenN l2' l3' hsn (st := 0) (by omega)
      clear l2' l3'
      have hE15 : ME2 Sx S15 := fun q q1 q2 => by rw [l2.1 q q1]; exact hE7 q q1 q2
      have hml : lml N B k v = [(dgs (N 0 0) v).filter (fun x => decide (x ∈ B k))] := if_pos e
      rw [ups, List.foldl_append, hml, List.foldl_cons, List.foldl_nil]
      generalize hq : (dgs (N 0 0) v).filter (fun x => decide (x ∈ B k)) = q at c2 c3 l2 l3 hs
      rw [e] at a1
      cases q with
      | nil =>
        have hb := m_boltNo c2 c3 hk (i := 0) (by omega) (by rw [q_up, if_pos rfl]; rfl)
        obtain ⟨S', r1, r2⟩ := m_lain_L hk hW hM h3 h4 d (v + 1) f m S15 (by omega) (by omega) hE15
        refine ⟨S', fun kk => ?_, r2⟩
        rw [stp, ← r1 kk]
        have e0 : nI m ||| nI 0 = nI m := by rw [q_or, Nat.or_zero]
        have hb' : fX5_boltAt (nI k) (nI 0) S12 = some (-nI 4) := hb
        simp (disch := omega) only [fX5_lain_L13, lt, jn, q_lit, q_bnd, q_cl, q_le, q_lt, q_eq, pk_mul, nI_add, q_sub, q_div, q_pos, q_neg, q_T, q_F, q_max0, q_flg1, q_flg0, q_min, q_min2, q_bit, q_some, hr, a1, Bool.toNat_true, b1, c1, hb', l1, e0]
      | cons t l =>
        have hb := m_boltAt c2 c3 hk (i := 0) (b := t) (by rw [q_up, if_pos rfl]; rfl)
        have htn : t < N 0 0 := c3.2.2.2.2.lt hk (b := t) (by rw [q_up, if_pos rfl]; exact List.mem_cons_self)
        have hw1 := hW.1.1
        have ht4 := m4_ne t (by omega)
        by_cases es : spSeen (spNight N (va_up B k (t :: l)) 15) 0 (N 15 0) 0 = true
        · obtain ⟨S', r1, r2⟩ := m_lain_L hk hW hM h3 h4 d (v + 1) f (m ||| 2 ^ t) S15 (by omega) (by omega) hE15
          refine ⟨S', fun kk => ?_, r2⟩
          rw [es] at hs
          rw [stp, if_pos es, ← r1 kk]
          simp (disch := omega) only [fX5_lain_L13, lt, jn, q_F, q_lit, q_le, q_eq, q_neg, q_some, nI_add, hr, a1, Bool.toNat_true, b1, c1, hb, ht4, l1, hs, q_shl, q_or]
        · obtain ⟨S', r1, r2⟩ := m_lain_L hk hW hM h3 h4 d (v + 1) f m S15 (by omega) (by omega) hE15
          refine ⟨S', fun kk => ?_, r2⟩
          have es' : spSeen (spNight N (va_up B k (t :: l)) 15) 0 (N 15 0) 0 = false := by simpa using es
          rw [es'] at hs
          rw [stp, if_neg es, ← r1 kk]
          have e0 : nI m ||| nI 0 = nI m := by rw [q_or, Nat.or_zero]
          simp (disch := omega) only [fX5_lain_L13, lt, jn, q_F, q_lit, q_le, q_eq, q_neg, q_some, nI_add, hr, a1, Bool.toNat_true, Bool.toNat_false, b1, c1, hb, ht4, l1, hs, q_T, e0]
    · have e' : isR (N 0 0) v = false := by simpa using e
      have hml : lml N B k v = [] := if_neg e
      obtain ⟨S', r1, r2⟩ := m_lain_L hk hW hM h3 h4 d (v + 1) f m S7 (by omega) (by omega) hE7
      refine ⟨S', fun kk => ?_, r2⟩
      rw [ups, hml, List.nil_append, ← r1 kk]
      rw [e'] at a1
      simp (disch := omega) only [fX5_lain_L13, lt, jn, q_lit, q_bnd, q_cl, q_le, q_lt, q_eq, pk_mul, nI_add, q_sub, q_div, q_pos, q_neg, q_T, q_F, q_max0, q_flg1, q_flg0, q_min, q_min2, q_bit, q_some, hr, a1, Bool.toNat_false]
theorem k_lain {X : M3} {S : M2} (h : R X S) (x : Int32) : ∃ a X' S', fX4_lain x X = some (a, X') ∧ fX5_lain x S = some (a, S') ∧ R X' S' := by
  obtain ⟨N, B, hW, hn, hC, hM, e3, e4, hN, hK⟩ := h.data
  have w1 := hW.1
  have hp := row_pow w1.1
  have eb : fX5_isBale x = fX4_isBale x := m_isBale x
  rcases t_isBale x with ⟨k, hk, rfl, h1⟩ | ⟨-, h1⟩
  · rw [h1] at eb
    obtain ⟨S', r1, r2⟩ := m_lain_L hk hW hM e3 e4 (N 0 0 ^ N 0 0) 0 4000 0 S (by omega) (by omega) (fun _ _ _ => rfl)
    obtain ⟨Q, c1, c2⟩ := t_copy (X 11) hC hW
    have h6 := (hC.2.2.2.2 k hk).1
    have hle := hW.2.2.2.2.le hk
    -- the two lists have the same orders
    have hmem : ∀ q, q ∈ po 7 0 (B k) ↔ q ∈ ups (lml N B k) (N 0 0 ^ N 0 0) 0 := by
      intro q
      rw [po_mem (hW.2.2.2.2.nodup hk) (Nat.zero_le _) (by omega), ups_mem]
      constructor
      · rintro ⟨g1, -⟩
        obtain ⟨row, g2, g3⟩ := filt_ex hW.2.2.2.2 hk g1
        obtain ⟨v, g4, g5⟩ := row_ex g2
        refine ⟨v, by omega, by omega, ?_⟩
        unfold lml
        rw [isR_eq w1.1 g4, g5, chk_perm.mpr g2, if_pos rfl, g3]
        exact List.mem_singleton.mpr rfl
      · rintro ⟨v, -, g2, g3⟩
        unfold lml at g3
        by_cases e : isR (N 0 0) v = true
        · rw [if_pos e] at g3
          rw [List.mem_singleton.mp g3]
          exact ⟨filt_perm hW.2.2.2.2 hk (chk_perm.mp (by rw [← isR_eq w1.1 (by omega)]; exact e)), fun j hj => absurd hj (Nat.not_lt_zero j)⟩
        · rw [if_neg e] at g3
          exact absurd g3 List.not_mem_nil
    have hfold := fold_cg (N := N) (B := B) (k := k) hmem
    have mo : fX5_lain (nI k) S = some (nI ((po 7 0 (B k)).foldl (stp N B k) 0), S') := by
      rw [hfold]
      have := r1 (fun p28 => some (p28.1, p28.2))
      simp (disch := omega) only [fX5_lain, lt, q_lit, q_some, eb, q_eq, q_neg]
      exact this
    have cl : ∃ T' Q', fX0_findTops (nI k) (X 10) (X 11) (X 2) = some (nI ((po 7 0 (B k)).foldl (stp N B k) 0), (T', Q')) := by
      by_cases e0 : (B k).length = 0
      · have hnil : B k = [] := List.length_eq_zero_iff.mp e0
        refine ⟨va_up (X 10) 5 (fun _ => nI 0), Q, ?_⟩
        have hz : ((po 7 0 (B k)).foldl (stp N B k) 0) = 0 := by
          rw [hnil]
          rfl
        rw [hz]
        simp (disch := omega) only [fX0_findTops, lt, q_lit, q_some, q_bnd, q_cl, c1, h6, q_le, q_pos, q_up, q_T]
      · obtain ⟨T', Q', d1, -, d3⟩ := t_ord hC hW hk 7 0 (B k) (va_up (X 10) 5 (fun _ => nI 0)) Q 0 (List.Perm.refl _) (by omega) (by omega) (by omega) ⟨N 3, by rw [up_id, up_id]; exact ⟨c2, hW⟩⟩ rfl
        refine ⟨T', Q', ?_⟩
        rw [Nat.add_zero] at d1
        simp (disch := omega) only [fX0_findTops, lt, q_lit, q_some, q_bnd, q_cl, c1, h6, q_le, q_neg, pk_mul, nI_add, d1, d3]
    obtain ⟨T', Q', cl⟩ := cl
    refine ⟨_, va_up (va_up X 10 T') 11 Q', S', ?_, mo, (h.xe fun k a1 a2 a3 => by rw [q_up, if_neg a3, q_up, if_neg a2]).me2 r2⟩
    simp (disch := omega) only [fX4_lain, lt, q_lit, q_some, h1, q_eq, q_neg, cl]
  · rw [h1] at eb
    refine ⟨-1, X, S, ?_, ?_, h⟩
    · simp (disch := omega) only [fX4_lain, lt, jn, q_lit, q_bnd, q_cl, q_le, q_lt, q_eq, pk_mul, nI_add, q_sub, q_div, q_pos, q_neg, q_T, q_F, q_max0, q_flg1, q_flg0, q_min, q_min2, q_bit, q_some, h1]
    · simp (disch := omega) only [fX5_lain, lt, jn, q_lit, q_bnd, q_cl, q_le, q_lt, q_eq, pk_mul, nI_add, q_sub, q_div, q_pos, q_neg, q_T, q_F, q_max0, q_flg1, q_flg0, q_min, q_min2, q_bit, q_some, eb]
