/-! best, the class -/
def CS0 (N : NN) (S : M2) : Prop :=
  (S 0 0 = nI (N 0 0) ∧ S 4 0 = nI (N 4 0) ∧ S 7 0 = nI (N 7 0) ∧ S 12 0 = nI (N 12 0) ∧ S 13 0 = nI (N 13 0) ∧ S 14 0 = nI (N 14 0) ∧ S 15 0 = nI (N 15 0)) ∧
  (∀ b, b < N 0 0 → S 1 b = nI (N 1 b) ∧ S 2 b = nI (N 2 b) ∧ S 3 b = nI (N 3 b)) ∧
  (∀ m, m < N 7 0 → S 8 m = nI (N 8 m) ∧ S 9 m = nI (N 9 m) ∧ S 10 m = nI (N 10 m) ∧ S 11 m = nI (N 11 m)) ∧
  (∀ i, i < N 15 0 → S 16 i = nI (N 16 i) ∧ S 17 i = nI (N 17 i))
theorem CS.to0 {N : NN} {B : BB} {S : M2} (h : CS N B S) : CS0 N S := ⟨h.1, h.2.1, h.2.2.1, h.2.2.2.1⟩
theorem CS0.of5 {N : NN} {S : M2} {f g : Nat → Int32} (h : CS0 N S) : CS0 N (va_up (va_up S 5 f) 6 g) := h
noncomputable def DD (N : NN) (n : Nat) (c : List Nat) : Nat := spAll (spNight N (trc n c) 15) (trc n c)
theorem WF.loose {N : NN} {B : BB} (hW : WF N B) (fl : Nat) : ∀ t, t ≤ N 7 0 → WF (va_up N 3 (spLoose N B fl t)) B
  | 0, _ => by rw [spLoose, up_id]; exact hW
  | t + 1, ht => by
    have ih := hW.loose fl t (by omega)
    rw [spLoose]
    by_cases e : fl.testBit t = true
    · rw [if_pos e]
      refine WF.eat _ _ _ (fun b hb => hW.2.2.2.2.lt (k := N 11 t) ?_ hb) ih
      have := hW.2.2.1 t (by omega)
      omega
    · rw [if_neg e]
      exact ih
theorem DD_le {N : NN} {B : BB} {c : List Nat} (hW : WF N B) (hc : ∃ B', FD (N 0 0) c B') : DD N (N 0 0) c ≤ 405 := by
  obtain ⟨B', h⟩ := hc
  exact spAll_le ((hW.bb (trc_fd h).2.1).loose 15 _ (Nat.le_refl _))
theorem spLoose_cg {N : NN} {B B' : BB} {fl : Nat} (hm : ∀ m, m < N 7 0 → N 11 m ≤ 2) (e : ∀ k, k < 3 → B' k = B k) : ∀ t, t ≤ N 7 0 → spLoose N B' fl t = spLoose N B fl t
  | 0, _ => rfl
  | t + 1, ht => by
    have := hm t (by omega)
    rw [spLoose, spLoose, spLoose_cg hm e t (by omega), e (N 11 t) (by omega)]
theorem spAll_cg {N : NN} {B B' : BB} (hm : ∀ m, m < N 7 0 → N 11 m ≤ 2) (e : ∀ k, k < 3 → B' k = B k) : spAll (spNight N B' 15) B' = spAll (spNight N B 15) B := by
  have e1 : spNight N B' 15 = spNight N B 15 := by
    unfold spNight
    rw [spLoose_cg hm e _ (Nat.le_refl _)]
  rw [e1]
  unfold spAll
  rw [e 0 (by omega), e 1 (by omega), e 2 (by omega)]
def PS (N : NN) (i : Nat) (h : Nat → Nat) (c : List Nat) (ta : Nat) (T S : M2) : Prop := (∃ g, CS0 (va_up N 3 g) S) ∧ T 4 0 = nI ta ∧ ta < 2 ^ 15 ∧ (∀ k, k < 3 → S 6 k = nI (h k)) ∧ ∀ b, b < i → T 1 b = nI (c.getD b 0) ∧ S 5 (spot (c.getD b 0)) = nI b
def BSt (n : Nat) (T : M2) (st : Nat × List Nat) : Prop := T 3 0 = nI st.1 ∧ st.1 ≤ 406 ∧ (st.1 < 406 → ∀ b, b < n → T 2 b = nI (st.2.getD b 0))
theorem q_x9 {a b : Nat} {d : Decidable (nI 0 < nI a - nI b)} (h : a < 2 ^ 30 ∧ b < 2 ^ 30) : @ite Int32 (nI 0 < nI a - nI b) d (nI a - nI b) (nI 0) = nI (a - b) := by
  by_cases e : b ≤ a
  · have e1 : nI a - nI b = nI (a - b) := q_sub e
    by_cases e2 : nI 0 < nI a - nI b
    · rw [if_pos e2, e1]
    · rw [if_neg e2]
      rw [e1, q_lt (by omega)] at e2
      rw [show a - b = 0 by omega]
  · have e1 : ¬ nI 0 < nI a - nI b := by
      rw [Int32.lt_iff_toInt_lt, pk_sub_toInt (by omega) (by omega), nI_toInt (by decide)]
      omega
    rw [if_neg e1, show a - b = 0 by omega]
theorem q_clear {ta sp : Nat} (h : ta.testBit sp = false) : nI (ta ||| 2 ^ sp) &&& (nI (2 ^ sp) ^^^ (-nI 1)) = nI ta := by
  apply Int32.toBitVec_inj.1
  show BitVec.ofNat 32 (ta ||| 2 ^ sp) &&& (BitVec.ofNat 32 (2 ^ sp) ^^^ BitVec.allOnes 32) = BitVec.ofNat 32 ta
  apply BitVec.eq_of_getLsbD_eq
  intro i hi
  simp only [BitVec.getLsbD_and, BitVec.getLsbD_xor, BitVec.getLsbD_ofNat, BitVec.getLsbD_allOnes, hi, decide_true, Bool.true_and, Nat.testBit_or, Nat.testBit_two_pow]
  by_cases e : sp = i
  · subst e
    rw [h]
    simp
  · simp [e]
/-- all bolts are placed -/
theorem t_weigh {N : NN} {B : BB} {X2 T S : M2} {s ta : Nat} {h : Nat → Nat} {c : List Nat} {st : Nat × List Nat} (hX : CS N B X2) (hW : WF N B) (hp : PI (N 0 0) (N 0 0) s h ta c) (hS : PS N (N 0 0) h c ta T S) (hB : BSt (N 0 0) T st) : ∃ T' S', fX0_weighFolding T S X2 = some (T', S') ∧ PS N (N 0 0) h c ta T' S' ∧ BSt (N 0 0) T' (cst (DD N (N 0 0)) st c) := by
  obtain ⟨B', f1, f2⟩ := hp.end
  have hF := trc_fd f1
  have hlen : ∀ k, k < 3 → (trc (N 0 0) c k).length = h k := fun k hk => by rw [f1.uq hF k hk]; exact f2 k hk
  obtain ⟨⟨g, s1⟩, s2, s3, s4, s5⟩ := hS
  obtain ⟨b1, b2, b3⟩ := hB
  have hn := hW.1.1
  have hC : CS (va_up N 3 g) (trc (N 0 0) c) S := by
    refine ⟨s1.1, s1.2.1, s1.2.2.1, s1.2.2.2, fun k hk => ⟨by rw [hlen k hk]; exact s4 k hk, fun i b hb => ?_⟩⟩
    have hi := hF.lt hk hb
    obtain ⟨hbn, hc⟩ := (hF.2.2.2 k i b hk (by omega)).mp hb
    have := (s5 b hbn).2
    rw [hc, spot_k (by omega)] at this
    exact this
  have hW' : WF N (trc (N 0 0) c) := hW.bb hF.2.1
  obtain ⟨S1, a1, a2⟩ := t_copyHoles hC (fun b hb => (hX.2.1 b hb).2.2) hn
  obtain ⟨S2, c1, c2, c3⟩ := t_loose (fl := 15) (by omega) a2 hW'
  have hd := t_dutyAll c2 c3
  have hd' : fX1_dutyOfAll S2 = some (nI (DD N (N 0 0) c)) := hd
  have hle : DD N (N 0 0) c ≤ 405 := DD_le hW ⟨_, f1⟩
  have hPS : ∀ T', T' 4 = T 4 → T' 1 = T 1 → PS N (N 0 0) h c ta T' S2 := by
    intro T' t4 t1
    refine ⟨⟨_, c2.to0⟩, by rw [t4]; exact s2, s3, fun k hk => ?_, fun b hb => ⟨by rw [t1]; exact (s5 b hb).1, ?_⟩⟩
    · rw [(c2.2.2.2.2 k hk).1, hlen k hk]
    · obtain ⟨k, i, hk, hi, hx, hc⟩ := hF.at hb
      rw [hc, spot_k (by omega)]
      exact (c2.2.2.2.2 k hk).2 i b hx
  by_cases e : st.1 ≤ DD N (N 0 0) c
  · have ec : cst (DD N (N 0 0)) st c = st := if_pos e
    refine ⟨T, S2, ?_, hPS T rfl rfl, by rw [ec]; exact ⟨b1, b2, b3⟩⟩
    simp (disch := omega) only [fX0_weighFolding, lt, q_some, a1, c1, hd', b1, q_le, q_lit, q_pos]
  · have ec : cst (DD N (N 0 0)) st c = (DD N (N 0 0) c, c) := if_neg e
    refine ⟨va_up (va_up T 3 (fun _ => nI (DD N (N 0 0) c))) 2 (va_cpy (T 1) (T 2) 0 0 5), S2, ?_, hPS _ rfl rfl, ?_⟩
    · simp (disch := omega) only [fX0_weighFolding, lt, q_some, a1, c1, hd', b1, q_le, q_lit, q_neg]
      rfl
    · rw [ec]
      refine ⟨rfl, by show DD N (N 0 0) c ≤ 406; omega, fun _ b hb => ?_⟩
      show va_cpy (T 1) (T 2) 0 0 5 b = _
      rw [q_cpy (by omega)]
      exact (s5 b hb).1
theorem t_pl38 {N : NN} {n f i s k ta : Nat} {h : Nat → Nat} {c : List Nat} {X2 T0 S0 : M2} (hX0 : X2 0 0 = nI n) (hk : k < 3) (hi : i < n) (hp : PI n i s h ta c) (D : List Nat → Nat) (IH : ∀ (l : Nat) (T S : M2) (st : Nat × List Nat), l < n → ta.testBit (k * 5 + l) = false → ¬ n < s + (l + 1 - h k) → PS N (i + 1) (va_up h k (h k + (l + 1 - h k))) (c ++ [10 * k + l]) (ta ||| 2 ^ (k * 5 + l)) T S → BSt n T st → ∃ T' S', fX0_placeFrom f (nI (i + 1)) (nI (s + (l + 1 - h k))) T S X2 = some (T', S') ∧ PS N (i + 1) (va_up h k (h k + (l + 1 - h k))) (c ++ [10 * k + l]) (ta ||| 2 ^ (k * 5 + l)) T' S' ∧ BSt n T' ((lc n f (i + 1) (s + (l + 1 - h k)) (va_up h k (h k + (l + 1 - h k))) (ta ||| 2 ^ (k * 5 + l)) (c ++ [10 * k + l])).foldl (cst D) st)) : ∀ (d l g : Nat) (T S : M2) (st : Nat × List Nat), l + d = n → d < g → PS N i h c ta T S → BSt n T st → ∃ T' S', (∀ kk : (M2 × M2) → Option (M2 × M2), fX0_placeFrom_L38 T0 S0 (nI i) (nI s) X2 (fun i2 i3 T S => fX0_placeFrom f i2 i3 T S X2) (nI k) (nI (h k)) kk g (nI l) T S = kk (T', S')) ∧ PS N i h c ta T' S' ∧ BSt n T' ((ups (fun l => if ta.testBit (k * 5 + l) = true then [] else if n < s + (l + 1 - h k) then [] else lc n f (i + 1) (s + (l + 1 - h k)) (va_up h k (h k + (l + 1 - h k))) (ta ||| 2 ^ (k * 5 + l)) (c ++ [10 * k + l])) d l).foldl (cst D) st)
  | 0, l, g + 1, T, S, st, hl, hg, hS, hB => by
    have hn5 := hp.2.2.2.2.2
    refine ⟨T, S, fun kk => ?_, hS, hB⟩
    simp (disch := omega) only [fX0_placeFrom_L38, lt, jn, q_lit, q_bnd, q_cl, q_le, q_lt, q_eq, pk_mul, nI_add, q_sub, q_div, q_pos, q_neg, q_T, q_F, q_max0, q_flg1, q_flg0, q_min, q_min2, q_bit, q_some, hX0]
  | d + 1, l, g + 1, T, S, st, hl, hg, hS, hB => by
    have hn5 := hp.2.2.2.2.2
    have hsn := hp.2.2.2.2.1
    have hsum := hp.2.2.2.1
    have hhk : h k ≤ 5 := by rcases wb_cases hk with rfl | rfl | rfl <;> omega
    rw [ups, List.foldl_append]
    have e4 := hS.2.1
    have ta15 := hS.2.2.1
    have tb31 : ta < 2 ^ 31 := Nat.lt_trans ta15 (by decide)
    by_cases e1 : ta.testBit (k * 5 + l) = true
    · rw [if_pos e1, List.foldl_nil]
      obtain ⟨T', S', r1, r2⟩ := t_pl38 (T0 := T0) (S0 := S0) hX0 hk hi hp D IH d (l + 1) g T S st (by omega) (by omega) hS hB
      refine ⟨T', S', fun kk => ?_, r2⟩
      rw [← r1 kk]
      have hb : (nI ta >>> (nI (k * 5 + l) &&& nI 31)) &&& nI 1 = nI 1 := by rw [q_bit (by omega), e1]; rfl
      simp (disch := omega) only [fX0_placeFrom_L38, lt, jn, q_lit, q_le, q_neg, q_T, q_F, pk_mul, nI_add, hX0, e4, hb, q_eq, q_pos]
    · have e1' : ta.testBit (k * 5 + l) = false := by simpa using e1
      have hb : (nI ta >>> (nI (k * 5 + l) &&& nI 31)) &&& nI 1 = nI 0 := by rw [q_bit (by omega), e1']; rfl
      rw [if_neg e1]
      by_cases e2 : n < s + (l + 1 - h k)
      · rw [if_pos e2, List.foldl_nil]
        obtain ⟨T', S', r1, r2⟩ := t_pl38 (T0 := T0) (S0 := S0) hX0 hk hi hp D IH d (l + 1) g T S st (by omega) (by omega) hS hB
        refine ⟨T', S', fun kk => ?_, r2⟩
        rw [← r1 kk]
        simp (disch := omega) only [fX0_placeFrom_L38, lt, jn, q_lit, q_le, q_lt, q_neg, q_T, q_F, pk_mul, nI_add, hX0, e4, hb, q_eq, q_pos, q_x9]
      · rw [if_neg e2]
        by_cases e3 : st.1 = 0
        · rw [cst_0 D e3]
          obtain ⟨T', S', r1, r2⟩ := t_pl38 (T0 := T0) (S0 := S0) hX0 hk hi hp D IH d (l + 1) g T S st (by omega) (by omega) hS hB
          refine ⟨T', S', fun kk => ?_, r2⟩
          rw [← r1 kk]
          have b1 : T 3 0 = nI 0 := by rw [hB.1, e3]
          simp (disch := omega) only [fX0_placeFrom_L38, lt, jn, q_lit, q_le, q_lt, q_neg, q_T, q_F, pk_mul, nI_add, hX0, e4, hb, q_eq, q_pos, q_x9, b1]
        · obtain ⟨⟨g0, s1⟩, s2, s3, s4, s5⟩ := id hS
          obtain ⟨b1, b2, b3⟩ := id hB
          have hsp : spot (10 * k + l) = k * 5 + l := spot_k (by omega)
          have hcl := hp.1
          have sp15 : 2 ^ (k * 5 + l) < 2 ^ 15 := Nat.pow_lt_pow_right (by decide) (by omega)
          have hS' : PS N (i + 1) (va_up h k (h k + (l + 1 - h k))) (c ++ [10 * k + l]) (ta ||| 2 ^ (k * 5 + l)) (va_up (va_up T 4 (fun _ => nI (ta ||| 2 ^ (k * 5 + l)))) 1 (upd (T 1) i (nI (10 * k + l)))) (va_up (va_up S 5 (upd (S 5) (k * 5 + l) (nI i))) 6 (upd (S 6) k (nI (h k + (l + 1 - h k))))) := by
            refine ⟨⟨g0, s1⟩, rfl, Nat.or_lt_two_pow s3 sp15, fun k' hk' => ?_, fun b hb => ?_⟩
            · show upd (S 6) k (nI (h k + (l + 1 - h k))) k' = _
              rw [q_ud, q_up]
              by_cases q : k' = k
              · rw [if_pos q, if_pos q]
              · rw [if_neg q, if_neg q]
                exact s4 k' hk'
            · show upd (T 1) i (nI (10 * k + l)) b = _ ∧ upd (S 5) (k * 5 + l) (nI i) (spot ((c ++ [10 * k + l]).getD b 0)) = _
              rw [q_ud, q_ud]
              by_cases q : b < i
              · obtain ⟨p1, p2, p3⟩ := hp.2.2.1 b q
                rw [gd_l (by omega), if_neg (by omega)]
                have : spot (c.getD b 0) ≠ k * 5 + l := fun q2 => by
                  rw [q2, e1'] at p3
                  exact absurd p3 (by decide)
                rw [if_neg this]
                exact s5 b q
              · have : b = i := by omega
                rw [gd_r (by omega), hsp, if_pos this, if_pos rfl, this]
                exact ⟨rfl, rfl⟩
          obtain ⟨T2, S2, c1, c2, c3⟩ := IH l _ _ st (by omega) e1' e2 hS' ⟨b1, b2, b3⟩
          obtain ⟨⟨g2, d1⟩, d2, d3, d4, d5⟩ := c2
          have hSb : PS N i h c ta (va_up T2 4 (fun _ => nI ta)) (va_up S2 6 (upd (S2 6) k (nI (h k)))) := by
            refine ⟨⟨g2, d1⟩, rfl, s3, fun k' hk' => ?_, fun b hb => ?_⟩
            · show upd (S2 6) k (nI (h k)) k' = _
              rw [q_ud]
              by_cases q : k' = k
              · rw [if_pos q, q]
              · rw [if_neg q, d4 k' hk', q_up, if_neg q]
            · have := d5 b (by omega)
              rw [gd_l (by omega)] at this
              exact this
          obtain ⟨T', S', r1, r2⟩ := t_pl38 (T0 := T0) (S0 := S0) hX0 hk hi hp D IH d (l + 1) g _ _ _ (by omega) (by omega) hSb c3
          refine ⟨T', S', fun kk => ?_, r2⟩
          rw [← r1 kk]
          have b1n : ¬ nI st.1 = nI 0 := by rw [q_eq (by omega)]; exact e3
          have hsh : nI ta ||| (nI 1 <<< (nI (k * 5 + l) &&& nI 31)) = nI (ta ||| 2 ^ (k * 5 + l)) := by rw [q_shl (by omega), q_or]
          have hcr : nI (ta ||| 2 ^ (k * 5 + l)) &&& ((nI 1 <<< (nI (k * 5 + l) &&& nI 31)) ^^^ (-nI 1)) = nI ta := by rw [q_shl (by omega)]; exact q_clear e1'
          have t1 : ∀ f, va_up T 4 f 1 = T 1 := fun _ => rfl
          have s6 : ∀ f, va_up S 5 f 6 = S 6 := fun _ => rfl
          simp (disch := omega) only [fX0_placeFrom_L38, lt, jn, q_lit, q_le, q_lt, q_neg, q_T, q_F, q_bnd, q_cl, q_some, pk_mul, nI_add, hX0, e4, hb, q_eq, q_pos, q_x9, b1, b1n, hsh, t1, s6, c1, d2, hcr]
theorem t_pl17 {N : NN} {n f i s ta : Nat} {h : Nat → Nat} {c : List Nat} {X2 T0 S0 : M2} (hX0 : X2 0 0 = nI n) (hi : i < n) (hp : PI n i s h ta c) (D : List Nat → Nat) (IH : ∀ (k l : Nat) (T S : M2) (st : Nat × List Nat), k < 3 → l < n → ta.testBit (k * 5 + l) = false → ¬ n < s + (l + 1 - h k) → PS N (i + 1) (va_up h k (h k + (l + 1 - h k))) (c ++ [10 * k + l]) (ta ||| 2 ^ (k * 5 + l)) T S → BSt n T st → ∃ T' S', fX0_placeFrom f (nI (i + 1)) (nI (s + (l + 1 - h k))) T S X2 = some (T', S') ∧ PS N (i + 1) (va_up h k (h k + (l + 1 - h k))) (c ++ [10 * k + l]) (ta ||| 2 ^ (k * 5 + l)) T' S' ∧ BSt n T' ((lc n f (i + 1) (s + (l + 1 - h k)) (va_up h k (h k + (l + 1 - h k))) (ta ||| 2 ^ (k * 5 + l)) (c ++ [10 * k + l])).foldl (cst D) st)) : ∀ (d k g : Nat) (T S : M2) (st : Nat × List Nat), k + d = 3 → d < g → PS N i h c ta T S → BSt n T st → ∃ T' S', (∀ kk : (M2 × M2) → Option (M2 × M2), fX0_placeFrom_L17 T0 S0 (nI i) (nI s) X2 (fun i2 i3 T S => fX0_placeFrom f i2 i3 T S X2) kk g (nI k) T S = kk (T', S')) ∧ PS N i h c ta T' S' ∧ BSt n T' ((ups (fun k => ups (fun l => if ta.testBit (k * 5 + l) = true then [] else if n < s + (l + 1 - h k) then [] else lc n f (i + 1) (s + (l + 1 - h k)) (va_up h k (h k + (l + 1 - h k))) (ta ||| 2 ^ (k * 5 + l)) (c ++ [10 * k + l])) n 0) d k).foldl (cst D) st)
  | 0, k, g + 1, T, S, st, hl, hg, hS, hB => by
    refine ⟨T, S, fun kk => ?_, hS, hB⟩
    have : k = 3 := by omega
    subst this
    simp (disch := omega) only [fX0_placeFrom_L17, lt, jn, q_lit, q_bnd, q_cl, q_le, q_lt, q_eq, pk_mul, nI_add, q_sub, q_div, q_pos, q_neg, q_T, q_F, q_max0, q_flg1, q_flg0, q_min, q_min2, q_bit, q_some]
  | d + 1, k, g + 1, T, S, st, hl, hg, hS, hB => by
    have hn5 := hp.2.2.2.2.2
    rw [ups, List.foldl_append]
    obtain ⟨T2, S2, a1, a2, a3⟩ := t_pl38 (T0 := T0) (S0 := S0) hX0 (show k < 3 by omega) hi hp D (fun l T S st => IH k l T S st (by omega)) n 0 400 T S st (by omega) (by omega) hS hB
    obtain ⟨T', S', r1, r2⟩ := t_pl17 (T0 := T0) (S0 := S0) hX0 hi hp D IH d (k + 1) g T2 S2 _ (by omega) (by omega) a2 a3
    refine ⟨T', S', fun kk => ?_, r2⟩
    rw [← r1 kk]
    have e6 := hS.2.2.2.1 k (by omega)
    simp (disch := omega) only [fX0_placeFrom_L17, lt, q_lit, q_le, q_neg, q_bnd, q_cl, e6, a1, nI_add]
theorem t_place {N : NN} {B : BB} {X2 : M2} (hX : CS N B X2) (hW : WF N B) : ∀ (f i s ta : Nat) (h : Nat → Nat) (c : List Nat) (T S : M2) (st : Nat × List Nat), PI (N 0 0) i s h ta c → i ≤ N 0 0 → N 0 0 < i + f → PS N i h c ta T S → BSt (N 0 0) T st → ∃ T' S', fX0_placeFrom f (nI i) (nI s) T S X2 = some (T', S') ∧ PS N i h c ta T' S' ∧ BSt (N 0 0) T' ((lc (N 0 0) f i s h ta c).foldl (cst (DD N (N 0 0))) st)
  | 0, i, s, ta, h, c, T, S, st, hp, hi, hf, hS, hB => absurd hf (by omega)
  | f + 1, i, s, ta, h, c, T, S, st, hp, hi, hf, hS, hB => by
    have hX0 : X2 0 0 = nI (N 0 0) := hX.1.1
    have hn := hW.1.1
    rw [lc]
    by_cases e : i < N 0 0
    · rw [if_pos e]
      obtain ⟨T', S', r1, r2⟩ := t_pl17 (T0 := T) (S0 := S) hX0 e hp (DD N (N 0 0)) (fun k l T S st hk hl ht hs hS hB => t_place hX hW f (i + 1) _ _ _ _ T S st (hp.step hk hl ht hs) e (by omega) hS hB) 3 0 400 T S st (by omega) (by omega) hS hB
      refine ⟨T', S', ?_, r2⟩
      have := r1 (fun p29 => some (p29.1, p29.2))
      simp (disch := omega) only [fX0_placeFrom, q_lt, q_pos, hX0]
      exact this
    · rw [if_neg e]
      have e' : i = N 0 0 := by omega
      subst e'
      obtain ⟨T', S', a1, a2⟩ := t_weigh hX hW hp hS hB
      refine ⟨T', S', ?_, a2⟩
      simp (disch := omega) only [fX0_placeFrom, lt, q_lt, q_neg, hX0, a1, q_some]
theorem t_findBest {N : NN} {B : BB} {X2 : M2} (hX : CS N B X2) (hW : WF N B) (T S : M2) : ∃ T' S', fX0_findBest T S X2 = some (T', S') ∧ BSt (N 0 0) T' ((LC (N 0 0)).foldl (cst (DD N (N 0 0))) (406, [])) := by
  obtain ⟨Q, c1, c2⟩ := t_copy S hX hW
  have L : ∀ (S : M2) (f : Nat) (kk : (M2 × M2) → Option (M2 × M2)), fX0_findBest_L10 T X2 kk (f + 4) (nI 0) T S = kk (T, va_up S 6 (upd (upd (upd (S 6) 0 (nI 0)) 1 (nI 0)) 2 (nI 0))) := by
    intro S f kk
    simp (disch := omega) only [fX0_findBest_L10, lt, jn, q_lit, q_bnd, q_cl, q_le, q_lt, q_eq, pk_mul, nI_add, q_sub, q_div, q_pos, q_neg, q_T, q_F, q_max0, q_flg1, q_flg0, q_min, q_min2, q_bit, q_some, q_up, up_up]
  have hS : PS N 0 (fun _ => 0) [] 0 (va_up (va_up T 3 (fun _ => nI 406)) 4 (fun _ => nI 0)) (va_up Q 6 (upd (upd (upd (Q 6) 0 (nI 0)) 1 (nI 0)) 2 (nI 0))) := by
    refine ⟨⟨N 3, by rw [up_id]; exact c2.to0⟩, rfl, by decide, fun k hk => ?_, fun b hb => absurd hb (Nat.not_lt_zero b)⟩
    rcases wb_cases hk with rfl | rfl | rfl <;> rfl
  have hn := hW.1.1
  obtain ⟨T', S', a1, a2, a3⟩ := t_place hX hW 7 0 0 0 (fun _ => 0) [] _ _ (406, []) (pi0 hn) (Nat.zero_le _) (by omega) hS ⟨rfl, Nat.le_refl _, fun h => absurd h (Nat.lt_irrefl _)⟩
  refine ⟨T', S', ?_, a3⟩
  unfold fX0_findBest
  rw [c1, q_some, q_ltn]
  refine (L _ 396 _).trans ?_
  rw [q_ltn, q_ltn]
  have a1' : fX0_placeFrom 7 (0 : Int32) (0 : Int32) (va_up (va_up T 3 (fun _ => (406 : Int32))) 4 (fun _ => (0 : Int32))) (va_up Q 6 (upd (upd (upd (Q 6) 0 (nI 0)) 1 (nI 0)) 2 (nI 0))) X2 = some (T', S') := a1
  rw [a1', q_some, q_ltn, q_ltn]
