/-! the text -/
theorem DX.w {T Sd W T' W' : M2} (h : DX T Sd W) (e9 : T' 9 = T 9) (e10 : T' 10 = T 10) (e : ∀ j, 5 ≤ j → j ≤ 10 → W' j = W j) : DX T' Sd W' := by
  obtain ⟨N, B, cam, mo, ra, hD⟩ := h
  refine ⟨N, B, cam, mo, ra, ?_⟩
  rw [e9, e10]
  exact hD.w e
def LZ (n : Nat) (v' : Nat) (v'' : Int32) (T' Sd' S' : M2) : Prop := (∃ e pl, BD e pl T' S') ∨ (v'' = nI v' ∧ T' 2 0 = nI 0 ∧ S' 17 0 = nI 0 ∧ S' 14 0 = nI n ∧ DX T' Sd' S')
theorem x5_end {kk : (Int32 × M2) → Option (Int32 × M2)} {g e : Nat} {v : Int32} {S : M2} (h : S 17 0 = nI e) (he : 0 < e ∧ e < 10) : fX5_text_L20 kk (g + 1) v S = kk (v, S) := by
  simp (disch := omega) only [fX5_text_L20, lt, jn, q_lit, q_bnd, q_cl, q_le, q_lt, q_eq, pk_mul, nI_add, q_sub, q_div, q_pos, q_neg, q_T, q_F, q_max0, q_flg1, q_flg0, q_min, q_min2, q_bit, q_some, h]
theorem lines {c : Nat → Nat} {n : Nat} : ∀ (f g d p v : Nat) (T Sd S : M2), TB c n T S → NX n p T S → DX T Sd S → p + d = n → 2 * v ≤ p → d < f → d + 1 < g → ∃ (v' : Nat) (T' Sd' : M2) (v'' : Int32) (S' : M2), (∀ (T0 S0 : M2) (kk : (Int32 × M2 × M2) → Option (Int32 × (M2 × M2))), fX3_tellInto_L30 T0 S0 kk f (nI v) T Sd = kk (nI v', T', Sd')) ∧ (∀ kk : (Int32 × M2) → Option (Int32 × M2), fX5_text_L20 kk g (nI v) S = kk (v'', S')) ∧ T' 0 = T 0 ∧ T' 1 = T 1 ∧ MF S S' ∧ LZ n v' v'' T' Sd' S'
  | 0, g, d, p, v, T, Sd, S, _, _, _, _, _, hf, _ => absurd hf (Nat.not_lt_zero _)
  | f + 1, 0, d, p, v, T, Sd, S, _, _, _, _, _, _, hg => absurd hg (Nat.not_lt_zero _)
  | f + 1, 1, d, p, v, T, Sd, S, _, _, _, _, _, _, hg => absurd hg (by omega)
  | f + 1, g + 2, d, p, v, T, Sd, S, h, hx, hD, hp, hv, hf, hg => by
    have h1 := h.1
    rcases hx with ⟨tk, q, p1, hpq, tok⟩ | ⟨pl, bd, t6⟩
    · obtain ⟨t2, s17, t5, s13, t7, s14, g1, g2, t6, s15, g3, g4, g5, g6⟩ := id tok
      by_cases e4 : tk = 4
      · have hq := g4 e4
        rw [if_pos e4] at s15
        rw [e4] at t6
        refine ⟨v, T, Sd, nI v, S, fun T0 S0 kk => ?_, fun kk => ?_, rfl, rfl, fun _ _ => rfl, Or.inr ⟨rfl, t2, s17, by rw [s14, hq], hD⟩⟩
        · simp (disch := omega) only [fX3_tellInto_L30, lt, jn, q_lit, q_bnd, q_cl, q_le, q_lt, q_eq, pk_mul, nI_add, q_sub, q_div, q_pos, q_neg, q_T, q_F, q_max0, q_flg1, q_flg0, q_min, q_min2, q_bit, q_some, t6]
        · simp (disch := omega) only [fX5_text_L20, lt, jn, q_lit, q_bnd, q_cl, q_le, q_lt, q_eq, pk_mul, nI_add, q_sub, q_div, q_pos, q_neg, q_T, q_F, q_max0, q_flg1, q_flg0, q_min, q_min2, q_bit, q_some, s17, s15]
      · rw [if_neg e4] at s15
        rcases line h tok e4 hD with ⟨T', Sd', W, p', a1, a2, a3, a4, a5, a6, a7, a8, a9, a10, a11, a12⟩ | ⟨T', S', e, pl, a1, a2, a3, a4, a5, a6⟩
        · obtain ⟨T2, S2, b1, b2, b3, b4, b5⟩ := nx (h.mv a9 a10 a11) a6 a7 a8 a3 a4
          have hD2 : DX T2 Sd' S2 := a12.w (b3 9 (by omega) (by omega) (by omega) (by omega) (by omega) (by omega)) (b3 10 (by omega) (by omega) (by omega) (by omega) (by omega) (by omega)) fun j _ _ => b4 j (by omega) (by omega) (by omega) (by omega) (by omega) (by omega)
          have t0 : T2 0 = T 0 := by rw [b3 0 (by omega) (by omega) (by omega) (by omega) (by omega) (by omega), a9]
          have t1 : T2 1 = T 1 := by rw [b3 1 (by omega) (by omega) (by omega) (by omega) (by omega) (by omega), a10]
          have hm : MF S S2 := a11.trans b4.mf
          obtain ⟨v', T3, Sd3, v'', S3, c1, c2, c3, c4, c5, c6⟩ := lines f (g + 1) (n - p') p' (v + 1) T2 Sd' S2 (h.mv t0 t1 hm) b5 hD2 (by omega) (by omega) (by omega) (by omega)
          refine ⟨v', T3, Sd3, v'', S3, fun T0 S0 kk => ?_, fun kk => ?_, by rw [c3, t0], by rw [c4, t1], hm.trans c5, c6⟩
          · rw [← c1 T0 S0 kk]
            simp (disch := omega) only [fX3_tellInto_L30, lt, jn, q_lit, q_bnd, q_cl, q_le, q_lt, q_eq, pk_mul, nI_add, q_sub, q_div, q_pos, q_neg, q_T, q_F, q_max0, q_flg1, q_flg0, q_min, q_min2, q_bit, q_some, t6, a1, b1]
          · rw [← c2 kk]
            rw [b2] at a2
            rw [fX5_text_L20]
            simp (disch := omega) only [lt, jn, q_lit, q_bnd, q_cl, q_le, q_lt, q_eq, pk_mul, nI_add, q_sub, q_div, q_pos, q_neg, q_T, q_F, q_max0, q_flg1, q_flg0, q_min, q_min2, q_bit, q_some, s17, s15, a2]
        · refine ⟨v, T', Sd, nI (v + 1), S', fun T0 S0 kk => ?_, fun kk => ?_, a3, a4, a5, Or.inl ⟨e, pl, a6⟩⟩
          · simp (disch := omega) only [fX3_tellInto_L30, lt, jn, q_lit, q_bnd, q_cl, q_le, q_lt, q_eq, pk_mul, nI_add, q_sub, q_div, q_pos, q_neg, q_T, q_F, q_max0, q_flg1, q_flg0, q_min, q_min2, q_bit, q_some, t6, a1]
          · have he := x5_end (kk := kk) (g := g) (v := nI (v + 1)) a6.2.1 ⟨a6.2.2.1, a6.2.2.2.1⟩
            rw [← he]
            rw [fX5_text_L20]
            simp (disch := omega) only [lt, jn, q_lit, q_bnd, q_cl, q_le, q_lt, q_eq, pk_mul, nI_add, q_sub, q_div, q_pos, q_neg, q_T, q_F, q_max0, q_flg1, q_flg0, q_min, q_min2, q_bit, q_some, s17, s15, a2]
    · obtain ⟨t2, s17, e1, e2, t3, s18⟩ := id bd
      have hr := rf_bad t2 (by omega)
      refine ⟨v, T, Sd, nI v, S, fun T0 S0 kk => ?_, fun kk => x5_end s17 (by omega), rfl, rfl, fun _ _ => rfl, Or.inl ⟨1, pl, bd⟩⟩
      have ht : fX3_tellLine T Sd = some (nI 0, (T, Sd)) := by
        rw [ctell_eq]
        simp (disch := omega) only [ctell, lt, jn, q_lit, q_bnd, q_cl, q_le, q_lt, q_eq, pk_mul, nI_add, q_sub, q_div, q_pos, q_neg, q_T, q_F, q_max0, q_flg1, q_flg0, q_min, q_min2, q_bit, q_some, t6, hr]
        rfl
      simp (disch := omega) only [fX3_tellInto_L30, lt, jn, q_lit, q_bnd, q_cl, q_le, q_lt, q_eq, pk_mul, nI_add, q_sub, q_div, q_pos, q_neg, q_T, q_F, q_max0, q_flg1, q_flg0, q_min, q_min2, q_bit, q_some, t6, ht]
/-- the class's empty draft -/
def N0 : NN := fun k _ => if k = 13 then 1 else 0
def B0 : BB := fun _ => []
theorem wb0 : WB 0 B0 := fun x => by
  rw [if_neg (by omega)]
  rfl
theorem wf0 : WF N0 B0 := by
  refine ⟨⟨by decide, by decide, by decide, by decide, by decide, by decide, by decide⟩, fun b hb => absurd hb (Nat.not_lt_zero _), fun b hb => absurd hb (Nat.not_lt_zero _), fun b hb => absurd hb (Nat.not_lt_zero _), wb0⟩
theorem t_empty (S : M2) : ∃ S', fX1_makeEmpty S = some S' ∧ CS (va_up N0 4 (fun _ => 0)) B0 S' := by
  refine ⟨va_up (va_up (va_up (va_up (va_up (va_up (va_up (va_up S 0 (fun _ => nI 0)) 4 (fun _ => nI 0)) 7 (fun _ => nI 0)) 12 (fun _ => nI 0)) 13 (fun _ => nI 1)) 14 (fun _ => nI 0)) 15 (fun _ => nI 0)) 6 (upd (upd (upd (S 6) 0 (nI 0)) 1 (nI 0)) 2 (nI 0)), ?_, ⟨rfl, rfl, rfl, rfl, rfl, rfl, rfl⟩, fun b hb => absurd hb (Nat.not_lt_zero _), fun b hb => absurd hb (Nat.not_lt_zero _), fun b hb => absurd hb (Nat.not_lt_zero _), fun k hk => ⟨?_, fun i b hb => ?_⟩⟩
  · have L : ∀ (S : M2) (f : Nat), fX1_makeEmpty_L37 (fun p13 => some p13) (f + 4) (nI 0) S = some (va_up S 6 (upd (upd (upd (S 6) 0 (nI 0)) 1 (nI 0)) 2 (nI 0))) := by
      intro S f
      simp (disch := omega) only [fX1_makeEmpty_L37, lt, jn, q_lit, q_bnd, q_cl, q_le, q_lt, q_eq, pk_mul, nI_add, q_sub, q_div, q_pos, q_neg, q_T, q_F, q_max0, q_flg1, q_flg0, q_min, q_min2, q_bit, q_some, q_up, up_up]
    unfold fX1_makeEmpty
    simp only [lt]
    exact L _ 396
  · rcases wb_cases hk with rfl | rfl | rfl <;> rfl
  · exact absurd hb (by rw [B0, List.getElem?_nil]; exact fun h => nomatch h)
theorem m_first_L : ∀ (d j f : Nat) (S : M2), j + d = 62 → d < f → ∃ S', (∀ kk : M2 → Option M2, fX5_firstDraft_L2 kk f (nI j) S = kk S') ∧ (∀ q, q ≠ 5 → S' q = S q) ∧ ∀ x, S' 5 x = if j ≤ x ∧ x < 62 then nI 0 else S 5 x
  | 0, j, f + 1, S, hj, hf => by
    have e : j = 62 := by omega
    subst e
    refine ⟨S, fun kk => ?_, fun _ _ => rfl, fun x => ?_⟩
    · simp (disch := omega) only [fX5_firstDraft_L2, lt, jn, q_lit, q_bnd, q_cl, q_le, q_lt, q_eq, pk_mul, nI_add, q_sub, q_div, q_pos, q_neg, q_T, q_F, q_max0, q_flg1, q_flg0, q_min, q_min2, q_bit, q_some]
    · rw [if_neg (by omega)]
  | d + 1, j, f + 1, S, hj, hf => by
    obtain ⟨S', a1, a2, a3⟩ := m_first_L d (j + 1) f (va_up S 5 (upd (S 5) j (nI 0))) (by omega) (by omega)
    refine ⟨S', fun kk => ?_, fun q hq => ?_, fun x => ?_⟩
    · rw [← a1 kk]
      simp (disch := omega) only [fX5_firstDraft_L2, lt, jn, q_lit, q_bnd, q_cl, q_le, q_lt, q_eq, pk_mul, nI_add, q_sub, q_div, q_pos, q_neg, q_T, q_F, q_max0, q_flg1, q_flg0, q_min, q_min2, q_bit, q_some]
    · rw [a2 q hq, q_up, if_neg hq]
    · rw [a3 x, q_up, if_pos rfl, q_ud]
      by_cases e : x = j
      · subst e
        rw [if_neg (by omega), if_pos rfl, if_pos (by omega)]
      · by_cases e2 : j + 1 ≤ x ∧ x < 62
        · rw [if_pos e2, if_pos (by omega)]
        · rw [if_neg e2, if_neg e, if_neg (by omega)]
theorem m_first (S : M2) : ∃ S', fX5_firstDraft S = some S' ∧ (∀ j, (j < 5 ∨ 10 < j) → S' j = S j) ∧ MS N0 B0 (S' 5) ∧ S' 6 0 = nI 0 ∧ S' 7 0 = nI 0 ∧ S' 8 0 = nI 0 ∧ S' 9 0 = nI 0 ∧ S' 10 0 = -nI 4 ∧ ∀ b, b < 5 → S' 5 (6 * b + 2) = nI 0 ∧ S' 5 (6 * b + 3) = nI 0 := by
  obtain ⟨S1, a1, a2, a3⟩ := m_first_L 62 0 400 S (by omega) (by omega)
  have z : ∀ x, x < 62 → S1 5 x = nI 0 := fun x hx => by rw [a3 x, if_pos (by omega)]
  refine ⟨va_up (va_up (va_up (va_up (va_up (va_up S1 5 (upd (S1 5) 47 (nI 1))) 6 (fun _ => nI 0)) 7 (fun _ => nI 0)) 8 (fun _ => nI 0)) 9 (fun _ => nI 0)) 10 (fun _ => -nI 4), ?_, fun j hj => ?_, ⟨⟨?_, ?_, ?_, ?_⟩, fun b hb => absurd hb (Nat.not_lt_zero _), fun b hb => absurd hb (Nat.not_lt_zero _), fun b hb => absurd hb (Nat.not_lt_zero _), fun k hk i b hb => ?_⟩, rfl, rfl, rfl, rfl, rfl, fun b hb => ?_⟩
  · unfold fX5_firstDraft
    refine (a1 _).trans ?_
    simp (disch := omega) only [lt, jn, q_lit, q_bnd, q_cl, q_le, q_lt, q_eq, pk_mul, nI_add, q_sub, q_div, q_pos, q_neg, q_T, q_F, q_max0, q_flg1, q_flg0, q_min, q_min2, q_bit, q_some]
  · rw [q_up, if_neg (by omega), q_up, if_neg (by omega), q_up, if_neg (by omega), q_up, if_neg (by omega), q_up, if_neg (by omega), q_up, if_neg (by omega), a2 j (by omega)]
  · show upd (S1 5) 47 (nI 1) 46 = _
    rw [q_ud, if_neg (by omega), z 46 (by omega)]
    rfl
  · rfl
  · show upd (S1 5) 47 (nI 1) 48 = _
    rw [q_ud, if_neg (by omega), z 48 (by omega)]
    rfl
  · show upd (S1 5) 47 (nI 1) 49 = _
    rw [q_ud, if_neg (by omega), z 49 (by omega)]
    rfl
  · exact absurd hb (by rw [B0, List.getElem?_nil]; exact fun h => nomatch h)
  · show upd (S1 5) 47 (nI 1) (6 * b + 2) = _ ∧ upd (S1 5) 47 (nI 1) (6 * b + 3) = _
    rw [q_ud, if_neg (by omega), q_ud, if_neg (by omega), z _ (by omega), z _ (by omega)]
    exact ⟨rfl, rfl⟩
/-- what the model keeps of its draft -/
theorem m_keep_L : ∀ (d j f : Nat) (S : M2), j + d = 62 → d < f → ∃ S', (∀ kk : M2 → Option M2, fX5_keepDraft_L2 kk f (nI j) S = kk S') ∧ (∀ q, q ≠ 0 → S' q = S q) ∧ ∀ x, S' 0 x = if j ≤ x ∧ x < 62 then S 5 x else S 0 x
  | 0, j, f + 1, S, hj, hf => by
    have e : j = 62 := by omega
    subst e
    refine ⟨S, fun kk => ?_, fun _ _ => rfl, fun x => ?_⟩
    · simp (disch := omega) only [fX5_keepDraft_L2, lt, jn, q_lit, q_bnd, q_cl, q_le, q_lt, q_eq, pk_mul, nI_add, q_sub, q_div, q_pos, q_neg, q_T, q_F, q_max0, q_flg1, q_flg0, q_min, q_min2, q_bit, q_some]
    · rw [if_neg (by omega)]
  | d + 1, j, f + 1, S, hj, hf => by
    obtain ⟨S', a1, a2, a3⟩ := m_keep_L d (j + 1) f (va_up S 0 (upd (S 0) j (S 5 j))) (by omega) (by omega)
    refine ⟨S', fun kk => ?_, fun q hq => ?_, fun x => ?_⟩
    · rw [← a1 kk]
      simp (disch := omega) only [fX5_keepDraft_L2, lt, jn, q_lit, q_bnd, q_cl, q_le, q_lt, q_eq, pk_mul, nI_add, q_sub, q_div, q_pos, q_neg, q_T, q_F, q_max0, q_flg1, q_flg0, q_min, q_min2, q_bit, q_some]
    · rw [a2 q hq, q_up, if_neg hq]
    · have e5 : va_up S 0 (upd (S 0) j (S 5 j)) 5 x = S 5 x := rfl
      have e0 : va_up S 0 (upd (S 0) j (S 5 j)) 0 x = upd (S 0) j (S 5 j) x := rfl
      rw [a3 x, e5, e0, q_ud]
      by_cases e : x = j
      · subst e
        rw [if_neg (by omega), if_pos rfl, if_pos (by omega)]
      · by_cases e2 : j + 1 ≤ x ∧ x < 62
        · rw [if_pos e2, if_pos (by omega)]
        · rw [if_neg e2, if_neg e, if_neg (by omega)]
theorem m_cam44 {cam nb : Nat} (hc : cam < 32) (hn : nb ≤ 5) : ∀ (d j f : Nat) (S : M2), S 3 0 = nI nb → S 9 0 = nI cam → j + d = nb → d < f → ∃ S', (∀ kk : M2 → Option M2, fX5_keepDraft_L44 kk f (nI j) S = kk S') ∧ (∀ q, q ≠ 0 → S' q = S q) ∧ (∀ b, j ≤ b → b < nb → S' 0 (6 * b + 3) = nI (cam.testBit b).toNat) ∧ ∀ x, (∀ b, j ≤ b → b < nb → x ≠ 6 * b + 3) → S' 0 x = S 0 x
  | 0, j, f + 1, S, h3, h9, hj, hf => by
    have e : j = nb := by omega
    subst e
    refine ⟨S, fun kk => ?_, fun _ _ => rfl, fun b hb hb2 => absurd hb (by omega), fun x _ => rfl⟩
    simp (disch := omega) only [fX5_keepDraft_L44, lt, jn, q_lit, q_bnd, q_cl, q_le, q_lt, q_eq, pk_mul, nI_add, q_sub, q_div, q_pos, q_neg, q_T, q_F, q_max0, q_flg1, q_flg0, q_min, q_min2, q_bit, q_some, h3]
  | d + 1, j, f + 1, S, h3, h9, hj, hf => by
    obtain ⟨S', a1, a2, a3, a4⟩ := m_cam44 hc hn d (j + 1) f (va_up S 0 (upd (S 0) (6 * j + 3) (nI (cam.testBit j).toNat))) h3 h9 (by omega) (by omega)
    refine ⟨S', fun kk => ?_, fun q hq => ?_, fun b hb hb2 => ?_, fun x hx => ?_⟩
    · rw [← a1 kk]
      simp (disch := omega) only [fX5_keepDraft_L44, lt, jn, q_lit, q_bnd, q_cl, q_le, q_lt, q_eq, pk_mul, nI_add, q_sub, q_div, q_pos, q_neg, q_T, q_F, q_max0, q_flg1, q_flg0, q_min, q_min2, q_bit, q_some, h3, h9]
    · rw [a2 q hq, q_up, if_neg hq]
    · by_cases e : b = j
      · subst e
        rw [a4 _ fun c hc hc2 => by omega, q_up, if_pos rfl, q_ud, if_pos rfl]
      · exact a3 b (by omega) hb2
    · rw [a4 x fun b hb hb2 => hx b (by omega) hb2, q_up, if_pos rfl, q_ud, if_neg (hx j (by omega) (by omega))]
theorem m_keepDraft {N : NN} {B : BB} {cam : Nat} {S : M2} (hW : WF N B) (hM : MS N B (S 5)) (h6 : S 6 0 = nI (N 0 0)) (h7 : S 7 0 = nI (N 7 0)) (hc : cam < 32) (h9 : S 9 0 = nI cam) : ∃ S', fX5_keepDraft S = some S' ∧ (∀ q, q ≠ 0 → q ≠ 2 → q ≠ 3 → q ≠ 4 → S' q = S q) ∧ S' 3 0 = nI (N 0 0) ∧ S' 4 0 = nI (N 7 0) ∧ S' 2 0 = nI 0 ∧ S' 2 1 = nI 0 ∧ MS (va_up N 4 (fun _ => cam)) B (S' 0) := by
  have w1 := hW.1
  obtain ⟨S1, a1, a2, a3⟩ := m_keep_L 62 0 400 S (by omega) (by omega)
  have z : ∀ x, x < 62 → S1 0 x = S 5 x := fun x hx => by rw [a3 x, if_pos (by omega)]
  obtain ⟨S2, b1, b2, b3, b4⟩ := m_cam44 (nb := N 0 0) hc w1.1 (N 0 0) 0 400 (va_up (va_up S1 3 (fun _ => S1 6 0)) 4 (fun _ => S1 7 0)) (by show S1 6 0 = _; rw [a2 6 (by omega)]; exact h6) (by show S1 9 0 = _; rw [a2 9 (by omega)]; exact h9) (by omega) (by omega)
  have b4' : ∀ x, x < 62 → (∀ b, b < N 0 0 → x ≠ 6 * b + 3) → S2 0 x = S 5 x := fun x hx hb => by
    rw [b4 x fun b _ h => hb b h]
    exact z x hx
  refine ⟨va_up (va_up S2 2 (upd (S2 2) 0 (nI 0))) 2 (upd (upd (S2 2) 0 (nI 0)) 1 (nI 0)), ?_, fun q q0 q2 q3 q4 => ?_, ?_, ?_, rfl, rfl, ?_⟩
  · unfold fX5_keepDraft
    refine (a1 _).trans ?_
    have e7 : va_up S1 3 (fun _ => S1 6 0) 7 0 = S1 7 0 := rfl
    simp only [lt, e7]
    refine (b1 _).trans ?_
    simp (disch := omega) only [lt, jn, q_lit, q_bnd, q_cl, q_le, q_lt, q_eq, pk_mul, nI_add, q_sub, q_div, q_pos, q_neg, q_T, q_F, q_max0, q_flg1, q_flg0, q_min, q_min2, q_bit, q_some, q_up]
  · rw [q_up, if_neg q2, q_up, if_neg q2, b2 q q0, q_up, if_neg q4, q_up, if_neg q3, a2 q q0]
  · show S2 3 0 = _
    rw [b2 3 (by omega)]
    show S1 6 0 = _
    rw [a2 6 (by omega)]
    exact h6
  · show S2 4 0 = _
    rw [b2 4 (by omega)]
    show S1 7 0 = _
    rw [a2 7 (by omega)]
    exact h7
  · show MS _ B (S2 0)
    obtain ⟨⟨g1, g2, g3, g4⟩, h2, h3, h4, h5⟩ := hM
    refine ⟨⟨?_, ?_, ?_, ?_⟩, fun b hb => ⟨?_, ?_, ?_, ?_⟩, fun m hm => ⟨?_, ?_, ?_, ?_⟩, fun i hi => ⟨?_, ?_⟩, fun k hk i b hb => ⟨?_, ?_⟩⟩
    · rw [b4' _ (by omega) (fun b hb => by omega)]; exact g1
    · rw [b4' _ (by omega) (fun b hb => by omega)]; exact g2
    · rw [b4' _ (by omega) (fun b hb => by omega)]; exact g3
    · rw [b4' _ (by omega) (fun b hb => by omega)]; exact g4
    · have hb' : b < N 0 0 := hb
      rw [b4' _ (by omega) (fun c hc => by omega)]; exact (h2 b hb').1
    · have hb' : b < N 0 0 := hb
      rw [b4' _ (by omega) (fun c hc => by omega)]; exact (h2 b hb').2.1
    · have hb' : b < N 0 0 := hb
      rw [b4' _ (by omega) (fun c hc => by omega)]; exact (h2 b hb').2.2.1
    · exact b3 b (by omega) hb
    · have hm' : m < N 7 0 := hm
      rw [b4' _ (by omega) (fun c hc => by omega)]; exact (h3 m hm').1
    · have hm' : m < N 7 0 := hm
      rw [b4' _ (by omega) (fun c hc => by omega)]; exact (h3 m hm').2.1
    · have hm' : m < N 7 0 := hm
      rw [b4' _ (by omega) (fun c hc => by omega)]; exact (h3 m hm').2.2.1
    · have hm' : m < N 7 0 := hm
      rw [b4' _ (by omega) (fun c hc => by omega)]; exact (h3 m hm').2.2.2
    · have hi' : i < N 15 0 := hi
      rw [b4' _ (by omega) (fun c hc => by omega)]; exact (h4 i hi').1
    · have hi' : i < N 15 0 := hi
      rw [b4' _ (by omega) (fun c hc => by omega)]; exact (h4 i hi').2
    · have hl := hW.2.2.2.2.lt hk (List.mem_of_getElem? hb)
      rw [b4' _ (by omega) (fun c hc => by omega)]; exact (h5 k hk i b hb).1
    · have hl := hW.2.2.2.2.lt hk (List.mem_of_getElem? hb)
      rw [b4' _ (by omega) (fun c hc => by omega)]; exact (h5 k hk i b hb).2
theorem HI.le {cam nb : Nat} {x : Int32} (h : HI cam x) (hn : nb ≤ 5) : (nI nb ≤ x) = ¬ cam < 2 ^ nb := by
  rcases h with ⟨rfl, rfl⟩ | ⟨g, g1, rfl, g2, g3⟩
  · have e : ¬ nI nb ≤ -nI 4 := by
      rcases (by omega : nb = 0 ∨ nb = 1 ∨ nb = 2 ∨ nb = 3 ∨ nb = 4 ∨ nb = 5) with rfl | rfl | rfl | rfl | rfl | rfl <;> decide
    have e2 : 0 < 2 ^ nb := Nat.two_pow_pos nb
    exact propext ⟨fun a => absurd a e, fun a => absurd e2 a⟩
  · rw [q_le (by omega)]
    have e3 : 2 ^ g ≤ cam := Nat.ge_two_pow_of_testBit g2
    refine propext ⟨fun a => ?_, fun a => ?_⟩
    · have : 2 ^ nb ≤ 2 ^ g := Nat.pow_le_pow_right (by decide) a
      omega
    · by_cases e : nb ≤ g
      · exact e
      · have : 2 ^ (g + 1) ≤ 2 ^ nb := Nat.pow_le_pow_right (by decide) (by omega)
        omega
theorem q_shr0 {cam nb : Nat} (hc : cam < 32) (hn : nb ≤ 5) : (nI cam >>> (nI nb &&& nI 31) = nI 0) = (cam < 2 ^ nb) := by
  rw [q_shr (by omega), q_eq (by have := Nat.div_le_self cam (2 ^ nb); omega)]
  refine propext ⟨fun a => ?_, fun a => Nat.div_eq_of_lt a⟩
  have e2 : 0 < 2 ^ nb := Nat.two_pow_pos nb
  exact (Nat.div_eq_zero_iff_lt e2).mp a
theorem R.mfc {X X' : M3} {S S' : M2} (h : R X S) (hX : ∀ k, k ≠ 1 → k ≠ 3 → X' k = X k) (hm : ∀ j, (j < 5 ∨ 18 < j) → S' j = S j) (hT : RT (X' 1) (S' 11) (S' 12 0) (S' 17 0)) : R X' S' := by
  have e0 := hm 0 (by omega)
  have e2 := hm 2 (by omega)
  have e3 := hm 3 (by omega)
  have e4 := hm 4 (by omega)
  have e20 := hm 20 (by omega)
  have e21 := hm 21 (by omega)
  have e22 := hm 22 (by omega)
  have e23 := hm 23 (by omega)
  have x0 := hX 0 (by decide) (by decide)
  have x2 := hX 2 (by decide) (by decide)
  have x4 := hX 4 (by decide) (by decide)
  have x5 := hX 5 (by decide) (by decide)
  have x6 := hX 6 (by decide) (by decide)
  have x7 := hX 7 (by decide) (by decide)
  have x8 := hX 8 (by decide) (by decide)
  have x9 := hX 9 (by decide) (by decide)
  obtain ⟨h1, h2, h3, h4⟩ := h
  refine ⟨?_, hT, ?_, ?_⟩
  · rw [e0, e2, e3, e4, x0, x2, x4, x5]
    exact h1
  · rw [e20, e21, e22, x6, x7, x8, x9]
    exact h3
  · rw [e23, x0]
    exact h4
/-- class and model at the text's end -/
theorem k_text {X : M3} {S : M2} (h : R X S) : ∃ a X' S', fX4_text X = some (a, X') ∧ fX5_text S = some (a, S') ∧ R X' S' := by
  obtain ⟨c, n, n1, n2, n3, n4⟩ := tb_of h.2.1
  obtain ⟨Sd0, i1, i2⟩ := t_empty (X 3)
  obtain ⟨D0, j1, j2, j3, j6, j7, j8, j9, j10, jz⟩ := m_first (va_up (va_up S 17 (fun _ => nI 0)) 13 (fun _ => nI 0))
  have hT : TB c n (va_up (va_up (va_up (va_up (X 1) 2 (fun _ => nI 0)) 5 (fun _ => nI 0)) 9 (fun _ => nI 0)) 10 (fun _ => nI 0)) D0 := by
    refine ⟨n1, n2, ?_, fun i hi => ?_⟩
    · rw [j2 12 (by omega)]
      exact n3
    · rw [j2 11 (by omega)]
      exact n4 i hi
  obtain ⟨T8, S6, b1, b2, b3, b4, b5⟩ := nx hT (p := 0) (by omega) rfl (by rw [j2 17 (by omega)]; rfl) rfl (by rw [j2 13 (by omega)]; rfl)
  have hm6 : MF S S6 := MF.trans (fun j hj => by rw [j2 j (by omega), q_up, if_neg (by omega), q_up, if_neg (by omega)]) b4.mf
  have hD : DX T8 Sd0 S6 := by
    refine ⟨N0, B0, 0, 0, 0, ?_⟩
    have q9 : T8 9 0 = nI 0 := by rw [b3 9 (by omega) (by omega) (by omega) (by omega) (by omega) (by omega)]; rfl
    have q10 : T8 10 0 = nI 0 := by rw [b3 10 (by omega) (by omega) (by omega) (by omega) (by omega) (by omega)]; rfl
    have fr : ∀ j, j < 13 → S6 j = D0 j := fun j hj => b4 j (by omega) (by omega) (by omega) (by omega) (by omega) (by omega)
    refine ⟨wf0, ⟨rfl, rfl, rfl⟩, i2, ?_, ⟨?_, ?_⟩, ⟨by omega, ?_, ?_⟩, ⟨by omega, by omega, q9, q10, ?_⟩, fun b _ hb => ?_⟩
    · rw [fr 5 (by omega)]; exact j3
    · rw [fr 6 (by omega)]; exact j6
    · rw [fr 7 (by omega)]; exact j7
    · rw [fr 9 (by omega)]; exact j9
    · rw [fr 10 (by omega)]; exact Or.inl ⟨rfl, j10⟩
    · rw [fr 8 (by omega)]; exact j8
    · rw [fr 5 (by omega)]; exact jz b hb
  have t80 : T8 0 = X 1 0 := b3 0 (by omega) (by omega) (by omega) (by omega) (by omega) (by omega)
  have t81 : T8 1 = X 1 1 := b3 1 (by omega) (by omega) (by omega) (by omega) (by omega) (by omega)
  obtain ⟨v', T', Sd', v'', S', l1, l2, l3, l4, l5, l6⟩ := lines 400 400 n 0 0 T8 Sd0 S6 (hT.mv t80 t81 b4.mf) b5 hD (by omega) (by omega) (by omega) (by omega)
  have hmS : MF S S' := hm6.trans l5
  have t'1 : T' 1 0 = nI n := by rw [l4, t81]; exact n2
  -- the class, to the line behind its loop
  have clx : ∀ Tf, (∀ kk : M2 → Option (Int32 × (M2 × M2)), (jn (α := Option (Int32 × (M2 × M2))) (β := M2) (fun j22 => if ((Sd' 4 0) >>> ((Sd' 0 0) &&& 31)) = 0 then j22 T' else (fX3_refuse (6 : Int32) (T' 1 0) T').bind fun q23 => lt (q23.2) fun T24 => j22 T24) kk) = kk Tf) → fX3_tellInto (X 1) (X 3) = some (nI v', (va_up Tf 1 (fun _ => nI 0), Sd')) := by
    intro Tf hTf
    unfold fX3_tellInto
    rw [i1, q_some]
    simp only [lt]
    have b1' : fX3_nextToken (va_up (va_up (va_up (va_up (X 1) 2 (fun _ => (0 : Int32))) 5 (fun _ => (0 : Int32))) 9 (fun _ => (0 : Int32))) 10 (fun _ => (0 : Int32))) = some T8 := b1
    rw [b1', q_some]
    refine (l1 _ _ _).trans ?_
    exact hTf _
  -- the model
  have mox : ∀ Sf, (∀ kk : M2 → Option (Int32 × M2), (jn (α := Option (Int32 × M2)) (β := M2) (fun j15 => if (S' 17 0) = 0 then jn (α := Option (Int32 × M2)) (β := Int32) (fun j16 => if (S' 6 0) ≤ (S' 10 0) then j16 (0 : Int32) else j16 (1 : Int32)) (fun p18 => (fX5_needs p18 (6 : Int32) S').bind fun q19 => lt (q19) fun S20 => j15 S20) else j15 S') kk) = kk Sf) → fX5_text S = if (Sf 17 0) ≤ 0 then (fX5_keepDraft (va_up Sf 12 (fun _ => nI 0))).bind fun q24 => some (v'', q24) else some (((-10 : Int32) - (Sf 18 0)), va_up Sf 12 (fun _ => nI 0)) := by
    intro Sf hSf
    unfold fX5_text
    have j1' : fX5_firstDraft (va_up (va_up S 17 (fun _ => (0 : Int32))) 13 (fun _ => (0 : Int32))) = some D0 := j1
    simp only [lt]
    rw [j1', q_some, b2, q_some]
    refine (l2 _).trans ?_
    exact hSf _
  have fail : ∀ (Tf Sf : M2) (e pl : Nat), BD e pl Tf Sf → (∀ j, (j < 5 ∨ 18 < j) → Sf j = S j) → fX3_tellInto (X 1) (X 3) = some (nI v', (va_up Tf 1 (fun _ => nI 0), Sd')) → (fX5_text S = if (Sf 17 0) ≤ 0 then (fX5_keepDraft (va_up Sf 12 (fun _ => nI 0))).bind fun q24 => some (v'', q24) else some (((-10 : Int32) - (Sf 18 0)), va_up Sf 12 (fun _ => nI 0))) → ∃ a X' S', fX4_text X = some (a, X') ∧ fX5_text S = some (a, S') ∧ R X' S' := by
    intro Tf Sf e pl bd hj cl mo
    obtain ⟨d1, d2, d3, d4, d5, d6⟩ := id bd
    have he : ¬ nI e = (0 : Int32) := by
      show ¬ nI e = nI 0
      rw [q_eq (by omega)]; omega
    have he0 : ¬ nI e ≤ (0 : Int32) := by
      show ¬ nI e ≤ nI 0
      rw [q_le (by omega)]; omega
    refine ⟨(-10 : Int32) - nI pl, va_up (va_up X 1 (va_up Tf 1 (fun _ => nI 0))) 3 Sd', va_up Sf 12 (fun _ => nI 0), ?_, ?_, h.mfc (fun k k1 k3 => by rw [q_up, if_neg k3, q_up, if_neg k1]) (fun j hj2 => by rw [q_up, if_neg (by omega)]; exact hj j hj2) ?_⟩
    · unfold fX4_text
      rw [cl, q_some]
      simp only [lt]
      have e2 : va_up (va_up X 1 (va_up Tf 1 (fun _ => nI 0))) 3 Sd' 1 2 0 = nI e := d1
      have e3 : va_up (va_up X 1 (va_up Tf 1 (fun _ => nI 0))) 3 Sd' 1 3 0 = nI pl := d5
      rw [e2, e3, if_neg he]
    · rw [mo, d2, d6, if_neg he0]
    · refine ⟨⟨0, by omega, rfl, rfl, fun i hi => absurd hi (Nat.not_lt_zero i)⟩, ?_⟩
      show Tf 2 0 = Sf 17 0
      rw [d1, d2]
  rcases l6 with ⟨e, pl, bd⟩ | ⟨k1, k2, k3, k4, hDX⟩
  · obtain ⟨d1, d2, d3, d4, d5, d6⟩ := id bd
    have hr := rf_bad d1 (by omega)
    have cl := clx T' fun kk => by
      by_cases ez : Sd' 4 0 >>> (Sd' 0 0 &&& nI 31) = nI 0
      · simp (disch := omega) only [lt, jn, q_lit, q_bnd, q_cl, q_le, q_lt, q_eq, pk_mul, nI_add, q_sub, q_div, q_pos, q_neg, q_T, q_F, q_max0, q_flg1, q_flg0, q_min, q_min2, q_bit, q_some, ez]
      · simp (disch := omega) only [lt, jn, q_lit, q_bnd, q_cl, q_le, q_lt, q_eq, pk_mul, nI_add, q_sub, q_div, q_pos, q_neg, q_T, q_F, q_max0, q_flg1, q_flg0, q_min, q_min2, q_bit, q_some, ez, hr]
    have mo := mox S' fun kk => by
      simp (disch := omega) only [lt, jn, q_lit, q_bnd, q_cl, q_le, q_lt, q_eq, pk_mul, nI_add, q_sub, q_div, q_pos, q_neg, q_T, q_F, q_max0, q_flg1, q_flg0, q_min, q_min2, q_bit, q_some, d2]
    exact fail T' S' e pl bd (fun j hj => hmS j (by omega)) cl mo
  · obtain ⟨N, B, cam, mo, ra, hW, ⟨z4, z14, z15⟩, hC, hM, ⟨h6, h7⟩, ⟨hc, h9, h10⟩, -, -⟩ := hDX
    have w1 := hW.1
    have c0 : Sd' 0 0 = nI (N 0 0) := hC.1.1
    have c4 : Sd' 4 0 = nI cam := hC.1.2.1
    by_cases e : cam < 2 ^ N 0 0
    · have ez : nI cam >>> (nI (N 0 0) &&& nI 31) = nI 0 := by rw [q_shr0 hc w1.1]; exact e
      have e10 : ¬ nI (N 0 0) ≤ S' 10 0 := by rw [h10.le w1.1]; exact fun g => g e
      have cl := clx T' fun kk => by
        simp (disch := omega) only [lt, jn, q_lit, q_bnd, q_cl, q_le, q_lt, q_eq, pk_mul, nI_add, q_sub, q_div, q_pos, q_neg, q_T, q_F, q_max0, q_flg1, q_flg0, q_min, q_min2, q_bit, q_some, c0, c4, ez]
      have mo := mox S' fun kk => by
        simp (disch := omega) only [lt, jn, q_lit, q_bnd, q_cl, q_le, q_lt, q_eq, pk_mul, nI_add, q_sub, q_div, q_pos, q_neg, q_T, q_F, q_max0, q_flg1, q_flg0, q_min, q_min2, q_bit, q_some, k3, h6, e10, nd_ok]
      have hW' := hW.cam e
      obtain ⟨Q, q1, q2⟩ := t_copy (X 2) hC hW'
      obtain ⟨S3, s1, s2, s3, s4, s5, s6, s7⟩ := m_keepDraft (S := va_up S' 12 (fun _ => nI 0)) hW hM h6 h7 hc h9
      have hj : ∀ j, (j < 5 ∨ 18 < j) → S' j = S j := fun j hj => hmS j (by omega)
      have sj : ∀ j, j ≠ 0 → j ≠ 2 → j ≠ 3 → j ≠ 4 → j ≠ 12 → S3 j = S' j := fun j j0 j2 j3 j4 j12 => by rw [s2 j j0 j2 j3 j4, q_up, if_neg j12]
      refine ⟨nI v', va_up (va_up (va_up (va_up X 1 (va_up T' 1 (fun _ => nI 0))) 3 Sd') 2 Q) 0 (va_up (X 0) 6 (fun _ => nI 0)), S3, ?_, ?_, ⟨va_up N 4 (fun _ => cam), B, ⟨hW', by show N 14 0 ≤ 999; omega, q2, s7, s3, s4⟩, 0, by omega, rfl, fun k hk => ⟨?_, fun hb => ?_⟩⟩, ⟨⟨0, by omega, rfl, ?_, fun i hi => absurd hi (Nat.not_lt_zero i)⟩, ?_⟩, ?_, ?_⟩
      · unfold fX4_text
        rw [cl, q_some]
        simp only [lt]
        have e2 : va_up (va_up X 1 (va_up T' 1 (fun _ => nI 0))) 3 Sd' 1 2 0 = (0 : Int32) := k2
        rw [if_pos e2]
        have q1' : fX1_copyFrom (va_up (va_up X 1 (va_up T' 1 (fun _ => nI 0))) 3 Sd' 2) (va_up (va_up X 1 (va_up T' 1 (fun _ => nI 0))) 3 Sd' 3) = some Q := q1
        rw [q1', q_some]
        rfl
      · have e3 : S' 17 0 ≤ (0 : Int32) := by rw [k3]; exact Int32.le_refl _
        rw [mo, if_pos e3, s1, q_some, k1]
      · rw [Nat.zero_testBit]
        rcases (by omega : k = 0 ∨ k = 1) with rfl | rfl
        · exact s5
        · exact s6
      · rw [Nat.zero_testBit] at hb
        exact absurd hb (by decide)
      · rw [s2 12 (by omega) (by omega) (by omega) (by omega)]
        rfl
      · show T' 2 0 = S3 17 0
        rw [sj 17 (by omega) (by omega) (by omega) (by omega) (by omega), k2, k3]
      · rw [sj 20 (by omega) (by omega) (by omega) (by omega) (by omega), sj 21 (by omega) (by omega) (by omega) (by omega) (by omega), sj 22 (by omega) (by omega) (by omega) (by omega) (by omega), hj 20 (by omega), hj 21 (by omega), hj 22 (by omega)]
        exact h.2.2.1
      · rw [sj 23 (by omega) (by omega) (by omega) (by omega) (by omega), hj 23 (by omega)]
        exact h.2.2.2
    · have ez : ¬ nI cam >>> (nI (N 0 0) &&& nI 31) = nI 0 := by rw [q_shr0 hc w1.1]; exact e
      have e10 : nI (N 0 0) ≤ S' 10 0 := by rw [h10.le w1.1]; exact e
      have cl := clx (va_up (va_up T' 2 (fun _ => nI 6)) 3 (fun _ => T' 1 0)) fun kk => by
        simp (disch := omega) only [lt, jn, q_lit, q_bnd, q_cl, q_le, q_lt, q_eq, pk_mul, nI_add, q_sub, q_div, q_pos, q_neg, q_T, q_F, q_max0, q_flg1, q_flg0, q_min, q_min2, q_bit, q_some, c0, c4, ez, rf_new k2]
      have mo := mox (va_up (va_up S' 17 (fun _ => nI 6)) 18 (fun _ => S' 14 0)) fun kk => by
        simp (disch := omega) only [lt, jn, q_lit, q_bnd, q_cl, q_le, q_lt, q_eq, pk_mul, nI_add, q_sub, q_div, q_pos, q_neg, q_T, q_F, q_max0, q_flg1, q_flg0, q_min, q_min2, q_bit, q_some, k3, h6, e10, nd_new k3]
      exact fail _ _ 6 n ⟨rfl, rfl, by omega, by omega, t'1, k4⟩ (fun j hj => by rw [q_up, if_neg (by omega), q_up, if_neg (by omega)]; exact hmS j (by omega)) cl mo
