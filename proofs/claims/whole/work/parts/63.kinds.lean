/-! lines by kinds -/
def MF (S S' : M2) : Prop := ∀ j, (j < 5 ∨ j = 11 ∨ j = 12 ∨ 18 < j) → S' j = S j
theorem SF.mf {S S' : M2} (h : SF S S') : MF S S' := fun j hj => h j (by omega) (by omega) (by omega) (by omega) (by omega) (by omega)
theorem MF.trans {S S' S'' : M2} (h : MF S S') (g : MF S' S'') : MF S S'' := fun j hj => (g j hj).trans (h j hj)
theorem MF.of57 {S S' : M2} (h : ∀ j, j ≠ 5 → j ≠ 6 → j ≠ 7 → S' j = S j) : MF S S' := fun j hj => h j (by omega) (by omega) (by omega)
theorem MF.of5 {S S' : M2} (h : ∀ j, j ≠ 5 → S' j = S j) : MF S S' := fun j hj => h j (by omega)
theorem MF.of1718 {S S' : M2} (h : ∀ j, j ≠ 17 → j ≠ 18 → S' j = S j) : MF S S' := fun j hj => h j (by omega) (by omega)
theorem TB.mv {c : Nat → Nat} {n : Nat} {T S T' S' : M2} (h : TB c n T S) (t0 : T' 0 = T 0) (t1 : T' 1 = T 1) (s : MF S S') : TB c n T' S' := by
  have e11 := s 11 (by omega)
  have e12 := s 12 (by omega)
  refine ⟨h.1, ?_, ?_, fun i hi => ?_⟩
  · rw [t1]; exact h.2.1
  · rw [e12]; exact h.2.2.1
  · rw [t0, e11]; exact h.2.2.2 i hi
theorem NX.w {n p : Nat} {T S W : M2} (h : NX n p T S) (e : ∀ j, 13 ≤ j → j ≤ 18 → W j = S j) : NX n p T W := by
  unfold NX TOK BD at h ⊢
  rw [e 13 (by omega) (by omega), e 14 (by omega) (by omega), e 15 (by omega) (by omega), e 16 (by omega) (by omega), e 17 (by omega) (by omega), e 18 (by omega) (by omega)]
  exact h
theorem BD.w {e pl : Nat} {T S W : M2} (h : BD e pl T S) (g : ∀ j, 17 ≤ j → j ≤ 18 → W j = S j) : BD e pl T W := by
  unfold BD at h ⊢
  rw [g 17 (by omega) (by omega), g 18 (by omega) (by omega)]
  exact h
/-- a line that is refused behind its name -/
def BO (k : Nat) (T S29 Sd : M2) : Prop := ∃ T' S' e pl, crest (nI k) T Sd = some (nI 0, (T', Sd)) ∧ mrest (nI k) S29 = some S' ∧ T' 0 = T 0 ∧ T' 1 = T 1 ∧ MF S29 S' ∧ BD e pl T' S'
theorem rdN {k : Nat} (hk : k < 8) (T Sd : M2) : fX3_readNumbers (nI k) T Sd = fX3_readNumbers_L14 T Sd (nI k) (nI (if 4 < k then 1 else 3)) (fun p30 => some (nI 1, (p30.1, p30.2))) 400 (nI 0) T Sd := by
  by_cases e : 4 < k
  · rw [if_pos e]
    simp (disch := omega) only [fX3_readNumbers, lt, jn, q_lit, q_bnd, q_cl, q_le, q_lt, q_eq, pk_mul, nI_add, q_sub, q_div, q_pos, q_neg, q_T, q_F, q_max0, q_flg1, q_flg0, q_min, q_min2, q_bit, q_some]
  · rw [if_neg e]
    simp (disch := omega) only [fX3_readNumbers, lt, jn, q_lit, q_bnd, q_cl, q_le, q_lt, q_eq, pk_mul, nI_add, q_sub, q_div, q_pos, q_neg, q_T, q_F, q_max0, q_flg1, q_flg0, q_min, q_min2, q_bit, q_some]
theorem crest_bad {k : Nat} {T Sd T' : M2} (h : fX3_readNumbers (nI k) T Sd = some (nI 0, (T', Sd))) : crest (nI k) T Sd = some (nI 0, (T', Sd)) := by
  simp (disch := omega) only [crest, lt, jn, q_lit, q_bnd, q_cl, q_le, q_lt, q_eq, pk_mul, nI_add, q_sub, q_div, q_pos, q_neg, q_T, q_F, q_max0, q_flg1, q_flg0, q_min, q_min2, q_bit, q_some, h]
theorem crest_sign {k e pl : Nat} {T Sd T24 T27 T' : M2} {W' : M2} (h : fX3_readNumbers (nI k) T Sd = some (nI 1, (T24, Sd))) (h2 : fX3_nextToken T24 = some T27) (h3 : ¬ T27 6 0 = nI 3) (h4 : fX3_refuse (nI 2) (T27 7 0) T27 = some (nI 0, T')) (hb : BD e pl T' W') : crest (nI k) T Sd = some (nI 0, (T', Sd)) := by
  have z0 : ∀ (x : Int32 × (M2 × M2)), zb (nI 0) (some x) = some x := fun x => rfl
  simp (disch := omega) only [crest, lt, jn, q_lit, q_bnd, q_cl, q_le, q_lt, q_eq, pk_mul, nI_add, q_sub, q_div, q_pos, q_neg, q_T, q_F, q_max0, q_flg1, q_flg0, q_min, q_min2, q_bit, q_some, h, h2, h3, h4, z0]
theorem crest_ok {k : Nat} {T Sd T24 T27 : M2} (h : fX3_readNumbers (nI k) T Sd = some (nI 1, (T24, Sd))) (h2 : fX3_nextToken T24 = some T27) (h3 : T27 6 0 = nI 3) : crest (nI k) T Sd = (fX3_take (nI k) T27 Sd).bind fun q28 => some (nI 1, (q28.1, q28.2)) := by
  simp (disch := omega) only [crest, lt, jn, q_lit, q_bnd, q_cl, q_le, q_lt, q_eq, pk_mul, nI_add, q_sub, q_div, q_pos, q_neg, q_T, q_F, q_max0, q_flg1, q_flg0, q_min, q_min2, q_bit, q_some, h, h2, h3]
theorem mrest_go {k : Int32} {S29 S31 S33 : M2} (h : fX5_next S29 = some S31) (h17 : S31 17 0 = nI 0) (h2 : fX5_readLineOf k S31 = some S33) : mrest k S29 = mtail S33 := by
  simp (disch := omega) only [mrest, lt, jn, q_lit, q_bnd, q_cl, q_le, q_lt, q_eq, pk_mul, nI_add, q_sub, q_div, q_pos, q_neg, q_T, q_F, q_max0, q_flg1, q_flg0, q_min, q_min2, q_bit, q_some, h, h17, h2]
theorem mrest_no {k : Int32} {S29 S31 : M2} {e : Nat} (h : fX5_next S29 = some S31) (h17 : S31 17 0 = nI e) (he : 0 < e ∧ e < 10) : mrest k S29 = some S31 := by
  simp (disch := omega) only [mrest, lt, jn, q_lit, q_bnd, q_cl, q_le, q_lt, q_eq, pk_mul, nI_add, q_sub, q_div, q_pos, q_neg, q_T, q_F, q_max0, q_flg1, q_flg0, q_min, q_min2, q_bit, q_some, h, h17]
theorem three {c : Nat → Nat} {n p k : Nat} {T S29 Sd : M2} (u0 : M2 → M2) (u1 u2 u3 : Int32 → M2 → M2) (hk : k ≤ 4) (h : TB c n T S29) (hp : p ≤ n) (t2 : T 2 0 = nI 0) (s17 : S29 17 0 = nI 0) (t5 : T 5 0 = nI p) (s13 : S29 13 0 = nI p) (hu0 : ∀ S j, j ≠ 5 → u0 S j = S j) (hu1 : ∀ a S j, j ≠ 5 → u1 a S j = S j) (hu2 : ∀ a S j, j ≠ 5 → u2 a S j = S j) (hu3 : ∀ a S j, j ≠ 5 → j ≠ 6 → j ≠ 7 → u3 a S j = S j) (hg : ∀ S S1 S2 S4 S5 S7 S8 a1 a2 a3, (∀ j, j = 6 ∨ j = 7 → S j = S29 j) → fX5_looked (nI 0) (nI 5) (u0 S) = some (a1, S1) → fX5_next S1 = some S2 → fX5_looked (nI 0) (nI 9) (u1 a1 S2) = some (a2, S4) → fX5_next S4 = some S5 → fX5_looked (nI 0) (nI 2) (u2 a2 S5) = some (a3, S7) → fX5_next S7 = some S8 → (∀ j, j = 6 ∨ j = 7 → S8 j = S29 j) → fX5_readLineOf (nI k) S = some (u3 a3 S8)) :
  (∃ T27 S8 S5 S2 S31 v1 v2 v3 p', v1 ≤ 5 ∧ v2 ≤ 9 ∧ v3 ≤ 2 ∧ (crest (nI k) T Sd = (fX3_take (nI k) T27 Sd).bind fun q28 => some (nI 1, (q28.1, q28.2))) ∧ mrest (nI k) S29 = fX5_next (u3 (nI v3) S8) ∧ T27 4 0 = nI v1 ∧ T27 4 1 = nI v2 ∧ T27 4 2 = nI v3 ∧ T27 2 0 = nI 0 ∧ (T27 0 = T 0 ∧ T27 1 = T 1 ∧ T27 9 = T 9 ∧ T27 10 = T 10) ∧ S8 17 0 = nI 0 ∧ T27 5 0 = nI p' ∧ S8 13 0 = nI p' ∧ p < p' ∧ p' ≤ n ∧ (∀ j, j ≠ 5 → (j < 13 ∨ 18 < j) → S8 j = S29 j) ∧ S8 5 = u2 (nI v2) S5 5 ∧ S5 5 = u1 (nI v1) S2 5 ∧ S2 5 = u0 S31 5 ∧ S31 5 = S29 5) ∨ BO k T S29 Sd := by
  have e7 : (if k = 7 then 1 else 0) = 0 := if_neg (by omega)
  have m0 : moN k 0 = 5 := by
    unfold moN
    rw [if_neg (by omega), if_neg (by omega), if_neg (by omega), if_pos rfl]
  have m1 : moN k 1 = 9 := by
    unfold moN
    rw [if_neg (by omega), if_neg (by omega), if_neg (by omega), if_neg (by omega), if_pos rfl]
  have m2 : moN k 2 = 2 := by
    unfold moN
    rw [if_neg (by omega), if_neg (by omega), if_neg (by omega), if_neg (by omega), if_neg (by omega)]
  have rd := rdN (k := k) (by omega) T Sd
  rw [if_neg (by omega)] at rd
  obtain ⟨T8, S31, a1, a2, a3, a4, a5⟩ := nx h hp t2 s17 t5 s13
  have fr31 : ∀ j, (j < 13 ∨ 18 < j) → S31 j = S29 j := fun j hj => a4 j (by omega) (by omega) (by omega) (by omega) (by omega) (by omega)
  have b5 : NX n p T8 (u0 S31) := NX.w a5 fun j _ _ => hu0 S31 j (by omega)
  have x31 : ∀ j, j = 6 ∨ j = 7 → S31 j = S29 j := fun j hj => fr31 j (by omega)
  rcases t_num (T0 := T) (Sd0 := Sd) (Sd := Sd) (i := 0) (m := 3) (f := 399) (k := k) (by omega) (by omega) (by omega) (by omega) (fun p30 => some (nI 1, (p30.1, p30.2))) a1 b5 with ⟨v1, q1, p1, c1, c2, c3, c4, c5, c6, c7, c8, c9, c10, c11⟩ | ⟨T', W', e, pl, c1, c2, c3, c4, c5, c6⟩
  · rw [e7, m0] at c3
    rw [m0] at c2
    have w17 : S31 17 0 = nI 0 := by rw [← hu0 S31 17 (by omega)]; exact c4
    have g8 : ∀ j, j = 0 ∨ j = 1 ∨ j = 9 ∨ j = 10 → T8 j = T j := fun j hj => a3 j (by omega) (by omega) (by omega) (by omega) (by omega) (by omega)
    have f1 : MF S29 (u0 S31) := a4.mf.trans (MF.of5 (hu0 S31))
    have h1 : TB c n (va_up T8 4 (upd (T8 4) 0 (nI v1))) (u0 S31) := h.mv (by rw [q_up, if_neg (by omega)]; exact g8 0 (by omega)) (by rw [q_up, if_neg (by omega)]; exact g8 1 (by omega)) f1
    obtain ⟨T8b, S2, d1, d2, d3, d4, d5⟩ := nx h1 c8 (show va_up T8 4 (upd (T8 4) 0 (nI v1)) 2 0 = nI 0 from c5) c4 (show va_up T8 4 (upd (T8 4) 0 (nI v1)) 5 0 = nI p1 from c9) c10
    have fr2 : ∀ j, j ≠ 5 → (j < 13 ∨ 18 < j) → S2 j = S29 j := fun j h5 hj => by rw [d4 j (by omega) (by omega) (by omega) (by omega) (by omega) (by omega), hu0 S31 j h5, fr31 j hj]
    have x52 : S2 5 = u0 S31 5 := d4 5 (by omega) (by omega) (by omega) (by omega) (by omega) (by omega)
    have b6 : NX n p1 T8b (u1 (nI v1) S2) := NX.w d5 fun j _ _ => hu1 _ S2 j (by omega)
    have g8b : ∀ j, j = 0 ∨ j = 1 ∨ j = 9 ∨ j = 10 → T8b j = T j := fun j hj => by rw [d3 j (by omega) (by omega) (by omega) (by omega) (by omega) (by omega), q_up, if_neg (by omega), g8 j hj]
    rcases t_num (T0 := T) (Sd0 := Sd) (Sd := Sd) (i := 1) (m := 3) (f := 398) (k := k) (by omega) (by omega) (by omega) (by omega) (fun p30 => some (nI 1, (p30.1, p30.2))) d1 b6 with ⟨v2, q2, p2, i1, i2, i3, i4, i5, i6, i7, i8, i9, i10, i11⟩ | ⟨T', W', e, pl, i1, i2, i3, i4, i5, i6⟩
    · rw [e7, m1] at i3
      rw [m1] at i2
      have f2 : MF S29 (u1 (nI v1) S2) := f1.trans (d4.mf.trans (MF.of5 (hu1 _ S2)))
      have h2 : TB c n (va_up T8b 4 (upd (T8b 4) 1 (nI v2))) (u1 (nI v1) S2) := h.mv (by rw [q_up, if_neg (by omega)]; exact g8b 0 (by omega)) (by rw [q_up, if_neg (by omega)]; exact g8b 1 (by omega)) f2
      obtain ⟨T8c, S5, j1, j2, j3, j4, j5⟩ := nx h2 i8 (show va_up T8b 4 (upd (T8b 4) 1 (nI v2)) 2 0 = nI 0 from i5) i4 (show va_up T8b 4 (upd (T8b 4) 1 (nI v2)) 5 0 = nI p2 from i9) i10
      have fr5 : ∀ j, j ≠ 5 → (j < 13 ∨ 18 < j) → S5 j = S29 j := fun j h5 hj => by rw [j4 j (by omega) (by omega) (by omega) (by omega) (by omega) (by omega), hu1 _ S2 j h5, fr2 j h5 hj]
      have x55 : S5 5 = u1 (nI v1) S2 5 := j4 5 (by omega) (by omega) (by omega) (by omega) (by omega) (by omega)
      have b7 : NX n p2 T8c (u2 (nI v2) S5) := NX.w j5 fun j _ _ => hu2 _ S5 j (by omega)
      have g8c : ∀ j, j = 0 ∨ j = 1 ∨ j = 9 ∨ j = 10 → T8c j = T j := fun j hj => by rw [j3 j (by omega) (by omega) (by omega) (by omega) (by omega) (by omega), q_up, if_neg (by omega), g8b j hj]
      rcases t_num (T0 := T) (Sd0 := Sd) (Sd := Sd) (i := 2) (m := 3) (f := 397) (k := k) (by omega) (by omega) (by omega) (by omega) (fun p30 => some (nI 1, (p30.1, p30.2))) j1 b7 with ⟨v3, q3, p3, l1, l2, l3, l4, l5, l6, l7, l8, l9, l10, l11⟩ | ⟨T', W', e, pl, l1, l2, l3, l4, l5, l6⟩
      · rw [e7, m2] at l3
        rw [m2] at l2
        have f3 : MF S29 (u2 (nI v2) S5) := f2.trans (j4.mf.trans (MF.of5 (hu2 _ S5)))
        have h3 : TB c n (va_up T8c 4 (upd (T8c 4) 2 (nI v3))) (u2 (nI v2) S5) := h.mv (by rw [q_up, if_neg (by omega)]; exact g8c 0 (by omega)) (by rw [q_up, if_neg (by omega)]; exact g8c 1 (by omega)) f3
        obtain ⟨T27, S8, o1, o2, o3, o4, o5⟩ := nx h3 l8 (show va_up T8c 4 (upd (T8c 4) 2 (nI v3)) 2 0 = nI 0 from l5) l4 (show va_up T8c 4 (upd (T8c 4) 2 (nI v3)) 5 0 = nI p3 from l9) l10
        have fr8 : ∀ j, j ≠ 5 → (j < 13 ∨ 18 < j) → S8 j = S29 j := fun j h5 hj => by rw [o4 j (by omega) (by omega) (by omega) (by omega) (by omega) (by omega), hu2 _ S5 j h5, fr5 j h5 hj]
        have x58 : S8 5 = u2 (nI v2) S5 5 := o4 5 (by omega) (by omega) (by omega) (by omega) (by omega) (by omega)
        have b8 : NX n p3 T27 (u3 (nI v3) S8) := NX.w o5 fun j _ _ => hu3 _ S8 j (by omega) (by omega) (by omega)
        have g27 : ∀ j, j = 0 ∨ j = 1 ∨ j = 9 ∨ j = 10 → T27 j = T j := fun j hj => by rw [o3 j (by omega) (by omega) (by omega) (by omega) (by omega) (by omega), q_up, if_neg (by omega), g8c j hj]
        have rd1 : fX3_readNumbers (nI k) T Sd = some (nI 1, (va_up T8c 4 (upd (T8c 4) 2 (nI v3)), Sd)) := by
          rw [rd, c11, i11, l11, t_nums_end (m := 3) (by omega)]
        have lof : fX5_readLineOf (nI k) S31 = some (u3 (nI v3) S8) := hg S31 _ S2 _ S5 _ S8 _ _ _ x31 c3 d2 i3 j2 l3 o2 fun j hj => fr8 j (by omega) (by omega)
        have f4 : MF S29 (u3 (nI v3) S8) := f3.trans (o4.mf.trans (MF.of57 (hu3 _ S8)))
        rcases sign b8 with ⟨s1, s2, s3, s4, p', s5, s6, s7, s8⟩ | ⟨s1, T', W', e, pl, s2, s3, s4, s5, s6⟩
        · have n4 : T27 4 = upd (T8c 4) 2 (nI v3) := o3 4 (by omega) (by omega) (by omega) (by omega) (by omega) (by omega)
          have n4c : T8c 4 = upd (T8b 4) 1 (nI v2) := j3 4 (by omega) (by omega) (by omega) (by omega) (by omega) (by omega)
          have n4b : T8b 4 = upd (T8 4) 0 (nI v1) := d3 4 (by omega) (by omega) (by omega) (by omega) (by omega) (by omega)
          refine Or.inl ⟨T27, S8, S5, S2, S31, v1, v2, v3, p', c2, i2, l2, crest_ok rd1 o1 s1, ?_, ?_, ?_, ?_, s4, ⟨g27 0 (by omega), g27 1 (by omega), g27 9 (by omega), g27 10 (by omega)⟩, ?_, s7, ?_, by omega, s6, fr8, x58, x55, x52, fr31 5 (by omega)⟩
          · rw [mrest_go a2 w17 lof, s2]
          · rw [n4, n4c, n4b]
            rfl
          · rw [n4, n4c]
            rfl
          · rw [n4]
            rfl
          · rw [← hu3 (nI v3) S8 17 (by omega) (by omega) (by omega)]
            exact s3
          · rw [← hu3 (nI v3) S8 13 (by omega) (by omega) (by omega)]
            exact s8
        · refine Or.inr ⟨T', W', e, pl, crest_sign rd1 o1 s1 s2 s4, ?_, ?_, ?_, f4.trans (MF.of1718 s6), s4⟩
          · rw [mrest_go a2 w17 lof, s3]
          · rw [s5 0 (by omega) (by omega)]
            exact g27 0 (by omega)
          · rw [s5 1 (by omega) (by omega)]
            exact g27 1 (by omega)
      · rw [e7, m2] at l2
        have hb17 := l3.2.1
        have hbe : 0 < e ∧ e < 10 := ⟨l3.2.2.1, l3.2.2.2.1⟩
        have f3 : MF S29 W' := (f2.trans (j4.mf.trans (MF.of5 (hu2 _ S5)))).trans (MF.of1718 l5)
        have x6 : ∀ j, j = 6 ∨ j = 7 → W' j = S29 j := fun j hj => by rw [l5 j (by omega) (by omega), hu2 _ S5 j (by omega), fr5 j (by omega) (by omega)]
        have lof : fX5_readLineOf (nI k) S31 = some (u3 (nI 0) W') := hg S31 _ S2 _ S5 _ W' _ _ _ x31 c3 d2 i3 j2 l2 (nx_bad hb17 hbe) x6
        have hb2 : BD e pl T' (u3 (nI 0) W') := l3.w fun j _ _ => hu3 _ W' j (by omega) (by omega) (by omega)
        refine Or.inr ⟨T', _, e, pl, crest_bad (by rw [rd, c11, i11, l1]), ?_, ?_, ?_, f3.trans (MF.of57 (hu3 _ W')), hb2⟩
        · rw [mrest_go a2 w17 lof, mt_bad hb2.2.1 hbe]
        · rw [l4 0 (by omega) (by omega)]
          exact g8c 0 (by omega)
        · rw [l4 1 (by omega) (by omega)]
          exact g8c 1 (by omega)
    · rw [e7, m1] at i2
      have hb17 := i3.2.1
      have hbe : 0 < e ∧ e < 10 := ⟨i3.2.2.1, i3.2.2.2.1⟩
      have f2 : MF S29 W' := (f1.trans (d4.mf.trans (MF.of5 (hu1 _ S2)))).trans (MF.of1718 i5)
      have x6 : ∀ j, j = 6 ∨ j = 7 → u2 (nI 0) W' j = S29 j := fun j hj => by rw [hu2 _ W' j (by omega), i5 j (by omega) (by omega), hu1 _ S2 j (by omega), fr2 j (by omega) (by omega)]
      have z2 : u2 (nI 0) W' 17 0 = nI e := by rw [hu2 _ W' 17 (by omega)]; exact hb17
      have lof : fX5_readLineOf (nI k) S31 = some (u3 (nI 0) (u2 (nI 0) W')) := hg S31 _ S2 _ W' _ (u2 (nI 0) W') _ _ _ x31 c3 d2 i2 (nx_bad hb17 hbe) (lk_bad z2 hbe _ _) (nx_bad z2 hbe) x6
      have hb2 : BD e pl T' (u3 (nI 0) (u2 (nI 0) W')) := i3.w fun j _ _ => by rw [hu3 _ _ j (by omega) (by omega) (by omega), hu2 _ W' j (by omega)]
      refine Or.inr ⟨T', _, e, pl, crest_bad (by rw [rd, c11, i1]), ?_, ?_, ?_, (f2.trans (MF.of5 (hu2 _ W'))).trans (MF.of57 (hu3 _ _)), hb2⟩
      · rw [mrest_go a2 w17 lof, mt_bad hb2.2.1 hbe]
      · rw [i4 0 (by omega) (by omega)]
        exact g8b 0 (by omega)
      · rw [i4 1 (by omega) (by omega)]
        exact g8b 1 (by omega)
  · rw [e7, m0] at c2
    have hb17 := c3.2.1
    have hbe : 0 < e ∧ e < 10 := ⟨c3.2.2.1, c3.2.2.2.1⟩
    have t0 : T' 0 = T 0 := by rw [c4 0 (by omega) (by omega)]; exact a3 0 (by omega) (by omega) (by omega) (by omega) (by omega) (by omega)
    have t1 : T' 1 = T 1 := by rw [c4 1 (by omega) (by omega)]; exact a3 1 (by omega) (by omega) (by omega) (by omega) (by omega) (by omega)
    rcases c6 with c6 | c6
    · have w17 : S31 17 0 = nI 0 := by rw [← hu0 S31 17 (by omega)]; exact c6
      have z1 : u1 (nI 0) W' 17 0 = nI e := by rw [hu1 _ W' 17 (by omega)]; exact hb17
      have z2 : u2 (nI 0) (u1 (nI 0) W') 17 0 = nI e := by rw [hu2 _ _ 17 (by omega)]; exact z1
      have x6 : ∀ j, j = 6 ∨ j = 7 → u2 (nI 0) (u1 (nI 0) W') j = S29 j := fun j hj => by rw [hu2 _ _ j (by omega), hu1 _ W' j (by omega), c5 j (by omega) (by omega), hu0 S31 j (by omega), fr31 j (by omega)]
      have lof : fX5_readLineOf (nI k) S31 = some (u3 (nI 0) (u2 (nI 0) (u1 (nI 0) W'))) := hg S31 _ W' _ (u1 (nI 0) W') _ (u2 (nI 0) (u1 (nI 0) W')) _ _ _ x31 c2 (nx_bad hb17 hbe) (lk_bad z1 hbe _ _) (nx_bad z1 hbe) (lk_bad z2 hbe _ _) (nx_bad z2 hbe) x6
      have hb2 : BD e pl T' (u3 (nI 0) (u2 (nI 0) (u1 (nI 0) W'))) := c3.w fun j _ _ => by rw [hu3 _ _ j (by omega) (by omega) (by omega), hu2 _ _ j (by omega), hu1 _ W' j (by omega)]
      have f1 : MF S29 W' := (a4.mf.trans (MF.of5 (hu0 S31))).trans (MF.of1718 c5)
      refine Or.inr ⟨T', _, e, pl, crest_bad (by rw [rd, c1]), ?_, t0, t1, ((f1.trans (MF.of5 (hu1 _ W'))).trans (MF.of5 (hu2 _ _))).trans (MF.of57 (hu3 _ _)), hb2⟩
      rw [mrest_go a2 w17 lof, mt_bad hb2.2.1 hbe]
    · subst c6
      have w17 : S31 17 0 = nI e := by rw [← hu0 S31 17 (by omega)]; exact hb17
      refine Or.inr ⟨T', S31, e, pl, crest_bad (by rw [rd, c1]), mrest_no a2 w17 hbe, t0, t1, a4.mf, c3.w fun j _ _ => (hu0 S31 j (by omega)).symm⟩
