/-! a line of one number: moon, rate; camphor -/
theorem one {c : Nat → Nat} {n p k : Nat} {T S29 Sd : M2} (u : Int32 → M2 → M2) (hk : k = 6 ∨ k = 7) (h : TB c n T S29) (hp : p ≤ n) (t2 : T 2 0 = nI 0) (s17 : S29 17 0 = nI 0) (t5 : T 5 0 = nI p) (s13 : S29 13 0 = nI p) (hu : ∀ a S j, j ≠ 5 → u a S j = S j) (hg : ∀ S S1 S2 a, fX5_looked (nI (if k = 7 then 1 else 0)) (nI (moN k 0)) S = some (a, S1) → fX5_next S1 = some S2 → fX5_readLineOf (nI k) S = some (u a S2)) :
  (∃ T27 S2 v p', (if k = 7 then 1 else 0) ≤ v ∧ v ≤ moN k 0 ∧ (crest (nI k) T Sd = (fX3_take (nI k) T27 Sd).bind fun q28 => some (nI 1, (q28.1, q28.2))) ∧ mrest (nI k) S29 = fX5_next (u (nI v) S2) ∧ T27 4 0 = nI v ∧ T27 2 0 = nI 0 ∧ (T27 0 = T 0 ∧ T27 1 = T 1 ∧ T27 9 = T 9 ∧ T27 10 = T 10) ∧ S2 17 0 = nI 0 ∧ T27 5 0 = nI p' ∧ S2 13 0 = nI p' ∧ p < p' ∧ p' ≤ n ∧ (∀ j, (j < 13 ∨ 18 < j) → S2 j = S29 j)) ∨ BO k T S29 Sd := by
  have rd := rdN (k := k) (by omega) T Sd
  rw [if_pos (by omega)] at rd
  obtain ⟨T8, S31, a1, a2, a3, a4, a5⟩ := nx h hp t2 s17 t5 s13
  have fr31 : ∀ j, (j < 13 ∨ 18 < j) → S31 j = S29 j := fun j hj => a4 j (by omega) (by omega) (by omega) (by omega) (by omega) (by omega)
  rcases t_num (T0 := T) (Sd0 := Sd) (Sd := Sd) (i := 0) (m := 1) (f := 399) (k := k) (by omega) (by omega) (by omega) (by omega) (fun p30 => some (nI 1, (p30.1, p30.2))) a1 a5 with ⟨v1, q1, p1, c1, c2, c3, c4, c5, c6, c7, c8, c9, c10, c11⟩ | ⟨T', W', e, pl, c1, c2, c3, c4, c5, c6⟩
  · have g8 : ∀ j, j = 0 ∨ j = 1 ∨ j = 9 ∨ j = 10 → T8 j = T j := fun j hj => a3 j (by omega) (by omega) (by omega) (by omega) (by omega) (by omega)
    have f1 : MF S29 S31 := a4.mf
    have h1 : TB c n (va_up T8 4 (upd (T8 4) 0 (nI v1))) S31 := h.mv (by rw [q_up, if_neg (by omega)]; exact g8 0 (by omega)) (by rw [q_up, if_neg (by omega)]; exact g8 1 (by omega)) f1
    obtain ⟨T27, S2, o1, o2, o3, o4, o5⟩ := nx h1 c8 (show va_up T8 4 (upd (T8 4) 0 (nI v1)) 2 0 = nI 0 from c5) c4 (show va_up T8 4 (upd (T8 4) 0 (nI v1)) 5 0 = nI p1 from c9) c10
    have fr2 : ∀ j, (j < 13 ∨ 18 < j) → S2 j = S29 j := fun j hj => by rw [o4 j (by omega) (by omega) (by omega) (by omega) (by omega) (by omega), fr31 j hj]
    have b8 : NX n p1 T27 (u (nI v1) S2) := NX.w o5 fun j _ _ => hu _ S2 j (by omega)
    have g27 : ∀ j, j = 0 ∨ j = 1 ∨ j = 9 ∨ j = 10 → T27 j = T j := fun j hj => by rw [o3 j (by omega) (by omega) (by omega) (by omega) (by omega) (by omega), q_up, if_neg (by omega), g8 j hj]
    have rd1 : fX3_readNumbers (nI k) T Sd = some (nI 1, (va_up T8 4 (upd (T8 4) 0 (nI v1)), Sd)) := by
      rw [rd, c11, t_nums_end (m := 1) (by omega)]
    have lof : fX5_readLineOf (nI k) S31 = some (u (nI v1) S2) := hg S31 _ S2 _ c3 o2
    have f4 : MF S29 (u (nI v1) S2) := f1.trans (o4.mf.trans (MF.of5 (hu _ S2)))
    rcases sign b8 with ⟨s1, s2, s3, s4, p', s5, s6, s7, s8⟩ | ⟨s1, T', W', e, pl, s2, s3, s4, s5, s6⟩
    · have n4 : T27 4 = upd (T8 4) 0 (nI v1) := o3 4 (by omega) (by omega) (by omega) (by omega) (by omega) (by omega)
      refine Or.inl ⟨T27, S2, v1, p', c1, c2, crest_ok rd1 o1 s1, ?_, ?_, s4, ⟨g27 0 (by omega), g27 1 (by omega), g27 9 (by omega), g27 10 (by omega)⟩, ?_, s7, ?_, by omega, s6, fr2⟩
      · rw [mrest_go a2 c4 lof, s2]
      · rw [n4]
        rfl
      · rw [← hu (nI v1) S2 17 (by omega)]
        exact s3
      · rw [← hu (nI v1) S2 13 (by omega)]
        exact s8
    · refine Or.inr ⟨T', W', e, pl, crest_sign rd1 o1 s1 s2 s4, ?_, ?_, ?_, f4.trans (MF.of1718 s6), s4⟩
      · rw [mrest_go a2 c4 lof, s3]
      · rw [s5 0 (by omega) (by omega)]
        exact g27 0 (by omega)
      · rw [s5 1 (by omega) (by omega)]
        exact g27 1 (by omega)
  · have hb17 := c3.2.1
    have hbe : 0 < e ∧ e < 10 := ⟨c3.2.2.1, c3.2.2.2.1⟩
    have t0 : T' 0 = T 0 := by rw [c4 0 (by omega) (by omega)]; exact a3 0 (by omega) (by omega) (by omega) (by omega) (by omega) (by omega)
    have t1 : T' 1 = T 1 := by rw [c4 1 (by omega) (by omega)]; exact a3 1 (by omega) (by omega) (by omega) (by omega) (by omega) (by omega)
    rcases c6 with c6 | c6
    · have lof : fX5_readLineOf (nI k) S31 = some (u (nI 0) W') := hg S31 W' _ _ c2 (nx_bad hb17 hbe)
      have hb2 : BD e pl T' (u (nI 0) W') := c3.w fun j _ _ => hu _ W' j (by omega)
      refine Or.inr ⟨T', _, e, pl, crest_bad (by rw [rd, c1]), ?_, t0, t1, (a4.mf.trans (MF.of1718 c5)).trans (MF.of5 (hu _ W')), hb2⟩
      rw [mrest_go a2 c6 lof, mt_bad hb2.2.1 hbe]
    · subst c6
      refine Or.inr ⟨T', W', e, pl, crest_bad (by rw [rd, c1]), mrest_no a2 hb17 hbe, t0, t1, a4.mf, c3⟩
theorem camph {c : Nat → Nat} {n p cam : Nat} {T S29 Sd : M2} (h : TB c n T S29) (hp : p ≤ n) (t2 : T 2 0 = nI 0) (s17 : S29 17 0 = nI 0) (t5 : T 5 0 = nI p) (s13 : S29 13 0 = nI p) (hcam : cam < 32) (h9 : S29 9 0 = nI cam) (hc : Sd 4 0 = nI cam) :
  (∃ T27 W v p', v ≤ 4 ∧ crest (nI 5) T Sd = some (nI 1, (T27, va_up Sd 4 (fun _ => nI (cam ||| 2 ^ v)))) ∧ mrest (nI 5) S29 = fX5_next W ∧ T27 2 0 = nI 0 ∧ (T27 0 = T 0 ∧ T27 1 = T 1 ∧ T27 9 = T 9 ∧ T27 10 = T 10) ∧ W 17 0 = nI 0 ∧ T27 5 0 = nI p' ∧ W 13 0 = nI p' ∧ p < p' ∧ p' ≤ n ∧ W 9 0 = nI (cam ||| 2 ^ v) ∧ W 10 0 = (if nI v ≤ S29 10 0 then S29 10 0 else nI v) ∧ (∀ j, j ≠ 9 → j ≠ 10 → (j < 13 ∨ 18 < j) → W j = S29 j)) ∨ BO 5 T S29 Sd := by
  have z0 : ∀ (x : Int32 × (M2 × M2)), zb (nI 0) (some x) = some x := fun x => rfl
  have rd := rdN (k := 5) (by omega) T Sd
  rw [if_pos (by omega)] at rd
  obtain ⟨T8, S31, a1, a2, a3, a4, a5⟩ := nx h hp t2 s17 t5 s13
  have fr31 : ∀ j, (j < 13 ∨ 18 < j) → S31 j = S29 j := fun j hj => a4 j (by omega) (by omega) (by omega) (by omega) (by omega) (by omega)
  have g8 : ∀ j, j = 0 ∨ j = 1 ∨ j = 9 ∨ j = 10 → T8 j = T j := fun j hj => a3 j (by omega) (by omega) (by omega) (by omega) (by omega) (by omega)
  have m0 : moN 5 0 = 4 := rfl
  have h9' : S31 9 0 = nI cam := by rw [fr31 9 (by omega)]; exact h9
  rcases check (lo := 0) (hi := 4) a5 (by omega) with ⟨v, q, p1, b1, b2, b3, b4, b5, b6, b7, b8, b9, b10, b11, b12, b13, b14⟩ | ⟨T', W', e, pl, b1, b2, b3, b4, b5, b6⟩
  · have hw : fX4_within (nI v) (nI 0) (nI 4) = some (nI 1) := q_win ⟨b3, b4, by omega⟩
    have hh : fX1_hasCamphor (nI v) Sd = some (nI (cam.testBit v).toNat) := by
      cases e : cam.testBit v
      · simp (disch := omega) only [fX1_hasCamphor, lt, jn, q_lit, q_bnd, q_cl, q_le, q_lt, q_eq, pk_mul, nI_add, q_sub, q_div, q_pos, q_neg, q_T, q_F, q_max0, q_flg1, q_flg0, q_min, q_min2, q_bit, q_some, hc, e, Bool.toNat_false]
      · simp (disch := omega) only [fX1_hasCamphor, lt, jn, q_lit, q_bnd, q_cl, q_le, q_lt, q_eq, pk_mul, nI_add, q_sub, q_div, q_pos, q_neg, q_T, q_F, q_max0, q_flg1, q_flg0, q_min, q_min2, q_bit, q_some, hc, e, Bool.toNat_true]
    by_cases e : cam.testBit v = true
    · rw [e] at hh
      have k1 : fX3_readNumbers (nI 5) T Sd = some (nI 0, (va_up (va_up T8 2 (fun _ => nI 4)) 3 (fun _ => T8 7 0), Sd)) := by
        have L : ∀ f, fX3_readNumbers_L14 T Sd (nI 5) (nI 1) (fun p30 => some (nI 1, (p30.1, p30.2))) (f + 1) (nI 0) T Sd = some (nI 0, (va_up (va_up T8 2 (fun _ => nI 4)) 3 (fun _ => T8 7 0), Sd)) := by
          intro f
          simp (disch := omega) only [fX3_readNumbers_L14, lt, jn, q_lit, q_bnd, q_cl, q_le, q_lt, q_eq, pk_mul, nI_add, q_sub, q_div, q_pos, q_neg, q_T, q_F, q_max0, q_flg1, q_flg0, q_min, q_min2, q_bit, q_some, a1, b1, b2, t_most, m0, hw, hh, Bool.toNat_true, rf_new b7, z0]
        rw [rd]
        exact L 399
      have lof : ∃ W', fX5_readLineOf (nI 5) S31 = some W' ∧ BD 4 q (va_up (va_up T8 2 (fun _ => nI 4)) 3 (fun _ => T8 7 0)) W' ∧ MF S31 W' := by
        by_cases e2 : nI v ≤ S31 10 0
        · have hb : fX5_next (va_up (va_up (va_up (va_up S31 17 (fun _ => nI 4)) 18 (fun _ => S31 14 0)) 9 (fun _ => nI cam ||| (nI 1 <<< (nI v &&& nI 31)))) 10 (fun _ => S31 10 0)) = some _ := nx_bad (e := 4) rfl (by omega)
          refine ⟨va_up (va_up (va_up (va_up S31 17 (fun _ => nI 4)) 18 (fun _ => S31 14 0)) 9 (fun _ => nI cam ||| (nI 1 <<< (nI v &&& nI 31)))) 10 (fun _ => S31 10 0), ?_, ⟨rfl, rfl, by omega, by omega, b13, b14⟩, fun j hj => ?_⟩
          · simp (disch := omega) only [fX5_readLineOf, fX5_readCamphor, lt, jn, q_lit, q_bnd, q_cl, q_le, q_lt, q_eq, pk_mul, nI_add, q_sub, q_div, q_pos, q_neg, q_T, q_F, q_max0, q_flg1, q_flg0, q_min, q_min2, q_bit, q_some, b5, b6, h9', e, Bool.toNat_true, nd_new b6, q_up, e2, hb]
          · rw [q_up, if_neg (by omega), q_up, if_neg (by omega), q_up, if_neg (by omega), q_up, if_neg (by omega)]
        · have hb : fX5_next (va_up (va_up (va_up (va_up S31 17 (fun _ => nI 4)) 18 (fun _ => S31 14 0)) 9 (fun _ => nI cam ||| (nI 1 <<< (nI v &&& nI 31)))) 10 (fun _ => nI v)) = some _ := nx_bad (e := 4) rfl (by omega)
          refine ⟨va_up (va_up (va_up (va_up S31 17 (fun _ => nI 4)) 18 (fun _ => S31 14 0)) 9 (fun _ => nI cam ||| (nI 1 <<< (nI v &&& nI 31)))) 10 (fun _ => nI v), ?_, ⟨rfl, rfl, by omega, by omega, b13, b14⟩, fun j hj => ?_⟩
          · simp (disch := omega) only [fX5_readLineOf, fX5_readCamphor, lt, jn, q_lit, q_bnd, q_cl, q_le, q_lt, q_eq, pk_mul, nI_add, q_sub, q_div, q_pos, q_neg, q_T, q_F, q_max0, q_flg1, q_flg0, q_min, q_min2, q_bit, q_some, b5, b6, h9', e, Bool.toNat_true, nd_new b6, q_up, e2, hb]
          · rw [q_up, if_neg (by omega), q_up, if_neg (by omega), q_up, if_neg (by omega), q_up, if_neg (by omega)]
      obtain ⟨W', l1, l2, l3⟩ := lof
      refine Or.inr ⟨_, W', 4, q, crest_bad k1, ?_, ?_, ?_, a4.mf.trans l3, l2⟩
      · rw [mrest_go a2 b6 l1, mt_bad l2.2.1 (by omega)]
      · rw [q_up, if_neg (by omega), q_up, if_neg (by omega)]
        exact g8 0 (by omega)
      · rw [q_up, if_neg (by omega), q_up, if_neg (by omega)]
        exact g8 1 (by omega)
    · have e' : cam.testBit v = false := by simpa using e
      rw [e'] at hh
      have k1 : fX3_readNumbers (nI 5) T Sd = some (nI 1, (va_up T8 4 (upd (T8 4) 0 (nI v)), Sd)) := by
        have L : ∀ f, fX3_readNumbers_L14 T Sd (nI 5) (nI 1) (fun p30 => some (nI 1, (p30.1, p30.2))) (f + 1) (nI 0) T Sd = fX3_readNumbers_L14 T Sd (nI 5) (nI 1) (fun p30 => some (nI 1, (p30.1, p30.2))) f (nI (0 + 1)) (va_up T8 4 (upd (T8 4) 0 (nI v))) Sd := by
          intro f
          simp (disch := omega) only [fX3_readNumbers_L14, lt, jn, q_lit, q_bnd, q_cl, q_le, q_lt, q_eq, pk_mul, nI_add, q_sub, q_div, q_pos, q_neg, q_T, q_F, q_max0, q_flg1, q_flg0, q_min, q_min2, q_bit, q_some, a1, b1, b2, t_most, m0, hw, hh, Bool.toNat_false]
        rw [rd]
        refine (L 399).trans ?_
        exact t_nums_end (m := 1) (f := 398) (by omega) _
      have hsh : nI cam ||| (nI 1 <<< (nI v &&& nI 31)) = nI (cam ||| 2 ^ v) := by rw [q_shl (by omega), q_or]
      have stage : ∃ W0, W0 9 0 = nI (cam ||| 2 ^ v) ∧ W0 10 0 = (if nI v ≤ S29 10 0 then S29 10 0 else nI v) ∧ (∀ j, j ≠ 9 → j ≠ 10 → W0 j = S31 j) ∧ ∀ W1, fX5_next W0 = some W1 → fX5_readLineOf (nI 5) S31 = some W1 := by
        by_cases e2 : nI v ≤ S31 10 0
        · refine ⟨va_up (va_up S31 9 (fun _ => nI (cam ||| 2 ^ v))) 10 (fun _ => S31 10 0), rfl, ?_, fun j h9 h10 => by rw [q_up, if_neg h10, q_up, if_neg h9], fun W1 hn => ?_⟩
          · rw [← fr31 10 (by omega), if_pos e2]
            rfl
          · simp (disch := omega) only [fX5_readLineOf, fX5_readCamphor, lt, jn, q_lit, q_bnd, q_cl, q_le, q_lt, q_eq, pk_mul, nI_add, q_sub, q_div, q_pos, q_neg, q_T, q_F, q_max0, q_flg1, q_flg0, q_min, q_min2, q_bit, q_some, b5, b6, h9', e', Bool.toNat_false, nd_ok, q_up, hsh, e2, hn]
        · refine ⟨va_up (va_up S31 9 (fun _ => nI (cam ||| 2 ^ v))) 10 (fun _ => nI v), rfl, ?_, fun j h9 h10 => by rw [q_up, if_neg h10, q_up, if_neg h9], fun W1 hn => ?_⟩
          · rw [← fr31 10 (by omega), if_neg e2]
            rfl
          · simp (disch := omega) only [fX5_readLineOf, fX5_readCamphor, lt, jn, q_lit, q_bnd, q_cl, q_le, q_lt, q_eq, pk_mul, nI_add, q_sub, q_div, q_pos, q_neg, q_T, q_F, q_max0, q_flg1, q_flg0, q_min, q_min2, q_bit, q_some, b5, b6, h9', e', Bool.toNat_false, nd_ok, q_up, hsh, e2, hn]
      obtain ⟨W0, w9, w10, wj, wn⟩ := stage
      have f1 : MF S29 W0 := a4.mf.trans fun j hj => wj j (by omega) (by omega)
      have h1 : TB c n (va_up T8 4 (upd (T8 4) 0 (nI v))) W0 := h.mv (by rw [q_up, if_neg (by omega)]; exact g8 0 (by omega)) (by rw [q_up, if_neg (by omega)]; exact g8 1 (by omega)) f1
      obtain ⟨T27, S2, o1, o2, o3, o4, o5⟩ := nx h1 b10 (show va_up T8 4 (upd (T8 4) 0 (nI v)) 2 0 = nI 0 from b7) (by rw [wj 17 (by omega) (by omega)]; exact b6) (show va_up T8 4 (upd (T8 4) 0 (nI v)) 5 0 = nI p1 from b11) (by rw [wj 13 (by omega) (by omega)]; exact b12)
      have lof := wn S2 o2
      have fr2 : ∀ j, j ≠ 9 → j ≠ 10 → (j < 13 ∨ 18 < j) → S2 j = S29 j := fun j h9 h10 hj => by rw [o4 j (by omega) (by omega) (by omega) (by omega) (by omega) (by omega), wj j h9 h10, fr31 j hj]
      have g27 : ∀ j, j = 0 ∨ j = 1 ∨ j = 9 ∨ j = 10 → T27 j = T j := fun j hj => by rw [o3 j (by omega) (by omega) (by omega) (by omega) (by omega) (by omega), q_up, if_neg (by omega), g8 j hj]
      rcases sign o5 with ⟨s1, s2, s3, s4, p', s5, s6, s7, s8⟩ | ⟨s1, T', W', e, pl, s2, s3, s4, s5, s6⟩
      · have n4 : T27 4 = upd (T8 4) 0 (nI v) := o3 4 (by omega) (by omega) (by omega) (by omega) (by omega) (by omega)
        have n40 : T27 4 0 = nI v := by rw [n4]; rfl
        refine Or.inl ⟨T27, S2, v, p', b4, ?_, ?_, s4, ⟨g27 0 (by omega), g27 1 (by omega), g27 9 (by omega), g27 10 (by omega)⟩, s3, s7, s8, by omega, s6, ?_, ?_, fr2⟩
        · rw [crest_ok k1 o1 s1]
          simp (disch := omega) only [fX3_take, lt, jn, q_lit, q_bnd, q_cl, q_le, q_lt, q_eq, pk_mul, nI_add, q_sub, q_div, q_pos, q_neg, q_T, q_F, q_max0, q_flg1, q_flg0, q_min, q_min2, q_bit, q_some, hc, n40, hsh]
        · rw [mrest_go a2 b6 lof, s2]
        · rw [o4 9 (by omega) (by omega) (by omega) (by omega) (by omega) (by omega)]
          exact w9
        · rw [o4 10 (by omega) (by omega) (by omega) (by omega) (by omega) (by omega)]
          exact w10
      · refine Or.inr ⟨T', W', e, pl, crest_sign k1 o1 s1 s2 s4, ?_, ?_, ?_, (f1.trans o4.mf).trans (MF.of1718 s6), s4⟩
        · rw [mrest_go a2 b6 lof, s3]
        · rw [s5 0 (by omega) (by omega)]
          exact g27 0 (by omega)
        · rw [s5 1 (by omega) (by omega)]
          exact g27 1 (by omega)
  · have hb17 := b3.2.1
    have hbe : 0 < e ∧ e < 10 := ⟨b3.2.2.1, b3.2.2.2.1⟩
    have t0 : T' 0 = T 0 := by rw [b4 0 (by omega) (by omega)]; exact g8 0 (by omega)
    have t1 : T' 1 = T 1 := by rw [b4 1 (by omega) (by omega)]; exact g8 1 (by omega)
    have k1 : fX3_readNumbers (nI 5) T Sd = some (nI 0, (T', Sd)) := by
      rw [rd]
      refine (?_ : ∀ f, fX3_readNumbers_L14 T Sd (nI 5) (nI 1) (fun p30 => some (nI 1, (p30.1, p30.2))) (f + 1) (nI 0) T Sd = some (nI 0, (T', Sd))) 399
      intro f
      rcases b1 with ⟨d1, d2⟩ | ⟨d1, ⟨v, v1, v2, v3⟩, d2⟩
      · simp (disch := omega) only [fX3_readNumbers_L14, lt, jn, q_lit, q_bnd, q_cl, q_le, q_lt, q_eq, pk_mul, nI_add, q_sub, q_div, q_pos, q_neg, q_T, q_F, q_max0, q_flg1, q_flg0, q_min, q_min2, q_bit, q_some, a1, d1, d2, z0]
      · have hw : fX4_within (nI v) (nI 0) (nI 4) = some (nI 0) := by
          rw [within_b (by omega), decide_eq_false v3]
          rfl
        simp (disch := omega) only [fX3_readNumbers_L14, lt, jn, q_lit, q_bnd, q_cl, q_le, q_lt, q_eq, pk_mul, nI_add, q_sub, q_div, q_pos, q_neg, q_T, q_F, q_max0, q_flg1, q_flg0, q_min, q_min2, q_bit, q_some, a1, d1, v2, t_most, m0, hw, d2, z0]
    rcases b6 with c6 | c6
    · have lof : fX5_readLineOf (nI 5) S31 = some W' := by
        have hb := nx_bad hb17 hbe
        have hz : ¬ nI e = nI 0 := by
          rw [q_eq (by omega)]
          omega
        simp (disch := omega) only [fX5_readLineOf, fX5_readCamphor, lt, jn, q_lit, q_bnd, q_cl, q_le, q_lt, q_eq, pk_mul, nI_add, q_sub, q_div, q_pos, q_neg, q_T, q_F, q_max0, q_flg1, q_flg0, q_min, q_min2, q_bit, q_some, b2, hb17, hb]
      refine Or.inr ⟨T', _, e, pl, crest_bad k1, ?_, t0, t1, a4.mf.trans (MF.of1718 b5), b3⟩
      rw [mrest_go a2 c6 lof, mt_bad hb17 hbe]
    · subst c6
      refine Or.inr ⟨T', W', e, pl, crest_bad k1, mrest_no a2 hb17 hbe, t0, t1, a4.mf, b3⟩
