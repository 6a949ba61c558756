/-! a line: what class and model do once its name is read -/
def mtail (S33 : M2) : Option M2 :=
  if (S33 17 0) = 0 then
    jn (α := Option (M2)) (β := Int32) (fun j36 =>
      if (S33 15 0) = (3 : Int32) then
        j36 (1 : Int32)
      else
        j36 (0 : Int32)) (fun p38 =>
      (fX5_needs p38 (2 : Int32) S33).bind fun q39 =>
      lt (q39) fun S40 =>
      (fX5_next S40).bind fun q41 =>
      lt (q41) fun S42 =>
      some S42)
  else
    (fX5_next S33).bind fun q34 =>
    lt (q34) fun S35 =>
    some S35
def mrest (k : Int32) (S29 : M2) : Option M2 :=
  (fX5_next S29).bind fun q30 =>
  lt (q30) fun S31 =>
  if (S31 17 0) ≤ 0 then
    (fX5_readLineOf k S31).bind fun q32 =>
    lt (q32) fun S33 => mtail S33
  else some S31
def crest (k : Int32) (T S : M2) : Option (Int32 × (M2 × M2)) :=
  (fX3_readNumbers k T S).bind fun q23 =>
  lt q23.2.1 fun T24 => lt q23.2.2 fun S25 =>
  if q23.1 = 0 then
    some ((0 : Int32), (T24, S25))
  else
    (fX3_nextToken T24).bind fun q26 =>
    lt (q26) fun T27 =>
    if (T27 6 0) = (3 : Int32) then
      (fX3_take k T27 S25).bind fun q28 =>
      lt q28.1 fun T29 => lt q28.2 fun S30 =>
      some ((1 : Int32), (T29, S30))
    else
      (fX3_refuse (2 : Int32) (T27 7 0) T27).bind fun q31 =>
      lt (q31.2) fun T32 =>
      zb q31.1 (some (q31.1, (T32, S25)))
def NX (n p : Nat) (T S : M2) : Prop := (∃ tk q p', p ≤ q ∧ TOK tk n q p' T S) ∨ ∃ pl, BD 1 pl T S ∧ T 6 0 = nI 5
theorem nx_bad {S : M2} {e : Nat} (h : S 17 0 = nI e) (he : 0 < e ∧ e < 10) : fX5_next S = some S := by
  simp (disch := omega) only [fX5_next, lt, jn, q_lit, q_bnd, q_cl, q_le, q_lt, q_eq, pk_mul, nI_add, q_sub, q_div, q_pos, q_neg, q_T, q_F, q_max0, q_flg1, q_flg0, q_min, q_min2, q_bit, q_some, h]
theorem nd_bad {S : M2} {e : Nat} (h : S 17 0 = nI e) (he : 0 < e ∧ e < 10) (x y : Int32) : fX5_needs x y S = some S := by
  by_cases e1 : x = nI 0
  · simp (disch := omega) only [fX5_needs, lt, jn, q_lit, q_bnd, q_cl, q_le, q_lt, q_eq, pk_mul, nI_add, q_sub, q_div, q_pos, q_neg, q_T, q_F, q_max0, q_flg1, q_flg0, q_min, q_min2, q_bit, q_some, h, e1]
  · simp (disch := omega) only [fX5_needs, lt, jn, q_lit, q_bnd, q_cl, q_le, q_lt, q_eq, pk_mul, nI_add, q_sub, q_div, q_pos, q_neg, q_T, q_F, q_max0, q_flg1, q_flg0, q_min, q_min2, q_bit, q_some, e1]
theorem lk_bad {S : M2} {e : Nat} (h : S 17 0 = nI e) (he : 0 < e ∧ e < 10) (x y : Int32) : fX5_looked x y S = some (nI 0, S) := by
  simp (disch := omega) only [fX5_looked, lt, jn, q_lit, q_bnd, q_cl, q_le, q_lt, q_eq, pk_mul, nI_add, q_sub, q_div, q_pos, q_neg, q_T, q_F, q_max0, q_flg1, q_flg0, q_min, q_min2, q_bit, q_some, h]
theorem mt_bad {S : M2} {e : Nat} (h : S 17 0 = nI e) (he : 0 < e ∧ e < 10) : mtail S = some S := by
  simp (disch := omega) only [mtail, lt, jn, q_lit, q_bnd, q_cl, q_le, q_lt, q_eq, pk_mul, nI_add, q_sub, q_div, q_pos, q_neg, q_T, q_F, q_max0, q_flg1, q_flg0, q_min, q_min2, q_bit, q_some, h, nx_bad h he]
theorem rf_bad {T : M2} {e : Nat} (h : T 2 0 = nI e) (he : 0 < e ∧ e < 10) (x y : Int32) : fX3_refuse x y T = some (nI 0, T) := by
  simp (disch := omega) only [fX3_refuse, lt, jn, q_lit, q_bnd, q_cl, q_le, q_lt, q_eq, pk_mul, nI_add, q_sub, q_div, q_pos, q_neg, q_T, q_F, q_max0, q_flg1, q_flg0, q_min, q_min2, q_bit, q_some, h]
theorem rf_new {T : M2} (h : T 2 0 = nI 0) (x y : Int32) : fX3_refuse x y T = some (nI 0, va_up (va_up T 2 (fun _ => x)) 3 (fun _ => y)) := by
  simp (disch := omega) only [fX3_refuse, lt, jn, q_lit, q_bnd, q_cl, q_le, q_lt, q_eq, pk_mul, nI_add, q_sub, q_div, q_pos, q_neg, q_T, q_F, q_max0, q_flg1, q_flg0, q_min, q_min2, q_bit, q_some, h]
theorem nd_new {S : M2} (h : S 17 0 = nI 0) (y : Int32) : fX5_needs (nI 0) y S = some (va_up (va_up S 17 (fun _ => y)) 18 (fun _ => S 14 0)) := by
  simp (disch := omega) only [fX5_needs, lt, jn, q_lit, q_bnd, q_cl, q_le, q_lt, q_eq, pk_mul, nI_add, q_sub, q_div, q_pos, q_neg, q_T, q_F, q_max0, q_flg1, q_flg0, q_min, q_min2, q_bit, q_some, h, q_up]
theorem nd_ok {S : M2} (y : Int32) : fX5_needs (nI 1) y S = some S := by
  simp (disch := omega) only [fX5_needs, lt, jn, q_lit, q_bnd, q_cl, q_le, q_lt, q_eq, pk_mul, nI_add, q_sub, q_div, q_pos, q_neg, q_T, q_F, q_max0, q_flg1, q_flg0, q_min, q_min2, q_bit, q_some]
theorem sign {n p : Nat} {T W : M2} (hx : NX n p T W) : (T 6 0 = nI 3 ∧ mtail W = fX5_next W ∧ W 17 0 = nI 0 ∧ T 2 0 = nI 0 ∧ ∃ p', p < p' ∧ p' ≤ n ∧ T 5 0 = nI p' ∧ W 13 0 = nI p') ∨ (¬ T 6 0 = nI 3 ∧ ∃ T' W' e pl, fX3_refuse (nI 2) (T 7 0) T = some (nI 0, T') ∧ mtail W = some W' ∧ BD e pl T' W' ∧ (∀ k, k ≠ 2 → k ≠ 3 → T' k = T k) ∧ ∀ k, k ≠ 17 → k ≠ 18 → W' k = W k) := by
  rcases hx with ⟨tk, q, p', hp, t2, w17, t5, w13, t7, w14, g1, g2, t6, w15, g3, g4, g5, g6⟩ | ⟨pl, ⟨t2, w17, g1, g2, t3, w18⟩, t6⟩
  · by_cases e : tk = 3
    · subst e
      refine Or.inl ⟨t6, ?_, w17, t2, p', by have := g5 rfl; omega, g2, t5, w13⟩
      rw [if_neg (by decide)] at w15
      simp (disch := omega) only [mtail, lt, jn, q_lit, q_bnd, q_cl, q_le, q_lt, q_eq, pk_mul, nI_add, q_sub, q_div, q_pos, q_neg, q_T, q_F, q_max0, q_flg1, q_flg0, q_min, q_min2, q_bit, q_some, w17, w15, nd_ok]
      cases fX5_next W <;> rfl
    · refine Or.inr ⟨?_, _, va_up (va_up W 17 (fun _ => nI 2)) 18 (fun _ => W 14 0), 2, q, rf_new t2 _ _, ?_, ⟨rfl, rfl, by omega, by omega, t7, w14⟩, fun k h2 h3 => by rw [q_up, if_neg h3, q_up, if_neg h2], fun k h2 h3 => by rw [q_up, if_neg h3, q_up, if_neg h2]⟩
      · rw [t6, q_eq (by omega)]
        exact e
      · have w15' : ¬ W 15 0 = nI 3 := by
          rw [w15]
          by_cases e4 : tk = 4
          · rw [if_pos e4]
            decide
          · rw [if_neg e4, q_eq (by omega)]
            exact e
        have hb := nx_bad (S := va_up (va_up W 17 (fun _ => nI 2)) 18 (fun _ => W 14 0)) (e := 2) rfl (by omega)
        simp (disch := omega) only [mtail, lt, jn, q_lit, q_bnd, q_cl, q_le, q_lt, q_eq, pk_mul, nI_add, q_sub, q_div, q_pos, q_neg, q_T, q_F, q_max0, q_flg1, q_flg0, q_min, q_min2, q_bit, q_some, w17, w15', nd_new w17, hb]
  · refine Or.inr ⟨?_, _, _, 1, pl, rf_bad t2 (by omega) _ _, mt_bad w17 (by omega), ⟨t2, w17, g1, g2, t3, w18⟩, fun _ _ _ => rfl, fun _ _ _ => rfl⟩
    rw [t6]
    decide
theorem check {n p lo hi : Nat} {T W : M2} (hx : NX n p T W) (hb : lo ≤ 1 ∧ hi ≤ 9) : (∃ v q p', T 6 0 = nI 2 ∧ T 8 0 = nI v ∧ lo ≤ v ∧ v ≤ hi ∧ fX5_looked (nI lo) (nI hi) W = some (nI v, W) ∧ W 17 0 = nI 0 ∧ T 2 0 = nI 0 ∧ p ≤ q ∧ q ≤ p' ∧ p' ≤ n ∧ T 5 0 = nI p' ∧ W 13 0 = nI p' ∧ T 7 0 = nI q ∧ W 14 0 = nI q) ∨ (∃ T' W' e pl, ((¬ T 6 0 = nI 2 ∧ fX3_refuse (nI 2) (T 7 0) T = some (nI 0, T')) ∨ (T 6 0 = nI 2 ∧ (∃ v, v < 100 ∧ T 8 0 = nI v ∧ ¬ (lo ≤ v ∧ v ≤ hi)) ∧ fX3_refuse (nI 3) (T 7 0) T = some (nI 0, T'))) ∧ fX5_looked (nI lo) (nI hi) W = some (nI 0, W') ∧ BD e pl T' W' ∧ (∀ k, k ≠ 2 → k ≠ 3 → T' k = T k) ∧ (∀ k, k ≠ 17 → k ≠ 18 → W' k = W k) ∧ (W 17 0 = nI 0 ∨ W' = W)) := by
  rcases hx with ⟨tk, q, p', hp, t2, w17, t5, w13, t7, w14, g1, g2, t6, w15, g3, g4, g5, g6⟩ | ⟨pl, ⟨t2, w17, g1, g2, t3, w18⟩, t6⟩
  · by_cases e : tk = 2
    · subst e
      obtain ⟨v, v1, v2, v3⟩ := g6 rfl
      rw [if_neg (by decide)] at w15
      have hw : fX5_in (nI v).toInt64 (nI lo).toInt64 (nI hi).toInt64 = some (nI (decide (lo ≤ v ∧ v ≤ hi)).toNat) := by
        rw [q_in5, within_b (by omega)]
      by_cases ev : lo ≤ v ∧ v ≤ hi
      · rw [decide_eq_true ev] at hw
        refine Or.inl ⟨v, q, p', t6, v2, ev.1, ev.2, ?_, w17, t2, hp, g1, g2, t5, w13, t7, w14⟩
        simp (disch := omega) only [fX5_looked, lt, jn, q_lit, q_bnd, q_cl, q_le, q_lt, q_eq, pk_mul, nI_add, q_sub, q_div, q_pos, q_neg, q_T, q_F, q_max0, q_flg1, q_flg0, q_min, q_min2, q_bit, q_some, w17, w15, v3, hw, nd_ok, Bool.toNat_true]
      · rw [decide_eq_false ev] at hw
        refine Or.inr ⟨_, va_up (va_up W 17 (fun _ => nI 3)) 18 (fun _ => W 14 0), 3, q, Or.inr ⟨t6, ⟨v, v1, v2, ev⟩, rf_new t2 _ _⟩, ?_, ⟨rfl, rfl, by omega, by omega, t7, w14⟩, fun k h2 h3 => by rw [q_up, if_neg h3, q_up, if_neg h2], fun k h2 h3 => by rw [q_up, if_neg h3, q_up, if_neg h2], Or.inl w17⟩
        simp (disch := omega) only [fX5_looked, lt, jn, q_lit, q_bnd, q_cl, q_le, q_lt, q_eq, pk_mul, nI_add, q_sub, q_div, q_pos, q_neg, q_T, q_F, q_max0, q_flg1, q_flg0, q_min, q_min2, q_bit, q_some, w17, w15, v3, hw, nd_ok, nd_new w17, Bool.toNat_false, q_up]
    · refine Or.inr ⟨_, va_up (va_up W 17 (fun _ => nI 2)) 18 (fun _ => W 14 0), 2, q, Or.inl ⟨?_, rf_new t2 _ _⟩, ?_, ⟨rfl, rfl, by omega, by omega, t7, w14⟩, fun k h2 h3 => by rw [q_up, if_neg h3, q_up, if_neg h2], fun k h2 h3 => by rw [q_up, if_neg h3, q_up, if_neg h2], Or.inl w17⟩
      · rw [t6, q_eq (by omega)]
        exact e
      · have w15' : ¬ W 15 0 = nI 2 := by
          rw [w15]
          by_cases e4 : tk = 4
          · rw [if_pos e4]
            decide
          · rw [if_neg e4, q_eq (by omega)]
            exact e
        simp (disch := omega) only [fX5_looked, lt, jn, q_lit, q_bnd, q_cl, q_le, q_lt, q_eq, pk_mul, nI_add, q_sub, q_div, q_pos, q_neg, q_T, q_F, q_max0, q_flg1, q_flg0, q_min, q_min2, q_bit, q_some, w17, w15', nd_new w17, q_up]
  · refine Or.inr ⟨_, _, 1, pl, Or.inl ⟨?_, rf_bad t2 (by omega) _ _⟩, lk_bad w17 (by omega) _ _, ⟨t2, w17, g1, g2, t3, w18⟩, fun _ _ _ => rfl, fun _ _ _ => rfl, Or.inr rfl⟩
    rw [t6]
    decide
def moN (k i : Nat) : Nat := if k = 5 then 4 else if k = 6 then 3 else if k = 7 then 9 else if i = 0 then 5 else if i = 1 then 9 else 2
theorem t_most {k i : Nat} (hk : k < 8) (hi : i < 3) : fX3_mostOfNumber (nI k) (nI i) = some (nI (moN k i)) := by
  have : ∀ k, k < 8 → ∀ i, i < 3 → fX3_mostOfNumber (nI k) (nI i) = some (nI (moN k i)) := by decide +kernel
  exact this k hk i hi
theorem moN_le {k i : Nat} : moN k i ≤ 9 := by
  unfold moN
  split
  · omega
  · split
    · omega
    · split
      · omega
      · split
        · omega
        · split <;> omega
/-- a number of a line that isn't camphor's -/
theorem t_num {T0 Sd0 : M2} {n p k i m f : Nat} {T T8 Sd W : M2} (hk : k < 8) (hk5 : k ≠ 5) (hi : i < m) (hm : m ≤ 3) (kk : (M2 × M2) → Option (Int32 × (M2 × M2))) (hn : fX3_nextToken T = some T8) (hx : NX n p T8 W) : (∃ v q p', (if k = 7 then 1 else 0) ≤ v ∧ v ≤ moN k i ∧ fX5_looked (nI (if k = 7 then 1 else 0)) (nI (moN k i)) W = some (nI v, W) ∧ W 17 0 = nI 0 ∧ T8 2 0 = nI 0 ∧ p ≤ q ∧ q ≤ p' ∧ p' ≤ n ∧ T8 5 0 = nI p' ∧ W 13 0 = nI p' ∧ fX3_readNumbers_L14 T0 Sd0 (nI k) (nI m) kk (f + 1) (nI i) T Sd = fX3_readNumbers_L14 T0 Sd0 (nI k) (nI m) kk f (nI (i + 1)) (va_up T8 4 (upd (T8 4) i (nI v))) Sd) ∨ (∃ T' W' e pl, fX3_readNumbers_L14 T0 Sd0 (nI k) (nI m) kk (f + 1) (nI i) T Sd = some (nI 0, (T', Sd)) ∧ fX5_looked (nI (if k = 7 then 1 else 0)) (nI (moN k i)) W = some (nI 0, W') ∧ BD e pl T' W' ∧ (∀ k, k ≠ 2 → k ≠ 3 → T' k = T8 k) ∧ (∀ k, k ≠ 17 → k ≠ 18 → W' k = W k) ∧ (W 17 0 = nI 0 ∨ W' = W)) := by
  have hlo : (if k = 7 then 1 else 0) ≤ 1 := by split <;> omega
  have hmo : moN k i ≤ 9 := moN_le
  have z0 : ∀ (x : Int32 × (M2 × M2)), zb (nI 0) (some x) = some x := fun x => rfl
  rcases check (lo := if k = 7 then 1 else 0) (hi := moN k i) hx ⟨hlo, hmo⟩ with ⟨v, q, p', a1, a2, a3, a4, a5, a6, a7, a8, a9, a10, a11, a12, a13, a14⟩ | ⟨T', W', e, pl, a1, a2, a3, a4, a5, a6⟩
  · refine Or.inl ⟨v, q, p', a3, a4, a5, a6, a7, a8, a9, a10, a11, a12, ?_⟩
    have hw : fX4_within (nI v) (nI (if k = 7 then 1 else 0)) (nI (moN k i)) = some (nI 1) := q_win ⟨a3, a4, by omega⟩
    by_cases e7 : k = 7
    · subst e7
      rw [if_pos rfl] at hw
      simp (disch := omega) only [fX3_readNumbers_L14, lt, jn, q_lit, q_bnd, q_cl, q_le, q_lt, q_eq, pk_mul, nI_add, q_sub, q_div, q_pos, q_neg, q_T, q_F, q_max0, q_flg1, q_flg0, q_min, q_min2, q_bit, q_some, hn, a1, a2, t_most, hw]
    · rw [if_neg e7] at hw
      simp (disch := omega) only [fX3_readNumbers_L14, lt, jn, q_lit, q_bnd, q_cl, q_le, q_lt, q_eq, pk_mul, nI_add, q_sub, q_div, q_pos, q_neg, q_T, q_F, q_max0, q_flg1, q_flg0, q_min, q_min2, q_bit, q_some, hn, a1, a2, t_most, hw]
  · refine Or.inr ⟨T', W', e, pl, ?_, a2, a3, a4, a5, a6⟩
    rcases a1 with ⟨b1, b2⟩ | ⟨b1, ⟨v, v1, v2, v3⟩, b2⟩
    · simp (disch := omega) only [fX3_readNumbers_L14, lt, jn, q_lit, q_bnd, q_cl, q_le, q_lt, q_eq, pk_mul, nI_add, q_sub, q_div, q_pos, q_neg, q_T, q_F, q_max0, q_flg1, q_flg0, q_min, q_min2, q_bit, q_some, hn, b1, b2, z0]
    · have hw : fX4_within (nI v) (nI (if k = 7 then 1 else 0)) (nI (moN k i)) = some (nI 0) := by
        rw [within_b (by omega), decide_eq_false v3]
        rfl
      by_cases e7 : k = 7
      · subst e7
        rw [if_pos rfl] at hw
        simp (disch := omega) only [fX3_readNumbers_L14, lt, jn, q_lit, q_bnd, q_cl, q_le, q_lt, q_eq, pk_mul, nI_add, q_sub, q_div, q_pos, q_neg, q_T, q_F, q_max0, q_flg1, q_flg0, q_min, q_min2, q_bit, q_some, hn, b1, v2, t_most, hw, b2, z0]
      · rw [if_neg e7] at hw
        simp (disch := omega) only [fX3_readNumbers_L14, lt, jn, q_lit, q_bnd, q_cl, q_le, q_lt, q_eq, pk_mul, nI_add, q_sub, q_div, q_pos, q_neg, q_T, q_F, q_max0, q_flg1, q_flg0, q_min, q_min2, q_bit, q_some, hn, b1, v2, t_most, hw, b2, z0]
theorem t_nums_end {T0 Sd0 T Sd : M2} {k m f : Nat} (hm : m ≤ 3) (kk : (M2 × M2) → Option (Int32 × (M2 × M2))) : fX3_readNumbers_L14 T0 Sd0 (nI k) (nI m) kk (f + 1) (nI m) T Sd = kk (T, Sd) := by
  simp (disch := omega) only [fX3_readNumbers_L14, lt, jn, q_lit, q_bnd, q_cl, q_le, q_lt, q_eq, pk_mul, nI_add, q_sub, q_div, q_pos, q_neg, q_T, q_F, q_max0, q_flg1, q_flg0, q_min, q_min2, q_bit, q_some]
/-- the count of bolts of the draft that lie in the bale of the one that is read -/
theorem m_cnt {S : M2} {nb : Nat} (hn : nb < 5) (h6 : S 6 0 = nI nb) (kk : Int32 → Option M2) : ∀ (d t f : Nat), t + d = nb → d < f → fX5_readBolt_L55 (nI (6 * nb)) S kk f (nI (spSum (fun c => (decide (S 5 (6 * c + 4) = S 5 (6 * nb + 4))).toNat) t)) (nI t) = kk (nI (spSum (fun c => (decide (S 5 (6 * c + 4) = S 5 (6 * nb + 4))).toNat) nb))
  | 0, t, f + 1, ht, hf => by
    have e : t = nb := by omega
    subst e
    simp (disch := omega) only [fX5_readBolt_L55, lt, jn, q_lit, q_bnd, q_cl, q_le, q_lt, q_eq, pk_mul, nI_add, q_sub, q_div, q_pos, q_neg, q_T, q_F, q_max0, q_flg1, q_flg0, q_min, q_min2, q_bit, q_some, h6]
  | d + 1, t, f + 1, ht, hf => by
    have ih := m_cnt hn h6 kk d (t + 1) f (by omega) (by omega)
    rw [spSum] at ih
    by_cases e : S 5 (6 * t + 4) = S 5 (6 * nb + 4)
    · rw [decide_eq_true e, Bool.toNat_true] at ih
      simp (disch := omega) only [fX5_readBolt_L55, lt, jn, q_lit, q_bnd, q_cl, q_le, q_lt, q_eq, pk_mul, nI_add, q_sub, q_div, q_pos, q_neg, q_T, q_F, q_max0, q_flg1, q_flg0, q_min, q_min2, q_bit, q_some, h6, e, ih]
    · rw [decide_eq_false e, Bool.toNat_false, Nat.add_zero] at ih
      simp (disch := omega) only [fX5_readBolt_L55, lt, jn, q_lit, q_bnd, q_cl, q_le, q_lt, q_eq, pk_mul, nI_add, q_sub, q_div, q_pos, q_neg, q_T, q_F, q_max0, q_flg1, q_flg0, q_min, q_min2, q_bit, q_some, h6, e, Nat.add_zero, ih]
theorem bolt_chain {S S1 S2 S4 S5 S7 S8 : M2} {nb : Nat} {a1 a2 a3 : Int32} (hn : nb < 5) (h6 : S 6 0 = nI nb) (l1 : fX5_looked (nI 0) (nI 5) S = some (a1, S1)) (n1 : fX5_next S1 = some S2) (l2 : fX5_looked (nI 0) (nI 9) (va_up S2 5 (upd (S2 5) (6 * nb) a1)) = some (a2, S4)) (n2 : fX5_next S4 = some S5) (l3 : fX5_looked (nI 0) (nI 2) (va_up S5 5 (upd (S5 5) (6 * nb + 1) a2)) = some (a3, S7)) (n3 : fX5_next S7 = some S8) (h6' : S8 6 0 = nI nb) : fX5_readBolt S = some (va_up (va_up (va_up S8 5 (upd (S8 5) (6 * nb + 4) a3)) 5 (upd (upd (S8 5) (6 * nb + 4) a3) (6 * nb + 5) (nI (spSum (fun c => (decide ((upd (S8 5) (6 * nb + 4) a3) (6 * c + 4) = (upd (S8 5) (6 * nb + 4) a3) (6 * nb + 4))).toNat) nb)))) 6 (fun _ => nI (nb + 1))) := by
  have hc := fun kk => m_cnt (S := va_up S8 5 (upd (S8 5) (6 * nb + 4) a3)) hn h6' kk nb 0 400 (by omega) (by omega)
  rw [spSum] at hc
  unfold fX5_readBolt fX5_readNumber
  simp (disch := omega) only [lt, q_lit, q_some, q_bnd, q_cl, pk_mul, nI_add, h6, l1, n1, l2, n2, l3, n3, hc, Nat.add_zero, q_up, h6', q_F, q_T, q_neg]
theorem moth_chain {S S1 S2 S4 S5 S7 S8 : M2} {nm : Nat} {k a1 a2 a3 : Int32} (hn : nm < 4) (h7 : S 7 0 = nI nm) (l1 : fX5_looked (nI 0) (nI 5) (va_up S 5 (upd (S 5) (30 + 4 * nm) k)) = some (a1, S1)) (n1 : fX5_next S1 = some S2) (l2 : fX5_looked (nI 0) (nI 9) (va_up S2 5 (upd (S2 5) (30 + 4 * nm + 1) a1)) = some (a2, S4)) (n2 : fX5_next S4 = some S5) (l3 : fX5_looked (nI 0) (nI 2) (va_up S5 5 (upd (S5 5) (30 + 4 * nm + 2) a2)) = some (a3, S7)) (n3 : fX5_next S7 = some S8) (h7' : S8 7 0 = nI nm) : fX5_readMoth k S = some (va_up (va_up S8 5 (upd (S8 5) (30 + 4 * nm + 3) a3)) 7 (fun _ => nI (nm + 1))) := by
  unfold fX5_readMoth fX5_readNumber
  simp (disch := omega) only [lt, q_lit, q_some, q_bnd, q_cl, pk_mul, nI_add, h7, l1, n1, l2, n2, l3, n3, Nat.add_zero, q_up, h7', q_F, q_T, q_neg]
