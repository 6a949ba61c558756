theorem up_id {α : Type} (f : Nat → α) (k : Nat) : va_up f k (f k) = f := by
  funext j
  unfold va_up
  split
  · rename_i e
    rw [e]
  · rfl
theorem up_up {α : Type} (f : Nat → α) (k : Nat) (v w : α) : va_up (va_up f k v) k w = va_up f k w := by
  funext j
  unfold va_up
  split <;> rfl
theorem t_eatDown {N : NN} {B : BB} {S : M2} {h : Nat → Nat} {m : Nat} (hS : CS (va_up N 3 h) B S) (hW : WF (va_up N 3 h) B) (hm : m < N 7 0) : ∃ S', fX1_eatDown (nI m) S = some S' ∧ CS (va_up N 3 (spEat N m (B (N 11 m)) (spApp N m) h)) B S' ∧ WF (va_up N 3 (spEat N m (B (N 11 m)) (spApp N m) h)) B := by
  have w1 := hW.1
  have w2 : N 7 0 ≤ 4 := w1.2.1
  have wm : N 12 0 ≤ 3 := w1.2.2.2.1
  have w3 : N 10 m ≤ 9 := (hW.2.2.1 m hm).2.2.1
  have w4 : N 11 m ≤ 2 := (hW.2.2.1 m hm).2.2.2
  have e1 : fX1_appetite (nI m) S = some (nI (spApp N m)) := t_appetite hS hW hm
  have e2 : S 11 m = nI (N 11 m) := (hS.2.2.1 m hm).2.2.2
  have w5 : spApp N m ≤ 100 := by
    unfold spApp
    split
    · omega
    · split
      · omega
      · split <;> omega
  have w6 : (B (N 11 m)).length ≤ N 0 0 := hW.2.2.2.2.le (by omega)
  have w7 : N 0 0 ≤ 5 := w1.1
  obtain ⟨S', i1, i2⟩ := t_eat_L (k := N 11 m) hm (by omega) (B (N 11 m)) [] (spApp N m) 400 h S rfl hS hW w5 (by omega)
  refine ⟨S', ?_, i2⟩
  unfold fX1_eatDown
  simp (disch := omega) only [lt, jn, q_lit, q_bnd, q_cl, q_le, q_lt, q_eq, pk_mul, nI_add, q_sub, q_div, q_pos, q_neg, q_T, q_F, q_max0, q_flg1, q_flg0, q_min, q_min2, q_bit, q_some, e1, e2]
  exact i1
theorem t_loose_L {N : NN} {B : BB} {fl : Nat} (hf : fl < 32) : ∀ (d t f : Nat) (S : M2), t + d = N 7 0 → d < f → CS (va_up N 3 (spLoose N B fl t)) B S → WF (va_up N 3 (spLoose N B fl t)) B → ∃ S', fX1_letLoose_L2 (nI fl) (fun p => some p) f (nI t) S = some S' ∧ CS (spNight N B fl) B S' ∧ WF (spNight N B fl) B
  | 0, t, f + 1, S, ht, hd, hS, hW => by
    have w2 : N 7 0 ≤ 4 := hW.1.2.1
    have e : S 7 0 = nI (N 7 0) := hS.1.2.2.1
    have e2 : t = N 7 0 := by omega
    subst e2
    refine ⟨S, ?_, hS, hW⟩
    simp (disch := omega) only [fX1_letLoose_L2, lt, jn, q_lit, q_bnd, q_cl, q_le, q_lt, q_eq, pk_mul, nI_add, q_sub, q_div, q_pos, q_neg, q_T, q_F, q_max0, q_flg1, q_flg0, q_min, q_min2, q_bit, q_some, e]
  | d + 1, t, f + 1, S, ht, hd, hS, hW => by
    have w2 : N 7 0 ≤ 4 := hW.1.2.1
    have e : S 7 0 = nI (N 7 0) := hS.1.2.2.1
    have hm : t < N 7 0 := by omega
    by_cases e1 : fl.testBit t = true
    · obtain ⟨S1, i1, i2, i3⟩ := t_eatDown (m := t) hS hW hm
      obtain ⟨S2, j1, j2⟩ := t_loose_L (N := N) (B := B) hf d (t + 1) f S1 (by omega) (by omega) (by rw [spLoose, if_pos e1]; exact i2) (by rw [spLoose, if_pos e1]; exact i3)
      refine ⟨S2, ?_, j2⟩
      simp (disch := omega) only [fX1_letLoose_L2, lt, jn, q_lit, q_bnd, q_cl, q_le, q_lt, q_eq, pk_mul, nI_add, q_sub, q_div, q_pos, q_neg, q_T, q_F, q_max0, q_flg1, q_flg0, q_min, q_min2, q_bit, q_some, e, q_b1, e1, i1]
      exact j1
    · obtain ⟨S2, j1, j2⟩ := t_loose_L (N := N) (B := B) hf d (t + 1) f S (by omega) (by omega) (by rw [spLoose, if_neg e1]; exact hS) (by rw [spLoose, if_neg e1]; exact hW)
      refine ⟨S2, ?_, j2⟩
      simp (disch := omega) only [fX1_letLoose_L2, lt, jn, q_lit, q_bnd, q_cl, q_le, q_lt, q_eq, pk_mul, nI_add, q_sub, q_div, q_pos, q_neg, q_T, q_F, q_max0, q_flg1, q_flg0, q_min, q_min2, q_bit, q_some, e, q_b1, e1]
      exact j1
theorem t_loose {N : NN} {B : BB} {S : M2} {fl : Nat} (hf : fl < 32) (hS : CS N B S) (hW : WF N B) : ∃ S', fX1_letLoose (nI fl) S = some S' ∧ CS (spNight N B fl) B S' ∧ WF (spNight N B fl) B := by
  have w2 : N 7 0 ≤ 4 := hW.1.2.1
  have e : va_up N 3 (spLoose N B fl 0) = N := up_id N 3
  exact t_loose_L hf (N 7 0) 0 400 S (by omega) (by omega) (by rw [e]; exact hS) (by rw [e]; exact hW)
theorem WF.pass {N : NN} {B : BB} {fl : Nat} (hW : WF (spNight N B fl) B) : WF (spPass N B fl) B := by
  obtain ⟨⟨h1, h2, h3, h4, h5, h6, h7⟩, h8⟩ := hW
  exact ⟨⟨h1, h2, h3, (by show (N 12 0 + 1) % 4 ≤ 3; omega), h5, h6, h7⟩, h8⟩
theorem t_pass {N : NN} {B : BB} {S : M2} (hS : CS N B S) (hW : WF N B) : ∃ S', fX1_passNight S = some S' ∧ CS (spPass N B 15) B S' ∧ WF (spPass N B 15) B := by
  obtain ⟨S1, i1, i2, i3⟩ := t_loose (fl := 15) (by omega) hS hW
  have wm : N 12 0 ≤ 3 := hW.1.2.2.2.1
  have e12 : S1 12 0 = nI (N 12 0) := i2.1.2.2.2.1
  have e14 : S1 14 0 = nI (N 14 0) := i2.1.2.2.2.2.2.1
  refine ⟨va_up (va_up S1 12 (fun _ => nI ((N 12 0 + 1) % 4))) 14 (fun _ => nI (N 14 0 + 1)), ?_, ?_, i3.pass⟩
  · unfold fX1_passNight
    simp (disch := omega) only [lt, jn, q_lit, q_bnd, q_cl, q_le, q_lt, q_eq, pk_mul, nI_add, q_sub, q_div, q_pos, q_neg, q_T, q_F, q_max0, q_flg1, q_flg0, q_min, q_min2, q_bit, q_some, i1, e12]
    have e14' : (va_up S1 12 (fun _ => nI (N 12 0 + 1 - (N 12 0 + 1) / 4 * 4))) 14 0 = nI (N 14 0) := e14
    simp (disch := omega) only [lt, jn, q_lit, q_bnd, q_cl, q_le, q_lt, q_eq, pk_mul, nI_add, q_sub, q_div, q_pos, q_neg, q_T, q_F, q_max0, q_flg1, q_flg0, q_min, q_min2, q_bit, q_some, e14']
    rw [show N 12 0 + 1 - (N 12 0 + 1) / 4 * 4 = (N 12 0 + 1) % 4 by omega]
  · obtain ⟨⟨h1, h2, h3, h4, h5, h6, h7⟩, h8⟩ := i2
    exact ⟨⟨h1, h2, h3, rfl, h5, rfl, h7⟩, h8⟩
/-! copies -/
theorem q_cpy {f g : Nat → Int32} {n j : Nat} (h : j < n) : va_cpy f g 0 0 n j = f j := by
  rw [pk_cpy_in (Nat.zero_le _) (by omega), Nat.zero_add, Nat.sub_zero]
theorem t_copyHoles {N : NN} {B : BB} {S T : M2} {h : Nat → Nat} (hS : CS (va_up N 3 h) B S) (hT : ∀ b, b < N 0 0 → T 3 b = nI (N 3 b)) (hn : N 0 0 ≤ 5) : ∃ S', fX1_copyHolesFrom S T = some S' ∧ CS N B S' := by
  obtain ⟨h1, h2, h3, h4, h5⟩ := hS
  refine ⟨va_up S 3 (va_cpy (T 3) (S 3) 0 0 5), rfl, h1, fun b hb => ⟨(h2 b hb).1, (h2 b hb).2.1, ?_⟩, h3, h4, h5⟩
  show va_cpy (T 3) _ 0 0 5 b = _
  have hb' : b < N 0 0 := hb
  rw [q_cpy (by omega)]
  exact hT b hb
theorem t_copy {N : NN} {B : BB} (S : M2) {T : M2} (hT : CS N B T) (hW : WF N B) : ∃ S', fX1_copyFrom S T = some S' ∧ CS N B S' := by
  obtain ⟨⟨h1, h2, h3, h4, h5, h6, h7⟩, h8, h9, h10, h11⟩ := hT
  have w1 := hW.1
  refine ⟨_, rfl, ⟨h1, h2, h3, h4, h5, h6, h7⟩, fun b hb => ⟨?_, ?_, ?_⟩, fun m hm => ⟨?_, ?_, ?_, ?_⟩, fun i hi => ⟨?_, ?_⟩, fun k hk => ⟨?_, fun i b hb => ?_⟩⟩
  · show va_cpy (T 1) _ 0 0 5 b = _
    rw [q_cpy (by omega)]
    exact (h8 b hb).1
  · show va_cpy (T 2) _ 0 0 5 b = _
    rw [q_cpy (by omega)]
    exact (h8 b hb).2.1
  · show va_cpy (T 3) _ 0 0 5 b = _
    rw [q_cpy (by omega)]
    exact (h8 b hb).2.2
  · show va_cpy (T 8) _ 0 0 4 m = _
    rw [q_cpy (by omega)]
    exact (h9 m hm).1
  · show va_cpy (T 9) _ 0 0 4 m = _
    rw [q_cpy (by omega)]
    exact (h9 m hm).2.1
  · show va_cpy (T 10) _ 0 0 4 m = _
    rw [q_cpy (by omega)]
    exact (h9 m hm).2.2.1
  · show va_cpy (T 11) _ 0 0 4 m = _
    rw [q_cpy (by omega)]
    exact (h9 m hm).2.2.2
  · show va_cpy (T 16) _ 0 0 6 i = _
    rw [q_cpy (by omega)]
    exact (h10 i hi).1
  · show va_cpy (T 17) _ 0 0 6 i = _
    rw [q_cpy (by omega)]
    exact (h10 i hi).2
  · show va_cpy (T 6) _ 0 0 3 k = _
    rw [q_cpy (by omega)]
    exact (h11 k hk).1
  · show va_cpy (T 5) _ 0 0 15 (k * 5 + i) = _
    have a1 := l_lt hb
    have a2 := hW.2.2.2.2.le hk
    rw [q_cpy (by omega)]
    exact (h11 k hk).2 i b hb
/-! where a bolt lies -/
theorem t_spot_in {N : NN} {B : BB} {S : M2} (hS : CS N B S) (hW : WF N B) {k b : Nat} (hk : k < 3) (hb5 : b < 5) (kk : Unit → Option Int32) : ∀ (l pre : List Nat) (f : Nat), B k = pre ++ l → l.length < f → (b ∉ l → fX1_spotOf_L9 S (nI b) (nI k) kk f (nI pre.length) = kk ()) ∧ ∀ i, l[i]? = some b → b ∉ l.take i → fX1_spotOf_L9 S (nI b) (nI k) kk f (nI pre.length) = some (nI (k * 5 + (pre.length + i)))
  | [], pre, f + 1, hB, hf => by
    have w1 := hW.1
    have w2 := hW.2.2.2.2.le hk
    have h6 := (hS.2.2.2.2 k hk).1
    simp only [List.append_nil] at hB
    have hl : (B k).length = pre.length := by rw [hB]
    refine ⟨fun _ => ?_, fun i hi => by simp at hi⟩
    simp (disch := omega) only [fX1_spotOf_L9, lt, jn, q_lit, q_bnd, q_cl, q_le, q_lt, q_eq, pk_mul, nI_add, q_sub, q_div, q_pos, q_neg, q_T, q_F, q_max0, q_flg1, q_flg0, q_min, q_min2, q_bit, q_some, h6, hl]
  | c :: l, pre, f + 1, hB, hf => by
    have w1 := hW.1
    have w2 := hW.2.2.2.2.le hk
    have h6 := (hS.2.2.2.2 k hk).1
    have hl : (B k).length = pre.length + (l.length + 1) := by rw [hB]; simp
    have hc : c < N 0 0 := hW.2.2.2.2.lt hk (by rw [hB]; simp)
    have h5' := (hS.2.2.2.2 k hk).2 pre.length c (by rw [hB]; simp)
    obtain ⟨i1, i2⟩ := t_spot_in hS hW hk hb5 kk l (pre ++ [c]) f (by rw [hB]; simp) (by simp at hf; omega)
    rw [List.length_append, List.length_singleton] at i1 i2
    constructor
    · intro hn
      simp only [List.mem_cons, not_or] at hn
      have hne : ¬ c = b := fun e => hn.1 e.symm
      simp (disch := omega) only [fX1_spotOf_L9, lt, jn, q_lit, q_bnd, q_cl, q_le, q_lt, q_eq, pk_mul, nI_add, q_sub, q_div, q_pos, q_neg, q_T, q_F, q_max0, q_flg1, q_flg0, q_min, q_min2, q_bit, q_some, h6, hl, h5', hne]
      exact i1 hn.2
    · intro i hi ht
      match i, hi, ht with
      | 0, hi, ht =>
        simp only [List.getElem?_cons_zero, Option.some.injEq] at hi
        simp (disch := omega) only [fX1_spotOf_L9, lt, jn, q_lit, q_bnd, q_cl, q_le, q_lt, q_eq, pk_mul, nI_add, q_sub, q_div, q_pos, q_neg, q_T, q_F, q_max0, q_flg1, q_flg0, q_min, q_min2, q_bit, q_some, h6, hl, h5', hi, Nat.add_zero]
      | i + 1, hi, ht =>
        simp only [List.getElem?_cons_succ] at hi
        simp only [List.take_succ_cons, List.mem_cons, not_or] at ht
        have hne : ¬ c = b := fun e => ht.1 e.symm
        simp (disch := omega) only [fX1_spotOf_L9, lt, jn, q_lit, q_bnd, q_cl, q_le, q_lt, q_eq, pk_mul, nI_add, q_sub, q_div, q_pos, q_neg, q_T, q_F, q_max0, q_flg1, q_flg0, q_min, q_min2, q_bit, q_some, h6, hl, h5', hne]
        rw [i2 i hi ht.2, show pre.length + 1 + i = pre.length + (i + 1) by omega]
theorem nd_take {l : List Nat} {i b : Nat} (hn : l.Nodup) (h : l[i]? = some b) : b ∉ l.take i := by
  intro hm
  obtain ⟨j, hj⟩ := List.mem_iff_getElem?.mp hm
  have h1 := l_lt hj
  rw [List.length_take] at h1
  rw [List.getElem?_take_of_lt (by omega)] at hj
  have := (List.getElem?_inj (l_lt h) hn).mp (h.trans hj.symm)
  omega
theorem t_spotOf_L {N : NN} {B : BB} {S : M2} (hS : CS N B S) (hW : WF N B) {k b i : Nat} (hk : k < 3) (hb : (B k)[i]? = some b) (kk : Unit → Option Int32) : ∀ (d k' f : Nat), k' + d = k → d < f → fX1_spotOf_L2 S (nI b) kk f (nI k') = some (nI (k * 5 + i))
  | 0, k', f + 1, hd, hf => by
    have e : k' = k := by omega
    subst e
    have w1 := hW.1
    have w2 := hW.2.2.2.2.le hk
    have w3 := hW.2.2.2.2.lt hk (List.mem_of_getElem? hb)
    have := (t_spot_in hS hW (b := b) hk (by omega) (fun _ => lt (nI k' + nI 1) fun x7 => fX1_spotOf_L2 S (nI b) kk f x7) (B k') [] 400 rfl (by omega)).2 i hb (nd_take (hW.2.2.2.2.nodup hk) hb)
    rw [List.length_nil, Nat.zero_add] at this
    rw [← this]
    rw [fX1_spotOf_L2]
    simp (disch := omega) only [q_lit, q_le, q_neg]
  | d + 1, k', f + 1, hd, hf => by
    have w1 := hW.1
    have hk' : k' < 3 := by omega
    have w2 := hW.2.2.2.2.le hk'
    have w3 := hW.2.2.2.2.lt hk (List.mem_of_getElem? hb)
    have w4 : b ∉ B k' := fun h => by
      have := hW.2.2.2.2.uq hk hk' (List.mem_of_getElem? hb) h
      omega
    have := (t_spot_in hS hW (b := b) hk' (by omega) (fun _ => lt (nI k' + nI 1) fun x7 => fX1_spotOf_L2 S (nI b) kk f x7) (B k') [] 400 rfl (by omega)).1 w4
    rw [List.length_nil] at this
    have ih := t_spotOf_L hS hW hk hb kk d (k' + 1) f (by omega) (by omega)
    rw [fX1_spotOf_L2]
    simp (disch := omega) only [q_lit, q_le, q_neg]
    refine this.trans ?_
    simp (disch := omega) only [lt, jn, q_lit, q_bnd, q_cl, q_le, q_lt, q_eq, pk_mul, nI_add, q_sub, q_div, q_pos, q_neg, q_T, q_F, q_max0, q_flg1, q_flg0, q_min, q_min2, q_bit, q_some]
    exact ih
theorem t_spotOf {N : NN} {B : BB} {S : M2} (hS : CS N B S) (hW : WF N B) {k b i : Nat} (hk : k < 3) (hb : (B k)[i]? = some b) : fX1_spotOf (nI b) S = some (nI (k * 5 + i)) :=
  t_spotOf_L hS hW hk hb _ k 0 400 (by omega) (by omega)
theorem t_baleOf {N : NN} {B : BB} {S : M2} (hS : CS N B S) (hW : WF N B) {k b i : Nat} (hk : k < 3) (hb : (B k)[i]? = some b) : fX1_baleOf (nI b) S = some (nI k) := by
  have w1 := hW.1
  have w2 := hW.2.2.2.2.le hk
  have w3 := l_lt hb
  unfold fX1_baleOf
  simp (disch := omega) only [lt, jn, q_lit, q_bnd, q_cl, q_le, q_lt, q_eq, pk_mul, nI_add, q_sub, q_div, q_pos, q_neg, q_T, q_F, q_max0, q_flg1, q_flg0, q_min, q_min2, q_bit, q_some, t_spotOf hS hW hk hb]
  rw [show (k * 5 + i) / 5 = k by omega]
theorem t_layerOf {N : NN} {B : BB} {S : M2} (hS : CS N B S) (hW : WF N B) {k b i : Nat} (hk : k < 3) (hb : (B k)[i]? = some b) : fX1_layerOf (nI b) S = some (nI i) := by
  have w1 := hW.1
  have w2 := hW.2.2.2.2.le hk
  have w3 := l_lt hb
  unfold fX1_layerOf
  simp (disch := omega) only [lt, jn, q_lit, q_bnd, q_cl, q_le, q_lt, q_eq, pk_mul, nI_add, q_sub, q_div, q_pos, q_neg, q_T, q_F, q_max0, q_flg1, q_flg0, q_min, q_min2, q_bit, q_some, t_spotOf hS hW hk hb]
  rw [show k * 5 + i - (k * 5 + i) / 5 * 5 = i by omega]
/-! a bolt is taken out, put in -/
theorem t_out_L {k L : Nat} (hk : k < 3) (hL : L ≤ 4) : ∀ (d j f : Nat) (S : M2), j + d = L → d < f → S 6 k = nI L → ∃ S', fX1_takeOut_L25 (nI k) (fun p => some p) f (nI j) S = some S' ∧ (∀ q, q ≠ 5 → S' q = S q) ∧ ∀ x, S' 5 x = if k * 5 + j ≤ x ∧ x < k * 5 + L then S 5 (x + 1) else S 5 x
  | 0, j, f + 1, S, hd, hf, h6 => by
    refine ⟨S, ?_, fun _ _ => rfl, fun x => ?_⟩
    · simp (disch := omega) only [fX1_takeOut_L25, lt, jn, q_lit, q_bnd, q_cl, q_le, q_lt, q_eq, pk_mul, nI_add, q_sub, q_div, q_pos, q_neg, q_T, q_F, q_max0, q_flg1, q_flg0, q_min, q_min2, q_bit, q_some, h6]
    · rw [if_neg (by omega)]
  | d + 1, j, f + 1, S, hd, hf, h6 => by
    obtain ⟨S', i1, i2, i3⟩ := t_out_L hk hL d (j + 1) f (va_up S 5 (upd (S 5) (k * 5 + j) (S 5 (k * 5 + j + 1)))) (by omega) (by omega) h6
    refine ⟨S', ?_, fun q hq => ?_, fun x => ?_⟩
    · simp (disch := omega) only [fX1_takeOut_L25, lt, jn, q_lit, q_bnd, q_cl, q_le, q_lt, q_eq, pk_mul, nI_add, q_sub, q_div, q_pos, q_neg, q_T, q_F, q_max0, q_flg1, q_flg0, q_min, q_min2, q_bit, q_some, h6]
      exact i1
    · rw [i2 q hq, q_up, if_neg hq]
    · rw [i3 x]
      show (if k * 5 + (j + 1) ≤ x ∧ x < k * 5 + L then upd (S 5) (k * 5 + j) (S 5 (k * 5 + j + 1)) (x + 1) else upd (S 5) (k * 5 + j) (S 5 (k * 5 + j + 1)) x) = _
      rw [q_ud, q_ud]
      by_cases e1 : x = k * 5 + j
      · subst e1
        rw [if_neg (by omega), if_pos rfl, if_pos (by omega)]
      · by_cases e2 : k * 5 + j ≤ x ∧ x < k * 5 + L
        · rw [if_pos (by omega), if_neg (by omega), if_pos e2]
        · rw [if_neg (by omega), if_neg e1, if_neg e2]
theorem t_takeOut {N : NN} {B : BB} {S : M2} (hS : CS N B S) (hW : WF N B) {k b i : Nat} (hk : k < 3) (hb : (B k)[i]? = some b) : ∃ S', fX1_takeOut (nI b) S = some S' ∧ CS N (spTake B k i) S' := by
  have w1 := hW.1
  have w2 := hW.2.2.2.2.le hk
  have w3 := l_lt hb
  have h6 := (hS.2.2.2.2 k hk).1
  have e6 : nI (B k).length - nI 1 = nI ((B k).length - 1) := q_sub (by omega)
  obtain ⟨S', i1, i2, i3⟩ := t_out_L (k := k) (L := (B k).length - 1) hk (by omega) ((B k).length - 1 - i) i 400 (va_up S 6 (upd (S 6) k (nI ((B k).length - 1)))) (by omega) (by omega) (by rw [q_up, if_pos rfl, q_ud, if_pos rfl])
  have e5 : ∀ q, q ≠ 5 → q ≠ 6 → S' q = S q := fun q a1 a2 => by rw [i2 q a1, q_up, if_neg a2]
  refine ⟨S', ?_, ?_⟩
  · unfold fX1_takeOut
    simp (disch := omega) only [lt, jn, q_lit, q_bnd, q_cl, q_le, q_lt, q_eq, pk_mul, nI_add, q_sub, q_div, q_pos, q_neg, q_T, q_F, q_max0, q_flg1, q_flg0, q_min, q_min2, q_bit, q_some, t_spotOf hS hW hk hb]
    rw [show (k * 5 + i) / 5 = k by omega, show k * 5 + i - k * 5 = i by omega]
    simp (disch := omega) only [lt, jn, q_lit, q_bnd, q_cl, q_le, q_lt, q_eq, pk_mul, nI_add, q_sub, q_div, q_pos, q_neg, q_T, q_F, q_max0, q_flg1, q_flg0, q_min, q_min2, q_bit, q_some, h6]
    exact i1
  · obtain ⟨h1, h2, h3, h4, h5⟩ := hS
    refine ⟨?_, ?_, ?_, ?_, fun k' hk' => ⟨?_, fun j c hc => ?_⟩⟩
    · simp only [e5, ne_eq, Nat.reduceEqDiff, not_false_eq_true]
      exact h1
    · simp only [e5, ne_eq, Nat.reduceEqDiff, not_false_eq_true]
      exact h2
    · simp only [e5, ne_eq, Nat.reduceEqDiff, not_false_eq_true]
      exact h3
    · simp only [e5, ne_eq, Nat.reduceEqDiff, not_false_eq_true]
      exact h4
    · rw [i2 6 (by decide), q_up, if_pos rfl, q_ud, spTake, q_up]
      by_cases e : k' = k
      · rw [if_pos e, if_pos e, List.length_eraseIdx, if_pos w3]
      · rw [if_neg e, if_neg e]
        exact (h5 k' hk').1
    · rw [spTake, q_up] at hc
      rw [i3]
      show (if k * 5 + i ≤ k' * 5 + j ∧ k' * 5 + j < k * 5 + ((B k).length - 1) then S 5 (k' * 5 + j + 1) else S 5 (k' * 5 + j)) = _
      have w5 := hW.2.2.2.2.le hk'
      by_cases e : k' = k
      · subst e
        rw [if_pos rfl] at hc
        have w4 := l_lt hc
        rw [List.length_eraseIdx, if_pos w3] at w4
        rw [List.getElem?_eraseIdx] at hc
        by_cases e2 : j < i
        · rw [if_pos e2] at hc
          rw [if_neg (by omega)]
          exact (h5 k' hk').2 j c hc
        · rw [if_neg e2] at hc
          rw [if_pos (by omega), Nat.add_assoc]
          exact (h5 k' hk').2 (j + 1) c hc
      · rw [if_neg e] at hc
        have w4 := l_lt hc
        rw [if_neg (by omega)]
        exact (h5 k' hk').2 j c hc
