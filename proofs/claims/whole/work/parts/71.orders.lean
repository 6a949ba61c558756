/-! the orders of a bale's bolts -/
theorem CS.cg {N : NN} {B B' : BB} {S : M2} (h : CS N B S) (e : ∀ k, k < 3 → B' k = B k) : CS N B' S := by
  obtain ⟨g1, g2, g3, g4, g5⟩ := h
  refine ⟨g1, g2, g3, g4, fun k hk => ?_⟩
  rw [e k hk]
  exact g5 k hk
theorem WB.cg {n : Nat} {B B' : BB} (h : WB n B) (e : ∀ k, k < 3 → B' k = B k) : WB n B' := by
  intro x
  rw [e 0 (by omega), e 1 (by omega), e 2 (by omega)]
  exact h x
theorem WF.cg {N : NN} {B B' : BB} (h : WF N B) (e : ∀ k, k < 3 → B' k = B k) : WF N B' := h.bb (h.2.2.2.2.cg e)
theorem WB.perm' {n : Nat} {B : BB} (h : WB n B) {k : Nat} {l : List Nat} (hl : l.Perm (B k)) : WB n (va_up B k l) := by
  intro x
  have e : ∀ k', (va_up B k l k').count x = (B k').count x := by
    intro k'
    rw [q_up]
    by_cases e : k' = k
    · rw [if_pos e, e]
      exact hl.count_eq x
    · rw [if_neg e]
  rw [e, e, e]
  exact h x
theorem sw_cm (b c x : Nat) : sw c b x = sw b c x := by
  unfold sw
  by_cases h1 : x = b
  · by_cases h2 : x = c
    · rw [if_pos h2, if_pos h1]
      omega
    · rw [if_neg h2, if_pos h1, if_pos h1]
  · by_cases h2 : x = c
    · rw [if_pos h2, if_neg h1, if_pos h2]
    · rw [if_neg h2, if_neg h1, if_neg h1, if_neg h2]
theorem nd_ix {l : List Nat} (hn : l.Nodup) {i j x : Nat} (h1 : l[i]? = some x) (h2 : l[j]? = some x) : i = j := (List.getElem?_inj (l_lt h1) hn).mp (h1.trans h2.symm)
theorem map_sw {l : List Nat} (hn : l.Nodup) {b c : Nat} (hb : b ∈ l) (hc : c ∈ l) : (l.map (sw b c)).Perm l := by
  rw [List.perm_iff_count]
  intro x
  rw [sw_count, hn.count, hn.count]
  unfold sw
  by_cases h1 : x = b
  · rw [if_pos h1, h1, if_pos hc, if_pos hb]
  · rw [if_neg h1]
    by_cases h2 : x = c
    · rw [if_pos h2, h2, if_pos hc, if_pos hb]
    · rw [if_neg h2]
theorem map_at {l : List Nat} (hn : l.Nodup) {i v j b c : Nat} (hb : l[i]? = some b) (hc : l[v]? = some c) (hi : j ≠ i) (hv : j ≠ v) : (l.map (sw b c))[j]? = l[j]? := by
  rw [List.getElem?_map]
  cases h : l[j]? with
  | none => rfl
  | some y =>
    have n1 : y ≠ b := fun e => hi (nd_ix hn h (by rw [e]; exact hb))
    have n2 : y ≠ c := fun e => hv (nd_ix hn h (by rw [e]; exact hc))
    rw [Option.map_some, sw_id n1 n2]
def po : Nat → Nat → List Nat → List (List Nat)
  | 0, _, _ => []
  | f + 1, i, l => if i < l.length then ups (fun v => po f (i + 1) (l.map (sw (l.getD i 0) (l.getD v 0)))) (l.length - i) i else [l]
theorem po_mem {q : List Nat} : ∀ {f i : Nat} {l : List Nat}, l.Nodup → i ≤ l.length → l.length < i + f → (q ∈ po f i l ↔ q.Perm l ∧ ∀ j, j < i → q[j]? = l[j]?)
  | 0, i, l, hn, hi, hf => absurd hf (by omega)
  | f + 1, i, l, hn, hi, hf => by
    rw [po]
    by_cases e : i < l.length
    · rw [if_pos e, ups_mem]
      have hb : l[i]? = some (l.getD i 0) := by rw [List.getD_eq_getElem?_getD, List.getElem?_eq_getElem e]; rfl
      have step : ∀ v, i ≤ v → v < l.length → (q ∈ po f (i + 1) (l.map (sw (l.getD i 0) (l.getD v 0))) ↔ q.Perm l ∧ (∀ j, j < i → q[j]? = l[j]?) ∧ q[i]? = l[v]?) := by
        intro v hv hvl
        have hc : l[v]? = some (l.getD v 0) := by rw [List.getD_eq_getElem?_getD, List.getElem?_eq_getElem hvl]; rfl
        have hp := map_sw hn (List.mem_of_getElem? hb) (List.mem_of_getElem? hc)
        rw [po_mem (hp.symm.nodup hn) (by rw [List.length_map]; omega) (by rw [List.length_map]; omega)]
        have h0 : (l.map (sw (l.getD i 0) (l.getD v 0)))[i]? = l[v]? := by
          rw [List.getElem?_map, hb, hc, Option.map_some]
          unfold sw
          rw [if_pos rfl]
        have hj : ∀ j, j < i → (l.map (sw (l.getD i 0) (l.getD v 0)))[j]? = l[j]? := fun j h => map_at hn hb hc (by omega) (by omega)
        constructor
        · rintro ⟨h1, h2⟩
          refine ⟨h1.trans hp, fun j h => ?_, ?_⟩
          · rw [h2 j (by omega), hj j h]
          · rw [h2 i (by omega), h0]
        · rintro ⟨h1, h2, h3⟩
          refine ⟨h1.trans hp.symm, fun j h => ?_⟩
          by_cases e2 : j = i
          · rw [e2, h0, h3]
          · rw [hj j (by omega), h2 j (by omega)]
      constructor
      · rintro ⟨v, h1, h2, h3⟩
        have := (step v h1 (by omega)).mp h3
        exact ⟨this.1, this.2.1⟩
      · rintro ⟨h1, h2⟩
        have hql : i < q.length := by rw [h1.length_eq]; exact e
        have hqi : q[i]? = some q[i] := List.getElem?_eq_getElem hql
        have hm : q[i] ∈ l := h1.mem_iff.mp (List.getElem_mem hql)
        obtain ⟨v, hv⟩ := List.mem_iff_getElem?.mp hm
        have hvl := l_lt hv
        have hiv : i ≤ v := by
          by_cases e3 : i ≤ v
          · exact e3
          · have := h2 v (by omega)
            rw [hv] at this
            exact absurd (nd_ix (h1.symm.nodup hn) this hqi) (by omega)
        exact ⟨v, hiv, by omega, (step v hiv hvl).mpr ⟨h1, h2, by rw [hqi, hv]⟩⟩
    · rw [if_neg e, List.mem_singleton]
      constructor
      · intro h
        subst h
        exact ⟨List.Perm.refl _, fun _ _ => rfl⟩
      · rintro ⟨h1, h2⟩
        apply List.ext_getElem?
        intro j
        by_cases e2 : j < i
        · exact h2 j e2
        · rw [List.getElem?_eq_none (by rw [h1.length_eq]; omega), List.getElem?_eq_none (by omega)]
/-- what is found of one order -/
def stp (N : NN) (B : BB) (k m : Nat) : List Nat → Nat
  | [] => m
  | t :: l => if spSeen (spNight N (va_up B k (t :: l)) 15) 0 (N 15 0) 0 = true then m ||| 2 ^ t else m
theorem stp_bit {N : NN} {B : BB} {k m t : Nat} {q : List Nat} : (stp N B k m q).testBit t = true ↔ m.testBit t = true ∨ ∃ l, q = t :: l ∧ spSeen (spNight N (va_up B k q) 15) 0 (N 15 0) 0 = true := by
  cases q with
  | nil => exact ⟨Or.inl, fun h => h.elim id fun ⟨l, h, _⟩ => nomatch h⟩
  | cons a l =>
    rw [stp]
    by_cases e : spSeen (spNight N (va_up B k (a :: l)) 15) 0 (N 15 0) 0 = true
    · rw [if_pos e, Nat.testBit_or, Bool.or_eq_true, Nat.testBit_two_pow, decide_eq_true_eq]
      constructor
      · rintro (h | h)
        · exact Or.inl h
        · exact Or.inr ⟨l, by rw [h], e⟩
      · rintro (h | ⟨l', h, _⟩)
        · exact Or.inl h
        · exact Or.inr (List.cons.inj h).1
    · rw [if_neg e]
      exact ⟨Or.inl, fun h => h.elim id fun ⟨_, _, h⟩ => absurd h e⟩
theorem fold_bit {N : NN} {B : BB} {k t : Nat} : ∀ (L : List (List Nat)) (m : Nat), (L.foldl (stp N B k) m).testBit t = true ↔ m.testBit t = true ∨ ∃ q, q ∈ L ∧ ∃ l, q = t :: l ∧ spSeen (spNight N (va_up B k q) 15) 0 (N 15 0) 0 = true
  | [], m => ⟨Or.inl, fun h => h.elim id fun ⟨q, h, _⟩ => absurd h List.not_mem_nil⟩
  | p :: L, m => by
    rw [List.foldl_cons, fold_bit L, stp_bit]
    constructor
    · rintro ((h | h) | ⟨q, h1, h2⟩)
      · exact Or.inl h
      · exact Or.inr ⟨p, List.mem_cons_self, h⟩
      · exact Or.inr ⟨q, List.mem_cons_of_mem _ h1, h2⟩
    · rintro (h | ⟨q, h1, h2⟩)
      · exact Or.inl (Or.inl h)
      · rcases List.mem_cons.mp h1 with e | e
        · subst e
          exact Or.inl (Or.inr h2)
        · exact Or.inr ⟨q, e, h2⟩
theorem fold_cg {N : NN} {B : BB} {k : Nat} {L L' : List (List Nat)} (h : ∀ q, q ∈ L ↔ q ∈ L') : L.foldl (stp N B k) 0 = L'.foldl (stp N B k) 0 := by
  apply Nat.eq_of_testBit_eq
  intro t
  rw [Bool.eq_iff_iff, fold_bit, fold_bit]
  constructor
  · rintro (h1 | ⟨q, h1, h2⟩)
    · exact Or.inl h1
    · exact Or.inr ⟨q, (h q).mp h1, h2⟩
  · rintro (h1 | ⟨q, h1, h2⟩)
    · exact Or.inl h1
    · exact Or.inr ⟨q, (h q).mpr h1, h2⟩
/-- the class: two bolts of a bale change places -/
theorem t_exch {M : NN} {B : BB} {S : M2} {k i v b c : Nat} {l : List Nat} (hS : CS M (va_up B k l) S) (hW : WF M (va_up B k l)) (hk : k < 3) (hb : l[i]? = some b) (hc : l[v]? = some c) : ∃ S', fX0_exchange (nI (k * 5 + i)) (nI (k * 5 + v)) S = some S' ∧ CS M (va_up B k (l.map (sw b c))) S' ∧ WF M (va_up B k (l.map (sw b c))) := by
  have w1 := hW.1
  have hkl : va_up B k l k = l := by rw [q_up, if_pos rfl]
  have hb' : (va_up B k l k)[i]? = some b := by rw [hkl]; exact hb
  have hc' : (va_up B k l k)[v]? = some c := by rw [hkl]; exact hc
  have x1 := (hS.2.2.2.2 k hk).2 i b hb'
  have x2 := (hS.2.2.2.2 k hk).2 v c hc'
  have a1 := l_lt hb'
  have a2 := l_lt hc'
  have a3 := hW.2.2.2.2.le hk
  have hcg : ∀ k', k' < 3 → va_up B k (l.map (sw b c)) k' = spSwap (va_up B k l) b c k' := by
    intro k' hk'
    unfold spSwap
    rw [q_up, q_up]
    by_cases e : k' = k
    · rw [if_pos e, if_pos e]
    · rw [if_neg e, if_neg e]
      have hm : ∀ x, x ∈ B k' → sw b c x = x := by
        intro x hx
        have hx' : x ∈ va_up B k l k' := by rw [q_up, if_neg e]; exact hx
        refine sw_id (fun q => ?_) (fun q => ?_)
        · exact e (hW.2.2.2.2.uq hk' hk hx' (by rw [q]; exact List.mem_of_getElem? hb'))
        · exact e (hW.2.2.2.2.uq hk' hk hx' (by rw [q]; exact List.mem_of_getElem? hc'))
      rw [List.map_congr_left hm, List.map_id'']
      exact fun _ => rfl
  have hbl := hW.2.2.2.2.lt hk (List.mem_of_getElem? hb')
  have hcl := hW.2.2.2.2.lt hk (List.mem_of_getElem? hc')
  refine ⟨va_up S 5 (upd (upd (S 5) (k * 5 + i) (nI c)) (k * 5 + v) (nI b)), ?_, (CS.swap hS hW hk hk hb' hc').cg hcg, (hW.bb (hW.2.2.2.2.swap hbl hcl)).cg hcg⟩
  simp (disch := omega) only [fX0_exchange, lt, jn, q_lit, q_bnd, q_cl, q_le, q_lt, q_eq, pk_mul, nI_add, q_sub, q_div, q_pos, q_neg, q_T, q_F, q_max0, q_flg1, q_flg0, q_min, q_min2, q_bit, q_some, x1, x2, q_up, up_up]
/-- the class goes through all orders of what lies from i on -/
theorem t_ord_L {N : NN} {B : BB} {k f i : Nat} {X2 T0 S0 : M2} (hk : k < 3) {l : List Nat} (hl : l.Perm (B k)) (hn : l.Nodup) (hl5 : l.length ≤ 5) (hi : i < l.length) (IH : ∀ (l' : List Nat) (T S : M2) (m : Nat), l'.Perm (B k) → l'.length = l.length → (∃ h, CS (va_up N 3 h) (va_up B k l') S ∧ WF (va_up N 3 h) (va_up B k l')) → T 5 0 = nI m → ∃ T' S', fX0_orderFrom f (nI (k * 5 + (i + 1))) (nI (k * 5 + l.length)) T S X2 = some (T', S') ∧ (∃ h, CS (va_up N 3 h) (va_up B k l') S' ∧ WF (va_up N 3 h) (va_up B k l')) ∧ T' 5 0 = nI ((po f (i + 1) l').foldl (stp N B k) m)) : ∀ (d v g : Nat) (T S : M2) (m : Nat), v + d = l.length → d < g → (∃ h, CS (va_up N 3 h) (va_up B k l) S ∧ WF (va_up N 3 h) (va_up B k l)) → T 5 0 = nI m → ∃ T' S', (∀ kk : (M2 × M2) → Option (M2 × M2), fX0_orderFrom_L73 T0 S0 (nI (k * 5 + i)) (nI (k * 5 + l.length)) (fun i2 i3 T S => fX0_orderFrom f i2 i3 T S X2) kk g (nI (k * 5 + v)) T S = kk (T', S')) ∧ (∃ h, CS (va_up N 3 h) (va_up B k l) S' ∧ WF (va_up N 3 h) (va_up B k l)) ∧ T' 5 0 = nI ((ups (fun v => po f (i + 1) (l.map (sw (l.getD i 0) (l.getD v 0)))) d v).foldl (stp N B k) m)
  | 0, v, g + 1, T, S, m, hv, hg, hS, hT => by
    refine ⟨T, S, fun kk => ?_, hS, hT⟩
    simp (disch := omega) only [fX0_orderFrom_L73, lt, jn, q_lit, q_bnd, q_cl, q_le, q_lt, q_eq, pk_mul, nI_add, q_sub, q_div, q_pos, q_neg, q_T, q_F, q_max0, q_flg1, q_flg0, q_min, q_min2, q_bit, q_some]
  | d + 1, v, g + 1, T, S, m, hv, hg, ⟨h0, hS, hW⟩, hT => by
    have hvl : v < l.length := by omega
    have hb : l[i]? = some (l.getD i 0) := by rw [List.getD_eq_getElem?_getD, List.getElem?_eq_getElem hi]; rfl
    have hc : l[v]? = some (l.getD v 0) := by rw [List.getD_eq_getElem?_getD, List.getElem?_eq_getElem hvl]; rfl
    obtain ⟨S1, a1, a2, a3⟩ := t_exch hS hW hk hb hc
    have hp := map_sw hn (List.mem_of_getElem? hb) (List.mem_of_getElem? hc)
    obtain ⟨T2, S2, b1, ⟨h1, b2, b3⟩, b4⟩ := IH (l.map (sw (l.getD i 0) (l.getD v 0))) T S1 m (hp.trans hl) (by rw [List.length_map]) ⟨h0, a2, a3⟩ hT
    have hb' : (l.map (sw (l.getD i 0) (l.getD v 0)))[i]? = some (l.getD v 0) := by
      rw [List.getElem?_map, hb, Option.map_some]
      unfold sw
      rw [if_pos rfl]
    have hc' : (l.map (sw (l.getD i 0) (l.getD v 0)))[v]? = some (l.getD i 0) := by
      rw [List.getElem?_map, hc, Option.map_some, ← sw_cm]
      unfold sw
      rw [if_pos rfl]
    obtain ⟨S3, c1, c2, c3⟩ := t_exch b2 b3 hk hb' hc'
    have hback : (l.map (sw (l.getD i 0) (l.getD v 0))).map (sw (l.getD v 0) (l.getD i 0)) = l := by
      rw [List.map_map]
      have : ∀ x, x ∈ l → (sw (l.getD v 0) (l.getD i 0) ∘ sw (l.getD i 0) (l.getD v 0)) x = x := fun x _ => by
        show sw (l.getD v 0) (l.getD i 0) (sw (l.getD i 0) (l.getD v 0) x) = x
        rw [sw_cm, sw_sw]
      rw [List.map_congr_left this, List.map_id'']
      exact fun _ => rfl
    rw [hback] at c2 c3
    obtain ⟨T', S', e1, e2, e3⟩ := t_ord_L (T0 := T0) (S0 := S0) hk hl hn hl5 hi IH d (v + 1) g T2 S3 _ (by omega) (by omega) ⟨h1, c2, c3⟩ b4
    refine ⟨T', S', fun kk => ?_, e2, ?_⟩
    · rw [← e1 kk]
      have n1 : nI (k * 5 + i) + nI 1 = nI (k * 5 + (i + 1)) := nI_add _ _
      have n2 : nI (k * 5 + v) + nI 1 = nI (k * 5 + (v + 1)) := nI_add _ _
      simp (disch := omega) only [fX0_orderFrom_L73, lt, q_lit, q_le, q_neg, q_some, a1, n1, b1, c1, n2]
    · rw [ups, List.foldl_append]
      exact e3
theorem t_ord {N : NN} {B : BB} {k : Nat} {X2 : M2} (hX : CS N B X2) (hW : WF N B) (hk : k < 3) : ∀ (f i : Nat) (l : List Nat) (T S : M2) (m : Nat), l.Perm (B k) → 0 < l.length → i ≤ l.length → l.length < i + f → (∃ h, CS (va_up N 3 h) (va_up B k l) S ∧ WF (va_up N 3 h) (va_up B k l)) → T 5 0 = nI m → ∃ T' S', fX0_orderFrom f (nI (k * 5 + i)) (nI (k * 5 + l.length)) T S X2 = some (T', S') ∧ (∃ h, CS (va_up N 3 h) (va_up B k l) S' ∧ WF (va_up N 3 h) (va_up B k l)) ∧ T' 5 0 = nI ((po f i l).foldl (stp N B k) m)
  | 0, i, l, T, S, m, hl, h0, hi, hf, hS, hT => absurd hf (by omega)
  | f + 1, i, l, T, S, m, hl, h0, hi, hf, hS, hT => by
    have hn : l.Nodup := hl.symm.nodup (hW.2.2.2.2.nodup hk)
    have hl5 : l.length ≤ 5 := by
      rw [hl.length_eq]
      have := hW.2.2.2.2.le hk
      have := hW.1.1
      omega
    rw [po]
    by_cases e : i < l.length
    · rw [if_pos e]
      obtain ⟨T', S', a1, a2, a3⟩ := t_ord_L (T0 := T) (S0 := S) (X2 := X2) (f := f) hk hl hn hl5 e (fun l' T S m hl' hll hS hT => by
        have := t_ord hX hW hk f (i + 1) l' T S m hl' (by omega) (by omega) (by omega) hS hT
        rw [hll] at this
        exact this) (l.length - i) i 400 T S m (by omega) (by omega) hS hT
      refine ⟨T', S', ?_, a2, a3⟩
      have := a1 (fun p13 => some (p13.1, p13.2))
      simp (disch := omega) only [fX0_orderFrom, q_lt, q_pos]
      exact this
    · rw [if_neg e]
      obtain ⟨h, hS, hWh⟩ := hS
      have hW' : WF N (va_up B k l) := hW.bb (hW.2.2.2.2.perm' hl)
      obtain ⟨S1, a1, a2⟩ := t_copyHoles hS (fun b hb => (hX.2.1 b hb).2.2) hW.1.1
      obtain ⟨S2, b1, b2, b3⟩ := t_loose (fl := 15) (by omega) a2 hW'
      have hs := t_seenN b2 b3
      obtain ⟨t, l', rfl⟩ : ∃ t l', l = t :: l' := by
        cases l with
        | nil => exact absurd h0 (Nat.lt_irrefl 0)
        | cons t l' => exact ⟨t, l', rfl⟩
      have ht := (b2.2.2.2.2 k hk).2 0 t (by rw [q_up, if_pos rfl]; rfl)
      rw [Nat.add_zero] at ht
      have htn := hW'.2.2.2.2.lt hk (b := t) (by rw [q_up, if_pos rfl]; exact List.mem_cons_self)
      have hw1 := hW.1.1
      rw [List.foldl_cons, List.foldl_nil, stp]
      have i1 : nI (k * 5 + (t :: l').length) - nI 1 = nI (k * 5 + (t :: l').length - 1) := q_sub (by omega)
      have i2 : nI (k * 5 + (t :: l').length - 1) - nI (k * 5 + (t :: l').length - 1) / nI 5 * nI 5 = nI ((k * 5 + (t :: l').length - 1) % 5) := q_mod (by omega)
      rw [q_div (by omega)] at i2
      have i3 : nI (k * 5 + (t :: l').length - 1) - nI ((k * 5 + (t :: l').length - 1) % 5) = nI (k * 5) := by
        rw [q_sub (by omega)]
        congr 1
        omega
      by_cases es : spSeen (spNight N (va_up B k (t :: l')) 15) 0 (N 15 0) 0 = true
      · rw [if_pos es]
        rw [es] at hs
        refine ⟨va_up T 5 (fun _ => nI (m ||| 2 ^ t)), S2, ?_, ⟨_, b2, b3⟩, rfl⟩
        simp (disch := omega) only [fX0_orderFrom, lt, q_lit, q_lt, q_neg, q_some, a1, b1, i1, q_div, i2, i3, q_bnd, q_cl, q_eq, ht, hs, Bool.toNat_true, hT, q_shl, q_or]
      · rw [if_neg es]
        have es' : spSeen (spNight N (va_up B k (t :: l')) 15) 0 (N 15 0) 0 = false := by simpa using es
        rw [es'] at hs
        refine ⟨va_up T 5 (fun _ => nI (m ||| 0)), S2, ?_, ⟨_, b2, b3⟩, by rw [Nat.or_zero]; rfl⟩
        simp (disch := omega) only [fX0_orderFrom, lt, q_lit, q_lt, q_neg, q_pos, q_T, q_some, a1, b1, i1, q_div, i2, i3, q_bnd, q_cl, q_eq, ht, hs, Bool.toNat_false, hT, q_or]
