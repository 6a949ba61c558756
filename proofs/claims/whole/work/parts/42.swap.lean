/-! swap -/
def sw (b c x : Nat) : Nat := if x = b then c else if x = c then b else x
theorem sw_sw (b c x : Nat) : sw b c (sw b c x) = x := by
  unfold sw
  by_cases h1 : x = b
  · rw [if_pos h1]
    by_cases h2 : c = b
    · rw [if_pos h2]
      omega
    · rw [if_neg h2, if_pos rfl]
      omega
  · rw [if_neg h1]
    by_cases h2 : x = c
    · rw [if_pos h2, if_pos rfl]
      omega
    · rw [if_neg h2, if_neg h1, if_neg h2]
theorem sw_id {b c z : Nat} (h1 : z ≠ b) (h2 : z ≠ c) : sw b c z = z := by
  unfold sw
  rw [if_neg h1, if_neg h2]
def spSwap (B : BB) (b c : Nat) : BB := fun k => (B k).map (sw b c)
theorem spSwap_at {B : BB} {b c k i x : Nat} : (spSwap B b c k)[i]? = some x ↔ (B k)[i]? = some (sw b c x) := by
  unfold spSwap
  rw [List.getElem?_map]
  cases h : (B k)[i]? with
  | none => simp
  | some y =>
    simp only [Option.map_some, Option.some.injEq]
    constructor
    · intro e
      rw [← e, sw_sw]
    · intro e
      rw [e, sw_sw]
theorem sw_count (b c x : Nat) : ∀ l : List Nat, (l.map (sw b c)).count x = l.count (sw b c x)
  | [] => rfl
  | y :: l => by
    rw [List.map_cons, List.count_cons, List.count_cons, sw_count b c x l]
    by_cases e : sw b c y = x
    · have e2 : y = sw b c x := by rw [← e, sw_sw]
      simp [e, ← e2]
    · have e2 : ¬ y = sw b c x := fun q => e (by rw [q, sw_sw])
      simp [e, e2]
theorem WB.swap {n : Nat} {B : BB} (h : WB n B) {b c : Nat} (hb : b < n) (hc : c < n) : WB n (spSwap B b c) := by
  intro x
  have := h (sw b c x)
  unfold spSwap
  rw [sw_count, sw_count, sw_count, this]
  unfold sw
  by_cases h1 : x = b
  · rw [if_pos h1, if_pos hc, if_pos (by omega)]
  · rw [if_neg h1]
    by_cases h2 : x = c
    · rw [if_pos h2, if_pos hb, if_pos (by omega)]
    · rw [if_neg h2]
theorem CS.swap {N : NN} {B : BB} {S : M2} (hS : CS N B S) (hW : WF N B) {b c k i k2 i2 : Nat} (hk : k < 3) (hk2 : k2 < 3) (hb : (B k)[i]? = some b) (hc : (B k2)[i2]? = some c) : CS N (spSwap B b c) (va_up S 5 (upd (upd (S 5) (k * 5 + i) (nI c)) (k2 * 5 + i2) (nI b))) := by
  obtain ⟨h1, h2, h3, h4, h5⟩ := hS
  refine ⟨h1, h2, h3, h4, fun k' hk' => ⟨?_, fun j x hx => ?_⟩⟩
  · show S 6 k' = _
    rw [(h5 k' hk').1]
    unfold spSwap
    rw [List.length_map]
  · show upd (upd (S 5) (k * 5 + i) (nI c)) (k2 * 5 + i2) (nI b) (k' * 5 + j) = _
    have hx' := spSwap_at.mp hx
    have hB := hW.2.2.2.2
    have w1 := hW.1.1
    have a1 := l_lt hb
    have a2 := l_lt hc
    have a3 := l_lt hx'
    have b1 := hB.le hk
    have b2 := hB.le hk2
    have b3 := hB.le hk'
    rw [q_ud, q_ud]
    by_cases e1 : k' * 5 + j = k2 * 5 + i2
    · have e2 : k' = k2 := by omega
      have e3 : j = i2 := by omega
      subst e2 e3
      rw [hc] at hx'
      have e4 := Option.some.inj hx'
      have e5 := (congrArg (sw b c) e4).symm
      rw [sw_sw] at e5
      rw [if_pos rfl, e5]
      unfold sw
      by_cases e6 : c = b
      · rw [if_pos e6, e6]
      · rw [if_neg e6, if_pos rfl]
    · rw [if_neg e1]
      by_cases e2 : k' * 5 + j = k * 5 + i
      · have e3 : k' = k := by omega
        have e4 : j = i := by omega
        subst e3 e4
        rw [hb] at hx'
        have e5 := Option.some.inj hx'
        have e6 := (congrArg (sw b c) e5).symm
        rw [sw_sw] at e6
        rw [if_pos rfl, e6]
        unfold sw
        rw [if_pos rfl]
      · rw [if_neg e2]
        have := (h5 k' hk').2 j _ hx'
        rw [this]
        have n1 : sw b c x ≠ b := fun q => by
          rw [q] at hx'
          obtain ⟨r1, r2⟩ := hB.at hk' hk hx' hb
          subst r1 r2
          exact e2 rfl
        have n2 : sw b c x ≠ c := fun q => by
          rw [q] at hx'
          obtain ⟨r1, r2⟩ := hB.at hk' hk2 hx' hc
          subst r1 r2
          exact e1 rfl
        have := sw_id n1 n2
        rw [sw_sw] at this
        rw [← this]
theorem MS.swap {N : NN} {B : BB} {r r' : Nat → Int32} (hM : MS N B r) (hW : WF N B) {b c : Nat} (hbn : b < N 0 0) (hcn : c < N 0 0) (hbc : b ≠ c) (e1 : ∀ q, q < 2 → r' (6 * b + (4 + q)) = r (6 * c + (4 + q))) (e2 : ∀ q, q < 2 → r' (6 * c + (4 + q)) = r (6 * b + (4 + q))) (e3 : ∀ x, (∀ q, q < 2 → x ≠ 6 * b + (4 + q) ∧ x ≠ 6 * c + (4 + q)) → r' x = r x) : MS N (spSwap B b c) r' := by
  obtain ⟨⟨a1, a2, a3, a4⟩, h5, h6, h7, h8⟩ := hM
  have w1 := hW.1
  refine ⟨⟨?_, ?_, ?_, ?_⟩, fun b' hb' => ⟨?_, ?_, ?_, ?_⟩, fun m hm => ⟨?_, ?_, ?_, ?_⟩, fun i hi => ⟨?_, ?_⟩, fun k hk i d hd => ?_⟩
  · rw [e3 _ fun q hq => by omega]; exact a1
  · rw [e3 _ fun q hq => by omega]; exact a2
  · rw [e3 _ fun q hq => by omega]; exact a3
  · rw [e3 _ fun q hq => by omega]; exact a4
  · rw [e3 _ fun q hq => by omega]; exact (h5 b' hb').1
  · rw [e3 _ fun q hq => by omega]; exact (h5 b' hb').2.1
  · rw [e3 _ fun q hq => by omega]; exact (h5 b' hb').2.2.1
  · rw [e3 _ fun q hq => by omega]; exact (h5 b' hb').2.2.2
  · rw [e3 _ fun q hq => by omega]; exact (h6 m hm).1
  · rw [e3 _ fun q hq => by omega]; exact (h6 m hm).2.1
  · rw [e3 _ fun q hq => by omega]; exact (h6 m hm).2.2.1
  · rw [e3 _ fun q hq => by omega]; exact (h6 m hm).2.2.2
  · rw [e3 _ fun q hq => by omega]; exact (h7 i hi).1
  · rw [e3 _ fun q hq => by omega]; exact (h7 i hi).2
  · have hd' := spSwap_at.mp hd
    have old := h8 k hk i _ hd'
    have key : ∀ q, q < 2 → r' (6 * d + (4 + q)) = r (6 * sw b c d + (4 + q)) := by
      intro q hq
      unfold sw
      by_cases f1 : d = b
      · rw [if_pos f1, f1, e1 q hq]
      · rw [if_neg f1]
        by_cases f2 : d = c
        · rw [if_pos f2, f2, e2 q hq]
        · rw [if_neg f2]
          exact e3 _ fun q' hq' => by omega
    exact ⟨(key 0 (by omega)).trans old.1, (key 1 (by omega)).trans old.2⟩
theorem k_swap {X : M3} {S : M2} (h : R X S) (x y : Int32) : ∃ a X' S', fX4_swap x y X = some (a, X') ∧ fX5_swap x y S = some (a, S') ∧ R X' S' := by
  obtain ⟨N, B, hW, hn, hC, hM, e3, e4, hN, hK⟩ := h.data
  have w1 := hW.1
  have eb : fX5_isBolt x S = fX1_hasBolt x (X 2) := m_isBolt (e3.trans hC.1.1.symm) x
  have ec : fX5_isBolt y S = fX1_hasBolt y (X 2) := m_isBolt (e3.trans hC.1.1.symm) y
  rcases t_hasBolt hC.1.1 w1.1 x with ⟨b, hb, rfl, h1⟩ | ⟨-, h1⟩
  · rw [h1] at eb
    rcases t_hasBolt hC.1.1 w1.1 y with ⟨c, hc, rfl, h2⟩ | ⟨-, h2⟩
    · rw [h2] at ec
      by_cases e : b = c
      · refine ⟨-1, X, S, ?_, ?_, h⟩
        · simp (disch := omega) only [fX4_swap, lt, jn, q_lit, q_bnd, q_cl, q_le, q_lt, q_eq, pk_mul, nI_add, q_sub, q_div, q_pos, q_neg, q_T, q_F, q_max0, q_flg1, q_flg0, q_min, q_min2, q_bit, q_some, h1, h2, e]
        · simp (disch := omega) only [fX5_swap, lt, jn, q_lit, q_bnd, q_cl, q_le, q_lt, q_eq, pk_mul, nI_add, q_sub, q_div, q_pos, q_neg, q_T, q_F, q_max0, q_flg1, q_flg0, q_min, q_min2, q_bit, q_some, eb, ec, e]
      · obtain ⟨k, i, hk, hi⟩ := hW.2.2.2.2.ex hb
        obtain ⟨k2, i2, hk2, hi2⟩ := hW.2.2.2.2.ex hc
        have a1 := l_lt hi
        have a2 := l_lt hi2
        have b1 := hW.2.2.2.2.le hk
        have b2 := hW.2.2.2.2.le hk2
        have g1 := hC.swap hW hk hk2 hi hi2
        have g2 := hW.bb (hW.2.2.2.2.swap hb hc)
        have hnew : (spSwap B b c k2)[i2]? = some b := spSwap_at.mpr (by rw [hi2]; unfold sw; rw [if_pos rfl])
        have m4 := (hM.2.2.2.2 k2 hk2 i2 c hi2).1
        have m5 := (hM.2.2.2.2 k2 hk2 i2 c hi2).2
        have n4 := (hM.2.2.2.2 k hk i b hi).1
        have n5 := (hM.2.2.2.2 k hk i b hi).2
        refine ⟨nI k2, va_up X 2 _, va_up S 0 (upd (upd (upd (upd (S 0) (6 * b + 4) (nI k2)) (6 * c + 4) (nI k)) (6 * b + 5) (nI i2)) (6 * c + 5) (nI i)), ?_, ?_, h.now hK e3 e4 rfl rfl g2 hn g1 ?_ us0 ?_⟩
        · have g3 := t_baleOf g1 g2 hk2 hnew
          simp (disch := omega) only [fX4_swap, lt, jn, q_lit, q_bnd, q_cl, q_le, q_lt, q_eq, pk_mul, nI_add, q_sub, q_div, q_pos, q_neg, q_T, q_F, q_max0, q_flg1, q_flg0, q_min, q_min2, q_bit, q_some, h1, h2, t_spotOf hC hW hk hi, t_spotOf hC hW hk2 hi2, q_up, up_up, g3]
        · unfold fX5_swap
          simp (disch := omega) only [lt, jn, q_lit, q_bnd, q_cl, q_le, q_lt, q_eq, pk_mul, nI_add, q_sub, q_div, q_pos, q_neg, q_T, q_F, q_max0, q_flg1, q_flg0, q_min, q_min2, q_bit, q_some, eb, ec]
          rw [fX5_swap_L25]
          simp (disch := omega) only [fX5_becomes, lt, jn, q_lit, q_bnd, q_cl, q_le, q_lt, q_eq, pk_mul, nI_add, q_sub, q_div, q_pos, q_neg, q_T, q_F, q_max0, q_flg1, q_flg0, q_min, q_min2, q_bit, q_some, q_up, q_ud, up_up, m4, m5, n4, n5]
          rw [fX5_swap_L25]
          simp (disch := omega) only [fX5_becomes, lt, jn, q_lit, q_bnd, q_cl, q_le, q_lt, q_eq, pk_mul, nI_add, q_sub, q_div, q_pos, q_neg, q_T, q_F, q_max0, q_flg1, q_flg0, q_min, q_min2, q_bit, q_some, q_up, q_ud, up_up, m4, m5, n4, n5]
          rw [fX5_swap_L25]
          simp (disch := omega) only [fX5_becomes, lt, jn, q_lit, q_bnd, q_cl, q_le, q_lt, q_eq, pk_mul, nI_add, q_sub, q_div, q_pos, q_neg, q_T, q_F, q_max0, q_flg1, q_flg0, q_min, q_min2, q_bit, q_some, q_up, q_ud, up_up, m4, m5, n4, n5]
        · rw [q_up, if_pos rfl]
          refine hM.swap hW hb hc e (fun q hq => ?_) (fun q hq => ?_) fun x hx => ?_
          · rcases (by omega : q = 0 ∨ q = 1) with rfl | rfl
            · simp (disch := omega) only [q_ud, q_neg, q_T, Nat.add_zero, m4]
            · simp (disch := omega) only [q_ud, q_neg, q_T, Nat.reduceAdd, m5]
          · rcases (by omega : q = 0 ∨ q = 1) with rfl | rfl
            · simp (disch := omega) only [q_ud, q_neg, q_T, Nat.add_zero, n4]
            · simp (disch := omega) only [q_ud, q_neg, q_T, Nat.reduceAdd, n5]
          · have x0 := hx 0 (by omega)
            have x1 := hx 1 (by omega)
            simp (disch := omega) only [q_ud, q_neg]
        · intro x hx
          simp (disch := omega) only [q_up, q_ud, q_neg, q_T]
    · rw [h2] at ec
      refine ⟨-1, X, S, ?_, ?_, h⟩
      · simp (disch := omega) only [fX4_swap, lt, jn, q_lit, q_bnd, q_cl, q_le, q_lt, q_eq, pk_mul, nI_add, q_sub, q_div, q_pos, q_neg, q_T, q_F, q_max0, q_flg1, q_flg0, q_min, q_min2, q_bit, q_some, h1, h2]
      · simp (disch := omega) only [fX5_swap, lt, jn, q_lit, q_bnd, q_cl, q_le, q_lt, q_eq, pk_mul, nI_add, q_sub, q_div, q_pos, q_neg, q_T, q_F, q_max0, q_flg1, q_flg0, q_min, q_min2, q_bit, q_some, eb, ec]
  · rw [h1] at eb
    refine ⟨-1, X, S, ?_, ?_, h⟩
    · simp (disch := omega) only [fX4_swap, lt, jn, q_lit, q_bnd, q_cl, q_le, q_lt, q_eq, pk_mul, nI_add, q_sub, q_div, q_pos, q_neg, q_T, q_F, q_max0, q_flg1, q_flg0, q_min, q_min2, q_bit, q_some, h1]
    · simp (disch := omega) only [fX5_swap, lt, jn, q_lit, q_bnd, q_cl, q_le, q_lt, q_eq, pk_mul, nI_add, q_sub, q_div, q_pos, q_neg, q_T, q_F, q_max0, q_flg1, q_flg0, q_min, q_min2, q_bit, q_some, eb]
