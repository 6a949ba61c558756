/-! names -/
def ck (c : Nat → Nat) (q : Nat) (w : List Nat) : Nat → Nat → Bool
  | 0, _ => true
  | d + 1, v => decide (c (q + v) = w.getD v 0) && ck c q w d (v + 1)
def wd : List (List Nat) := [[98, 111, 108, 116], [112, 108, 97, 105, 110], [112, 105, 99, 107, 121], [103, 108, 117, 116, 116, 111, 110], [102, 97, 116], [99, 97, 109, 112, 104, 111, 114], [109, 111, 111, 110], [114, 97, 116, 101]]
def mt (c : Nat → Nat) (q p k : Nat) : Bool := decide (p - q = (wd.getD k []).length) && ck c q (wd.getD k []) (wd.getD k []).length 0
theorem wd_ok : ∀ k, k < 8 → jj_len.getD k 0 = (wd.getD k []).length ∧ (wd.getD k []).length ≤ 7 ∧ ∀ i, i < (wd.getD k []).length → (jj_byt.getD k []).getD i 0 = nI ((wd.getD k []).getD i 0) ∧ (wd.getD k []).getD i 0 < 128 := by decide +kernel
theorem j_len {k : Nat} (hk : k < 8) : fJ0_length_8abf5 k = some (nI (wd.getD k []).length) := by
  rw [← (wd_ok k hk).1]
  rfl
theorem j_at {k i : Nat} (hk : k < 8) (hi : i < (wd.getD k []).length) : fJ0_charAt_5068e k (nI i) = some (nI ((wd.getD k []).getD i 0)) := by
  obtain ⟨h1, h2, h3⟩ := wd_ok k hk
  unfold fJ0_charAt_5068e
  rw [q_bnd (by omega), q_cl (by omega), (h3 i hi).1]
theorem t_name_L {c : Nat → Nat} {n p q k : Nat} {T S : M2} (h : TB c n T S) (t7 : T 7 0 = nI q) (hk : k < 8) (hq : q + (wd.getD k []).length ≤ n) : ∀ (d v f : Nat), v + d = (wd.getD k []).length → d < f → fX3_isName_L20 T k (fun _ => some (1 : Int32)) f (nI v) = some (nI (ck c q (wd.getD k []) d v).toNat)
  | 0, v, f + 1, hv, hf => by
    obtain ⟨w1, w2, w3⟩ := wd_ok k hk
    simp (disch := omega) only [fX3_isName_L20, lt, jn, q_lit, q_bnd, q_cl, q_le, q_lt, q_eq, pk_mul, nI_add, q_sub, q_div, q_pos, q_neg, q_T, q_F, q_max0, q_flg1, q_flg0, q_min, q_min2, q_bit, q_some, j_len hk, ck, Bool.toNat_true]
  | d + 1, v, f + 1, hv, hf => by
    obtain ⟨w1, w2, w3⟩ := wd_ok k hk
    have h1 := h.1
    have ih := t_name_L (p := p) h t7 hk hq d (v + 1) f (by omega) (by omega)
    obtain ⟨c1, c2, c3⟩ := h.2.2.2 (q + v) (by omega)
    have ih' : fX3_isName_L20 T k (fun _ => some (nI 1)) f (nI (v + 1)) = some (nI (ck c q (wd.getD k []) d (v + 1)).toNat) := ih
    have hw := (w3 v (by omega)).2
    rw [ck]
    by_cases e : c (q + v) = (wd.getD k []).getD v 0
    · simp (disch := omega) only [fX3_isName_L20, lt, jn, q_lit, q_bnd, q_cl, q_le, q_lt, q_eq, pk_mul, nI_add, q_sub, q_div, q_pos, q_neg, q_T, q_F, q_max0, q_flg1, q_flg0, q_min, q_min2, q_bit, q_some, j_len hk, j_at hk, t7, c2, e, ih', decide_true, Bool.true_and]
    · simp (disch := omega) only [fX3_isName_L20, lt, jn, q_lit, q_bnd, q_cl, q_le, q_lt, q_eq, pk_mul, nI_add, q_sub, q_div, q_pos, q_neg, q_T, q_F, q_max0, q_flg1, q_flg0, q_min, q_min2, q_bit, q_some, j_len hk, j_at hk, t7, c2, e, decide_false, Bool.false_and, Bool.toNat_false]
theorem t_name {c : Nat → Nat} {n p q k : Nat} {T S : M2} (h : TB c n T S) (t5 : T 5 0 = nI p) (t7 : T 7 0 = nI q) (hqp : q ≤ p) (hpn : p ≤ n) (hk : k < 8) : fX3_isName k T = some (nI (mt c q p k).toNat) := by
  obtain ⟨w1, w2, w3⟩ := wd_ok k hk
  have h1 := h.1
  unfold mt
  by_cases e : p - q = (wd.getD k []).length
  · have := t_name_L (p := p) h t7 hk (by omega) (wd.getD k []).length 0 400 (by omega) (by omega)
    rw [decide_eq_true e, Bool.true_and, ← this]
    simp (disch := omega) only [fX3_isName, lt, jn, q_lit, q_bnd, q_cl, q_le, q_lt, q_eq, pk_mul, nI_add, q_sub, q_div, q_pos, q_neg, q_T, q_F, q_max0, q_flg1, q_flg0, q_min, q_min2, q_bit, q_some, j_len hk, t5, t7]
  · rw [decide_eq_false e, Bool.false_and]
    simp (disch := omega) only [fX3_isName, lt, jn, q_lit, q_bnd, q_cl, q_le, q_lt, q_eq, pk_mul, nI_add, q_sub, q_div, q_pos, q_neg, q_T, q_F, q_max0, q_flg1, q_flg0, q_min, q_min2, q_bit, q_some, j_len hk, t5, t7, Bool.toNat_false]
theorem m_is {c : Nat → Nat} {n p q L a b e : Nat} {T S : M2} (h : TB c n T S) (s13 : S 13 0 = nI p) (s14 : S 14 0 = nI q) (hqp : q ≤ p) (hpn : p ≤ n) (hL : 3 ≤ L ∧ L < 100) (hc : a < 128 ∧ b < 128 ∧ e < 128) : (fX5_is (nI L) (nI a) (nI b) (nI e) S = some (nI 1) ∧ p - q = L ∧ c q = a ∧ c (q + 1) = b ∧ c (q + 2) = e) ∨ (fX5_is (nI L) (nI a) (nI b) (nI e) S = some (nI 0) ∧ ¬ (p - q = L ∧ c q = a ∧ c (q + 1) = b ∧ c (q + 2) = e)) := by
  have h1 := h.1
  by_cases e1 : p - q = L
  · have b0 := m_byte h (p := q) (by omega)
    have b1 := m_byte h (p := q + 1) (by omega)
    have b2 := m_byte h (p := q + 2) (by omega)
    have c0 := (h.2.2.2 q (by omega)).1
    have c1 := (h.2.2.2 (q + 1) (by omega)).1
    have c2 := (h.2.2.2 (q + 2) (by omega)).1
    rw [if_pos (by omega)] at b0 b1 b2
    by_cases e2 : c q = a
    · by_cases e3 : c (q + 1) = b
      · by_cases e4 : c (q + 2) = e
        · refine Or.inl ⟨?_, e1, e2, e3, e4⟩
          simp (disch := omega) only [fX5_is, lt, jn, q_lit, q_bnd, q_cl, q_le, q_lt, q_eq, pk_mul, nI_add, q_sub, q_div, q_pos, q_neg, q_T, q_F, q_max0, q_flg1, q_flg0, q_min, q_min2, q_bit, q_some, s13, s14, b0, b1, b2]
        · refine Or.inr ⟨?_, fun g => e4 g.2.2.2⟩
          simp (disch := omega) only [fX5_is, lt, jn, q_lit, q_bnd, q_cl, q_le, q_lt, q_eq, pk_mul, nI_add, q_sub, q_div, q_pos, q_neg, q_T, q_F, q_max0, q_flg1, q_flg0, q_min, q_min2, q_bit, q_some, s13, s14, b0, b1, b2]
      · refine Or.inr ⟨?_, fun g => e3 g.2.2.1⟩
        simp (disch := omega) only [fX5_is, lt, jn, q_lit, q_bnd, q_cl, q_le, q_lt, q_eq, pk_mul, nI_add, q_sub, q_div, q_pos, q_neg, q_T, q_F, q_max0, q_flg1, q_flg0, q_min, q_min2, q_bit, q_some, s13, s14, b0, b1, b2]
    · refine Or.inr ⟨?_, fun g => e2 g.2.1⟩
      simp (disch := omega) only [fX5_is, lt, jn, q_lit, q_bnd, q_cl, q_le, q_lt, q_eq, pk_mul, nI_add, q_sub, q_div, q_pos, q_neg, q_T, q_F, q_max0, q_flg1, q_flg0, q_min, q_min2, q_bit, q_some, s13, s14, b0, b1, b2]
  · refine Or.inr ⟨?_, fun g => e1 g.1⟩
    simp (disch := omega) only [fX5_is, lt, jn, q_lit, q_bnd, q_cl, q_le, q_lt, q_eq, pk_mul, nI_add, q_sub, q_div, q_pos, q_neg, q_T, q_F, q_max0, q_flg1, q_flg0, q_min, q_min2, q_bit, q_some, s13, s14]
theorem m_ends1 {c : Nat → Nat} {n p q a : Nat} {T S : M2} (h : TB c n T S) (s14 : S 14 0 = nI q) (hpn : p ≤ n) (hL : q + 4 ≤ p) (hc : a < 128) : (fX5_ends (nI a) (nI 0) (nI 0) (nI 0) S = some (nI 1) ∧ c (q + 3) = a) ∨ (fX5_ends (nI a) (nI 0) (nI 0) (nI 0) S = some (nI 0) ∧ ¬ c (q + 3) = a) := by
  have h1 := h.1
  have b3 := m_byte h (p := q + 3) (by omega)
  have c3 := (h.2.2.2 (q + 3) (by omega)).1
  rw [if_pos (by omega)] at b3
  by_cases e : c (q + 3) = a
  · refine Or.inl ⟨?_, e⟩
    have n0 : nI 0 = (0 : Int32) := rfl
    unfold fX5_ends
    rw [s14, show nI q + (3 : Int32) = nI (q + 3) from nI_add q 3, b3, q_some, if_pos (congrArg nI e)]
    unfold jn
    dsimp only
    rw [if_pos n0, if_pos n0, if_pos n0]
    rfl
  · refine Or.inr ⟨?_, e⟩
    unfold fX5_ends
    rw [s14, show nI q + (3 : Int32) = nI (q + 3) from nI_add q 3, b3, q_some, if_neg (by rw [q_eq (by omega)]; exact e)]
    rfl
theorem m_ends2 {c : Nat → Nat} {n p q a b : Nat} {T S : M2} (h : TB c n T S) (s14 : S 14 0 = nI q) (hpn : p ≤ n) (hL : q + 5 ≤ p) (hc : a < 128 ∧ b < 128 ∧ 0 < b) : (fX5_ends (nI a) (nI b) (nI 0) (nI 0) S = some (nI 1) ∧ c (q + 3) = a ∧ c (q + 4) = b) ∨ (fX5_ends (nI a) (nI b) (nI 0) (nI 0) S = some (nI 0) ∧ ¬ (c (q + 3) = a ∧ c (q + 4) = b)) := by
  have h1 := h.1
  have b3 := m_byte h (p := q + 3) (by omega)
  have c3 := (h.2.2.2 (q + 3) (by omega)).1
  have b4 := m_byte h (p := q + 4) (by omega)
  have c4 := (h.2.2.2 (q + 4) (by omega)).1
  rw [if_pos (by omega)] at b3 b4
  by_cases e : c (q + 3) = a
  · by_cases e2 : c (q + 4) = b
    · refine Or.inl ⟨?_, e, e2⟩
      simp (disch := omega) only [fX5_ends, lt, jn, q_lit, q_bnd, q_cl, q_le, q_lt, q_eq, pk_mul, nI_add, q_sub, q_div, q_pos, q_neg, q_T, q_F, q_max0, q_flg1, q_flg0, q_min, q_min2, q_bit, q_some, s14, b3, b4]
    · refine Or.inr ⟨?_, fun g => e2 g.2⟩
      simp (disch := omega) only [fX5_ends, lt, jn, q_lit, q_bnd, q_cl, q_le, q_lt, q_eq, pk_mul, nI_add, q_sub, q_div, q_pos, q_neg, q_T, q_F, q_max0, q_flg1, q_flg0, q_min, q_min2, q_bit, q_some, s14, b3, b4]
  · refine Or.inr ⟨?_, fun g => e g.1⟩
    simp (disch := omega) only [fX5_ends, lt, jn, q_lit, q_bnd, q_cl, q_le, q_lt, q_eq, pk_mul, nI_add, q_sub, q_div, q_pos, q_neg, q_T, q_F, q_max0, q_flg1, q_flg0, q_min, q_min2, q_bit, q_some, s14, b3]
theorem m_ends4 {c : Nat → Nat} {n p q a b e f : Nat} {T S : M2} (h : TB c n T S) (s14 : S 14 0 = nI q) (hpn : p ≤ n) (hL : q + 7 ≤ p) (hc : a < 128 ∧ b < 128 ∧ 0 < b ∧ e < 128 ∧ 0 < e ∧ f < 128 ∧ 0 < f) : (fX5_ends (nI a) (nI b) (nI e) (nI f) S = some (nI 1) ∧ c (q + 3) = a ∧ c (q + 4) = b ∧ c (q + 5) = e ∧ c (q + 6) = f) ∨ (fX5_ends (nI a) (nI b) (nI e) (nI f) S = some (nI 0) ∧ ¬ (c (q + 3) = a ∧ c (q + 4) = b ∧ c (q + 5) = e ∧ c (q + 6) = f)) := by
  have h1 := h.1
  have b3 := m_byte h (p := q + 3) (by omega)
  have c3 := (h.2.2.2 (q + 3) (by omega)).1
  have b4 := m_byte h (p := q + 4) (by omega)
  have c4 := (h.2.2.2 (q + 4) (by omega)).1
  have b5 := m_byte h (p := q + 5) (by omega)
  have c5 := (h.2.2.2 (q + 5) (by omega)).1
  have b6 := m_byte h (p := q + 6) (by omega)
  have c6 := (h.2.2.2 (q + 6) (by omega)).1
  rw [if_pos (by omega)] at b3 b4 b5 b6
  by_cases e1 : c (q + 3) = a
  · by_cases e2 : c (q + 4) = b
    · by_cases e3 : c (q + 5) = e
      · by_cases e4 : c (q + 6) = f
        · refine Or.inl ⟨?_, e1, e2, e3, e4⟩
          simp (disch := omega) only [fX5_ends, lt, jn, q_lit, q_bnd, q_cl, q_le, q_lt, q_eq, pk_mul, nI_add, q_sub, q_div, q_pos, q_neg, q_T, q_F, q_max0, q_flg1, q_flg0, q_min, q_min2, q_bit, q_some, s14, b3, b4, b5, b6]
        · refine Or.inr ⟨?_, fun g => e4 g.2.2.2⟩
          simp (disch := omega) only [fX5_ends, lt, jn, q_lit, q_bnd, q_cl, q_le, q_lt, q_eq, pk_mul, nI_add, q_sub, q_div, q_pos, q_neg, q_T, q_F, q_max0, q_flg1, q_flg0, q_min, q_min2, q_bit, q_some, s14, b3, b4, b5, b6]
      · refine Or.inr ⟨?_, fun g => e3 g.2.2.1⟩
        simp (disch := omega) only [fX5_ends, lt, jn, q_lit, q_bnd, q_cl, q_le, q_lt, q_eq, pk_mul, nI_add, q_sub, q_div, q_pos, q_neg, q_T, q_F, q_max0, q_flg1, q_flg0, q_min, q_min2, q_bit, q_some, s14, b3, b4, b5]
    · refine Or.inr ⟨?_, fun g => e2 g.2.1⟩
      simp (disch := omega) only [fX5_ends, lt, jn, q_lit, q_bnd, q_cl, q_le, q_lt, q_eq, pk_mul, nI_add, q_sub, q_div, q_pos, q_neg, q_T, q_F, q_max0, q_flg1, q_flg0, q_min, q_min2, q_bit, q_some, s14, b3, b4]
  · refine Or.inr ⟨?_, fun g => e1 g.1⟩
    simp (disch := omega) only [fX5_ends, lt, jn, q_lit, q_bnd, q_cl, q_le, q_lt, q_eq, pk_mul, nI_add, q_sub, q_div, q_pos, q_neg, q_T, q_F, q_max0, q_flg1, q_flg0, q_min, q_min2, q_bit, q_some, s14, b3]
theorem mt0 (c : Nat → Nat) (q p : Nat) : mt c q p 0 = true ↔ p - q = 4 ∧ c q = 98 ∧ c (q + 1) = 111 ∧ c (q + 2) = 108 ∧ c (q + 3) = 116 := by
  simp [mt, ck, wd]
theorem mt1 (c : Nat → Nat) (q p : Nat) : mt c q p 1 = true ↔ p - q = 5 ∧ c q = 112 ∧ c (q + 1) = 108 ∧ c (q + 2) = 97 ∧ c (q + 3) = 105 ∧ c (q + 4) = 110 := by
  simp [mt, ck, wd]
theorem mt2 (c : Nat → Nat) (q p : Nat) : mt c q p 2 = true ↔ p - q = 5 ∧ c q = 112 ∧ c (q + 1) = 105 ∧ c (q + 2) = 99 ∧ c (q + 3) = 107 ∧ c (q + 4) = 121 := by
  simp [mt, ck, wd]
theorem mt3 (c : Nat → Nat) (q p : Nat) : mt c q p 3 = true ↔ p - q = 7 ∧ c q = 103 ∧ c (q + 1) = 108 ∧ c (q + 2) = 117 ∧ c (q + 3) = 116 ∧ c (q + 4) = 116 ∧ c (q + 5) = 111 ∧ c (q + 6) = 110 := by
  simp [mt, ck, wd]
theorem mt4 (c : Nat → Nat) (q p : Nat) : mt c q p 4 = true ↔ p - q = 3 ∧ c q = 102 ∧ c (q + 1) = 97 ∧ c (q + 2) = 116 := by
  simp [mt, ck, wd]
theorem mt5 (c : Nat → Nat) (q p : Nat) : mt c q p 5 = true ↔ p - q = 7 ∧ c q = 99 ∧ c (q + 1) = 97 ∧ c (q + 2) = 109 ∧ c (q + 3) = 112 ∧ c (q + 4) = 104 ∧ c (q + 5) = 111 ∧ c (q + 6) = 114 := by
  simp [mt, ck, wd]
theorem mt6 (c : Nat → Nat) (q p : Nat) : mt c q p 6 = true ↔ p - q = 4 ∧ c q = 109 ∧ c (q + 1) = 111 ∧ c (q + 2) = 111 ∧ c (q + 3) = 110 := by
  simp [mt, ck, wd]
theorem mt7 (c : Nat → Nat) (q p : Nat) : mt c q p 7 = true ↔ p - q = 4 ∧ c q = 114 ∧ c (q + 1) = 97 ∧ c (q + 2) = 116 ∧ c (q + 3) = 101 := by
  simp [mt, ck, wd]
def WL (I E : Option Int32) (W : Prop) : Prop := (I = some (nI 0) ∧ ¬ W) ∨ (I = some (nI 1) ∧ E = some (nI 0) ∧ ¬ W) ∨ (I = some (nI 1) ∧ E = some (nI 1) ∧ W)
theorem wl1 {c : Nat → Nat} {n p q a b e a3 : Nat} {T S : M2} {W : Prop} (h : TB c n T S) (s13 : S 13 0 = nI p) (s14 : S 14 0 = nI q) (hqp : q ≤ p) (hpn : p ≤ n) (hc : a < 128 ∧ b < 128 ∧ e < 128 ∧ a3 < 128) (hW : W ↔ p - q = 4 ∧ c q = a ∧ c (q + 1) = b ∧ c (q + 2) = e ∧ c (q + 3) = a3) : WL (fX5_is (nI 4) (nI a) (nI b) (nI e) S) (fX5_ends (nI a3) (nI 0) (nI 0) (nI 0) S) W := by
  rcases m_is (L := 4) (a := a) (b := b) (e := e) h s13 s14 hqp hpn (by omega) (by omega) with ⟨i1, i2, i3, i4, i5⟩ | ⟨i1, i2⟩
  · rcases m_ends1 (a := a3) h s14 hpn (by omega) hc.2.2.2 with ⟨j1, j2⟩ | ⟨j1, j2⟩
    · exact Or.inr (Or.inr ⟨i1, j1, hW.mpr ⟨i2, i3, i4, i5, j2⟩⟩)
    · exact Or.inr (Or.inl ⟨i1, j1, fun w => j2 (hW.mp w).2.2.2.2⟩)
  · exact Or.inl ⟨i1, fun w => i2 ⟨(hW.mp w).1, (hW.mp w).2.1, (hW.mp w).2.2.1, (hW.mp w).2.2.2.1⟩⟩
theorem wl2 {c : Nat → Nat} {n p q a b e a3 a4 : Nat} {T S : M2} {W : Prop} (h : TB c n T S) (s13 : S 13 0 = nI p) (s14 : S 14 0 = nI q) (hqp : q ≤ p) (hpn : p ≤ n) (hc : a < 128 ∧ b < 128 ∧ e < 128 ∧ a3 < 128 ∧ a4 < 128 ∧ 0 < a4) (hW : W ↔ p - q = 5 ∧ c q = a ∧ c (q + 1) = b ∧ c (q + 2) = e ∧ c (q + 3) = a3 ∧ c (q + 4) = a4) : WL (fX5_is (nI 5) (nI a) (nI b) (nI e) S) (fX5_ends (nI a3) (nI a4) (nI 0) (nI 0) S) W := by
  rcases m_is (L := 5) (a := a) (b := b) (e := e) h s13 s14 hqp hpn (by omega) (by omega) with ⟨i1, i2, i3, i4, i5⟩ | ⟨i1, i2⟩
  · rcases m_ends2 (a := a3) (b := a4) h s14 hpn (by omega) hc.2.2.2 with ⟨j1, j2⟩ | ⟨j1, j2⟩
    · exact Or.inr (Or.inr ⟨i1, j1, hW.mpr ⟨i2, i3, i4, i5, j2⟩⟩)
    · exact Or.inr (Or.inl ⟨i1, j1, fun w => j2 (hW.mp w).2.2.2.2⟩)
  · exact Or.inl ⟨i1, fun w => i2 ⟨(hW.mp w).1, (hW.mp w).2.1, (hW.mp w).2.2.1, (hW.mp w).2.2.2.1⟩⟩
theorem wl4 {c : Nat → Nat} {n p q a b e a3 a4 a5 a6 : Nat} {T S : M2} {W : Prop} (h : TB c n T S) (s13 : S 13 0 = nI p) (s14 : S 14 0 = nI q) (hqp : q ≤ p) (hpn : p ≤ n) (hc : a < 128 ∧ b < 128 ∧ e < 128 ∧ a3 < 128 ∧ a4 < 128 ∧ 0 < a4 ∧ a5 < 128 ∧ 0 < a5 ∧ a6 < 128 ∧ 0 < a6) (hW : W ↔ p - q = 7 ∧ c q = a ∧ c (q + 1) = b ∧ c (q + 2) = e ∧ c (q + 3) = a3 ∧ c (q + 4) = a4 ∧ c (q + 5) = a5 ∧ c (q + 6) = a6) : WL (fX5_is (nI 7) (nI a) (nI b) (nI e) S) (fX5_ends (nI a3) (nI a4) (nI a5) (nI a6) S) W := by
  rcases m_is (L := 7) (a := a) (b := b) (e := e) h s13 s14 hqp hpn (by omega) (by omega) with ⟨i1, i2, i3, i4, i5⟩ | ⟨i1, i2⟩
  · rcases m_ends4 (a := a3) (b := a4) (e := a5) (f := a6) h s14 hpn (by omega) hc.2.2.2 with ⟨j1, j2⟩ | ⟨j1, j2⟩
    · exact Or.inr (Or.inr ⟨i1, j1, hW.mpr ⟨i2, i3, i4, i5, j2⟩⟩)
    · exact Or.inr (Or.inl ⟨i1, j1, fun w => j2 (hW.mp w).2.2.2.2⟩)
  · exact Or.inl ⟨i1, fun w => i2 ⟨(hW.mp w).1, (hW.mp w).2.1, (hW.mp w).2.2.1, (hW.mp w).2.2.2.1⟩⟩
theorem stage {I E : Option Int32} {w : Bool} (h : WL I E (w = true)) (v : Int32) (k : Unit → Option Int32) : (I.bind fun r1 => jn (α := Option (Int32)) (β := Unit) (fun j2 => if r1 = 0 then j2 () else E.bind fun r3 => if r3 = 0 then j2 () else some v) k) = if w = true then some v else k () := by
  have n1 : ¬ nI 1 = (0 : Int32) := by decide
  have n0 : nI 0 = (0 : Int32) := rfl
  rcases h with ⟨h1, h2⟩ | ⟨h1, h3, h2⟩ | ⟨h1, h3, h2⟩
  · rw [h1, q_some, if_neg h2]
    unfold jn
    dsimp only
    rw [if_pos n0]
  · rw [h1, h3, q_some, if_neg h2]
    unfold jn
    dsimp only
    rw [if_neg n1, q_some, if_pos n0]
  · rw [h1, h3, q_some, if_pos h2]
    unfold jn
    dsimp only
    rw [if_neg n1, q_some, if_neg n1]
theorem stageL {I E : Option Int32} {w : Bool} (h : WL I E (w = true)) (v u : Int32) : (I.bind fun r1 => if r1 = 0 then some u else E.bind fun r3 => if r3 = 0 then some u else some v) = if w = true then some v else some u := by
  have n1 : ¬ nI 1 = (0 : Int32) := by decide
  have n0 : nI 0 = (0 : Int32) := rfl
  rcases h with ⟨h1, h2⟩ | ⟨h1, h3, h2⟩ | ⟨h1, h3, h2⟩
  · rw [h1, q_some, if_neg h2, if_pos n0]
  · rw [h1, h3, q_some, if_neg h2, if_neg n1, q_some, if_pos n0]
  · rw [h1, h3, q_some, if_pos h2, if_neg n1, q_some, if_neg n1]
theorem stageF {I : Option Int32} {w : Bool} (h : I = some (nI w.toNat)) (v : Int32) (k : Option Int32) : (I.bind fun r1 => if r1 = 0 then k else some v) = if w = true then some v else k := by
  rw [h, q_some]
  cases w <;> rfl
theorem names {c : Nat → Nat} {n p q : Nat} {T S : M2} (h : TB c n T S) (t5 : T 5 0 = nI p) (t7 : T 7 0 = nI q) (s13 : S 13 0 = nI p) (s14 : S 14 0 = nI q) (hqp : q ≤ p) (hpn : p ≤ n) : (∃ k, k < 8 ∧ fX3_lineNamed T = some (nI k) ∧ fX5_lineNow S = some (nI k)) ∨ (fX3_lineNamed T = some (-nI 1) ∧ fX5_lineNow S = some (-nI 4)) := by
  have fat : fX5_is (nI 3) (nI 102) (nI 97) (nI 116) S = some (nI (mt c q p 4).toNat) := by
    rcases m_is (L := 3) (a := 102) (b := 97) (e := 116) h s13 s14 hqp hpn (by omega) (by omega) with ⟨i1, i2⟩ | ⟨i1, i2⟩
    · rw [i1, (mt4 c q p).mpr i2]
      rfl
    · have : mt c q p 4 = false := by
        cases e : mt c q p 4
        · rfl
        · exact absurd ((mt4 c q p).mp e) i2
      rw [i1, this]
      rfl
  have eT : fX3_lineNamed T = if mt c q p 0 = true then some (nI 4) else if mt c q p 1 = true then some (nI 0) else if mt c q p 2 = true then some (nI 1) else if mt c q p 3 = true then some (nI 2) else if mt c q p 4 = true then some (nI 3) else if mt c q p 5 = true then some (nI 5) else if mt c q p 6 = true then some (nI 6) else if mt c q p 7 = true then some (nI 7) else some (-nI 1) := by
    unfold fX3_lineNamed
    rw [stageF (t_name h t5 t7 hqp hpn (k := 0) (by omega)), stageF (t_name h t5 t7 hqp hpn (k := 1) (by omega)), stageF (t_name h t5 t7 hqp hpn (k := 2) (by omega)), stageF (t_name h t5 t7 hqp hpn (k := 3) (by omega)), stageF (t_name h t5 t7 hqp hpn (k := 4) (by omega)), stageF (t_name h t5 t7 hqp hpn (k := 5) (by omega)), stageF (t_name h t5 t7 hqp hpn (k := 6) (by omega)), stageF (t_name h t5 t7 hqp hpn (k := 7) (by omega))]
    rfl
  have eS : fX5_lineNow S = if mt c q p 1 = true then some (nI 0) else if mt c q p 2 = true then some (nI 1) else if mt c q p 3 = true then some (nI 2) else if mt c q p 4 = true then some (nI 3) else if mt c q p 0 = true then some (nI 4) else if mt c q p 5 = true then some (nI 5) else if mt c q p 6 = true then some (nI 6) else if mt c q p 7 = true then some (nI 7) else some (-nI 4) := by
    unfold fX5_lineNow
    refine (stage (wl2 h s13 s14 hqp hpn (by omega) (mt1 c q p)) _ _).trans ?_
    refine congrArg (fun z => if mt c q p 1 = true then some (nI 0) else z) ?_
    refine (stage (wl2 h s13 s14 hqp hpn (by omega) (mt2 c q p)) _ _).trans ?_
    refine congrArg (fun z => if mt c q p 2 = true then some (nI 1) else z) ?_
    refine (stage (wl4 h s13 s14 hqp hpn (by omega) (mt3 c q p)) _ _).trans ?_
    refine congrArg (fun z => if mt c q p 3 = true then some (nI 2) else z) ?_
    refine (stageF fat _ _).trans ?_
    refine congrArg (fun z => if mt c q p 4 = true then some (nI 3) else z) ?_
    refine (stage (wl1 h s13 s14 hqp hpn (by omega) (mt0 c q p)) _ _).trans ?_
    refine congrArg (fun z => if mt c q p 0 = true then some (nI 4) else z) ?_
    refine (stage (wl4 h s13 s14 hqp hpn (by omega) (mt5 c q p)) _ _).trans ?_
    refine congrArg (fun z => if mt c q p 5 = true then some (nI 5) else z) ?_
    refine (stage (wl1 h s13 s14 hqp hpn (by omega) (mt6 c q p)) _ _).trans ?_
    refine congrArg (fun z => if mt c q p 6 = true then some (nI 6) else z) ?_
    exact stageL (wl1 h s13 s14 hqp hpn (by omega) (mt7 c q p)) _ _
  rw [eT, eS]
  by_cases m0 : mt c q p 0 = true
  · have x0 := (mt0 c q p).mp m0
    have m1 : ¬ mt c q p 1 = true := fun g => by have := (mt1 c q p).mp g; omega
    have m2 : ¬ mt c q p 2 = true := fun g => by have := (mt2 c q p).mp g; omega
    have m3 : ¬ mt c q p 3 = true := fun g => by have := (mt3 c q p).mp g; omega
    have m4 : ¬ mt c q p 4 = true := fun g => by have := (mt4 c q p).mp g; omega
    rw [if_pos m0, if_neg m1, if_neg m2, if_neg m3, if_neg m4, if_pos m0]
    exact Or.inl ⟨4, by omega, rfl, rfl⟩
  · rw [if_neg m0]
    by_cases m1 : mt c q p 1 = true
    · rw [if_pos m1, if_pos m1]
      exact Or.inl ⟨0, by omega, rfl, rfl⟩
    · rw [if_neg m1, if_neg m1]
      by_cases m2 : mt c q p 2 = true
      · rw [if_pos m2, if_pos m2]
        exact Or.inl ⟨1, by omega, rfl, rfl⟩
      · rw [if_neg m2, if_neg m2]
        by_cases m3 : mt c q p 3 = true
        · rw [if_pos m3, if_pos m3]
          exact Or.inl ⟨2, by omega, rfl, rfl⟩
        · rw [if_neg m3, if_neg m3]
          by_cases m4 : mt c q p 4 = true
          · rw [if_pos m4, if_pos m4]
            exact Or.inl ⟨3, by omega, rfl, rfl⟩
          · rw [if_neg m4, if_neg m4, if_neg m0]
            by_cases m5 : mt c q p 5 = true
            · rw [if_pos m5, if_pos m5]
              exact Or.inl ⟨5, by omega, rfl, rfl⟩
            · rw [if_neg m5, if_neg m5]
              by_cases m6 : mt c q p 6 = true
              · rw [if_pos m6, if_pos m6]
                exact Or.inl ⟨6, by omega, rfl, rfl⟩
              · rw [if_neg m6, if_neg m6]
                by_cases m7 : mt c q p 7 = true
                · rw [if_pos m7, if_pos m7]
                  exact Or.inl ⟨7, by omega, rfl, rfl⟩
                · rw [if_neg m7, if_neg m7]
                  exact Or.inr ⟨rfl, rfl⟩
