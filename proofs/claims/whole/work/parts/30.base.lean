/-! L2: the pure functions of the class against those of the model. Numbers: every value is nI of a Nat. -/
theorem q_lit (n : Nat) : (OfNat.ofNat n : Int32) = nI (OfNat.ofNat n) := rfl
theorem q_bnd {α : Type} {i n : Nat} {o : Option α} (h : i < n ∧ n < 2 ^ 31) : bnd (nI i) n o = o := by
  unfold bnd
  rw [if_neg (nI_in h.1 h.2)]
theorem q_cl {n : Nat} (h : n < 2 ^ 31) : (nI n).toNatClampNeg = n := nI_clamp h
theorem q_le {a b : Nat} (h : a < 2 ^ 31 ∧ b < 2 ^ 31) : (nI a ≤ nI b) = (a ≤ b) := propext (nI_leI h.1 h.2)
theorem q_lt {a b : Nat} (h : a < 2 ^ 31 ∧ b < 2 ^ 31) : (nI a < nI b) = (a < b) := propext (nI_ltI h.1 h.2)
theorem q_eq {a b : Nat} (h : a < 2 ^ 31 ∧ b < 2 ^ 31) : (nI a = nI b) = (a = b) := propext (nI_eq h.1 h.2)
theorem q_up {α : Type} (f : Nat → α) (k : Nat) (v : α) (j : Nat) : va_up f k v j = if j = k then v else f j := rfl
theorem q_ud (f : Nat → Int32) (k : Nat) (v : Int32) (j : Nat) : upd f k v j = if j = k then v else f j := rfl
theorem q_pos {α : Type} {c : Prop} {d : Decidable c} {a b : α} (h : c) : @ite α c d a b = a := if_pos h
theorem q_neg {α : Type} {c : Prop} {d : Decidable c} {a b : α} (h : ¬ c) : @ite α c d a b = b := if_neg h
theorem q_T {α : Type} {d : Decidable True} {a b : α} : @ite α True d a b = a := if_pos trivial
theorem q_F {α : Type} {d : Decidable False} {a b : α} : @ite α False d a b = b := if_neg id
theorem q_max0 {a : Nat} {d : Decidable (0 < a)} : (@ite Int32 (0 < a) d (nI a) (nI 0)) = nI a := by
  split
  · rfl
  · rw [show a = 0 by omega]
theorem q_sub {a b : Nat} (h : b ≤ a) : nI a - nI b = nI (a - b) := pk_sub h
theorem q_div {a d : Nat} (h : a < 2 ^ 31 ∧ 0 < d ∧ d < 2 ^ 31) : nI a / nI d = nI (a / d) := pk_div h.1 h.2.1 h.2.2
theorem q_min {a b : Nat} {d : Decidable (a < b)} : (@ite Int32 (a < b) d (nI a) (nI b)) = nI (min a b) := by
  split
  · rw [Nat.min_eq_left (by omega)]
  · rw [Nat.min_eq_right (by omega)]
theorem q_min2 {a b : Nat} {d : Decidable (a ≤ b)} : (@ite Int32 (a ≤ b) d (nI a) (nI b)) = nI (min a b) := by
  split
  · rw [Nat.min_eq_left (by omega)]
  · rw [Nat.min_eq_right (by omega)]
theorem q_some {α β : Type} (a : α) (k : α → Option β) : (some a).bind k = k a := rfl
theorem q_s31 : ∀ n, n < 32 → ((nI n &&& 31).toBitVec.smod 32).toNat = n := by decide +kernel
theorem q_shr {c b : Nat} (h : c < 2 ^ 31 ∧ b < 32) : nI c >>> (nI b &&& nI 31) = nI (c / 2 ^ b) := pk_shrN h.1 _ b (q_s31 b h.2)
theorem q_and1 (n : Nat) (h : n < 2 ^ 32) : nI n &&& nI 1 = nI (n % 2) := pk_andN h 1 (by decide)
theorem q_bit {c b : Nat} (h : c < 2 ^ 31 ∧ b < 32) : (nI c >>> (nI b &&& nI 31)) &&& nI 1 = nI (c.testBit b).toNat := by
  rw [q_shr h, q_and1 _ (Nat.lt_of_le_of_lt (Nat.div_le_self _ _) (by omega)), Nat.toNat_testBit]
theorem q_shl {b : Nat} (h : b < 31) : nI 1 <<< (nI b &&& nI 31) = nI (2 ^ b) := by
  have h2 : 2 ^ b < 2 ^ 31 := Nat.pow_lt_pow_right (by decide) h
  have := pk_shlN (n := 1) (nI b &&& 31) b (q_s31 b (by omega)) (by omega)
  rw [Nat.one_mul] at this
  exact this
theorem q_or (a b : Nat) : nI a ||| nI b = nI (a ||| b) := by
  apply Int32.toBitVec_inj.1
  show BitVec.ofNat 32 a ||| BitVec.ofNat 32 b = BitVec.ofNat 32 (a ||| b)
  apply BitVec.eq_of_getLsbD_eq
  intro i hi
  simp [hi]
theorem q_and (a b : Nat) : nI a &&& nI b = nI (a &&& b) := by
  apply Int32.toBitVec_inj.1
  show BitVec.ofNat 32 a &&& BitVec.ofNat 32 b = BitVec.ofNat 32 (a &&& b)
  apply BitVec.eq_of_getLsbD_eq
  intro i hi
  simp [hi]
theorem q_b0 (b : Bool) : (nI b.toNat = nI 0) = (b = false) := by cases b <;> simp <;> decide
theorem q_b1 (b : Bool) : (nI b.toNat = nI 1) = (b = true) := by cases b <;> simp <;> decide
theorem q_bz (b : Bool) : (0 < b.toNat) = (b = true) := by cases b <;> simp
theorem q_zb {α : Type} (b : Bool) (o : Option α) : zb (nI b.toNat) o = o := by cases b <;> rfl
theorem q_flag (b : Bool) : fX5_flag (nI b.toNat) = some (nI b.toNat) := by cases b <;> rfl
theorem q_flg1 : fX5_flag (nI 1) = some (nI 1) := rfl
theorem q_flg0 : fX5_flag (nI 0) = some (nI 0) := rfl
theorem q_fl (b : Bool) : (if b = true then some (nI 1) else some (nI 0)) = some (nI b.toNat) := by cases b <;> rfl
theorem q_tf {α : Type} (b : Bool) (x y : α) : (if b = false then x else y) = if b = true then y else x := by cases b <;> rfl
/-! arguments -/
theorem q_win {j a b : Nat} (h : a ≤ j ∧ j ≤ b ∧ b < 2 ^ 31) : fX4_within (nI j) (nI a) (nI b) = some (nI 1) := by
  simp (disch := omega) only [fX4_within, lt, jn, q_lit, q_bnd, q_cl, q_le, q_lt, q_eq, pk_mul, nI_add, q_sub, q_div, q_pos, q_neg, q_T, q_F, q_max0, q_flg1, q_flg0, q_min, q_min2, q_bit, q_some]
theorem q_within (x : Int32) {a b : Nat} (hb : a ≤ b + 1 ∧ b < 2 ^ 30) : (∃ j, a ≤ j ∧ j ≤ b ∧ x = nI j) ∨ ((∀ j, a ≤ j → j ≤ b → x ≠ nI j) ∧ fX4_within x (nI a) (nI b) = some (nI 0)) := by
  rcases pk_ix x (n := b + 1) (by omega) with h | h | ⟨j, hj, rfl⟩
  · refine Or.inr ⟨fun j h1 h2 h3 => ?_, ?_⟩
    · rw [h3] at h
      exact nI_pos (by omega) h
    · have h2 : x < nI a := by
        have h0 : (nI 0) ≤ nI a := nI_le (by omega) (by omega)
        rw [nI_0] at h0
        exact Int32.lt_of_lt_of_le h h0
      unfold fX4_within
      rw [if_pos h2]
      rfl
  · refine Or.inr ⟨fun j h1 h2 h3 => ?_, ?_⟩
    · rw [h3] at h
      rw [nI_leI (by omega) (by omega)] at h
      omega
    · have h1 : ¬ x < nI a := fun h4 => by
        have := Int32.lt_of_le_of_lt h h4
        rw [nI_ltI (by omega) (by omega)] at this
        omega
      have h2 : nI b < x := Int32.lt_of_lt_of_le (nI_lt (Nat.lt_succ_self b) (by omega)) h
      unfold fX4_within
      rw [if_neg h1, if_pos h2]
      rfl
  · by_cases h : a ≤ j
    · exact Or.inl ⟨j, h, by omega, rfl⟩
    · refine Or.inr ⟨fun i h1 h2 h3 => ?_, ?_⟩
      · rw [nI_eq (by omega) (by omega)] at h3
        omega
      · simp (disch := omega) only [fX4_within, lt, jn, q_lit, q_bnd, q_cl, q_le, q_lt, q_eq, pk_mul, nI_add, q_sub, q_div, q_pos, q_neg, q_T, q_F, q_max0, q_flg1, q_flg0, q_min, q_min2, q_bit, q_some]
theorem q_has (x : Int32) (n : Nat) (hn : n < 2 ^ 30) : (∃ j, j < n ∧ x = nI j ∧ fX4_within x (nI 0) (nI n - nI 1) = some (nI 1)) ∨ ((∀ j, j < n → x ≠ nI j) ∧ fX4_within x (nI 0) (nI n - nI 1) = some (nI 0)) := by
  by_cases h0 : n = 0
  · subst h0
    refine Or.inr ⟨fun j h => absurd h (Nat.not_lt_zero j), ?_⟩
    unfold fX4_within
    split
    · rfl
    · rename_i h
      rw [if_pos]
      · rfl
      · rw [Int32.lt_iff_toInt_lt] at *
        rw [pk_sub_toInt (by decide) (by decide)]
        rw [nI_toInt (by decide)] at h
        omega
  · have e : nI n - nI 1 = nI (n - 1) := q_sub (by omega)
    rw [e]
    rcases q_within x (a := 0) (b := n - 1) (by omega) with ⟨j, h1, h2, rfl⟩ | ⟨h1, h2⟩
    · exact Or.inl ⟨j, by omega, rfl, q_win (by omega)⟩
    · exact Or.inr ⟨fun j h3 => h1 j (by omega) (by omega), h2⟩
theorem q_in5 (x y z : Int32) : fX5_in x.toInt64 y.toInt64 z.toInt64 = fX4_within x y z := by
  unfold fX5_in fX4_within
  simp only [lg_cmp_lt, lg_cmp_gt]
  simp only [Int64.lt_iff_toInt_lt, Int32.toInt_toInt64, Int32.lt_iff_toInt_lt]
theorem q_in_0_127 (x : Int32) : fX5_in x.toInt64 0 127 = fX4_within x (nI 0) (nI 127) := q_in5 x (nI 0) (nI 127)
theorem q_in_0_1 (x : Int32) : fX5_in x.toInt64 0 1 = fX4_within x (nI 0) (nI 1) := q_in5 x (nI 0) (nI 1)
theorem q_in_0_2 (x : Int32) : fX5_in x.toInt64 0 2 = fX4_within x (nI 0) (nI 2) := q_in5 x (nI 0) (nI 2)
theorem q_in_0_3 (x : Int32) : fX5_in x.toInt64 0 3 = fX4_within x (nI 0) (nI 3) := q_in5 x (nI 0) (nI 3)
theorem q_in_0_4 (x : Int32) : fX5_in x.toInt64 0 4 = fX4_within x (nI 0) (nI 4) := q_in5 x (nI 0) (nI 4)
theorem q_in_0_5 (x : Int32) : fX5_in x.toInt64 0 5 = fX4_within x (nI 0) (nI 5) := q_in5 x (nI 0) (nI 5)
theorem q_in_0_9 (x : Int32) : fX5_in x.toInt64 0 9 = fX4_within x (nI 0) (nI 9) := q_in5 x (nI 0) (nI 9)
theorem q_in_0_10 (x : Int32) : fX5_in x.toInt64 0 10 = fX4_within x (nI 0) (nI 10) := q_in5 x (nI 0) (nI 10)
theorem q_in_0_20 (x : Int32) : fX5_in x.toInt64 0 20 = fX4_within x (nI 0) (nI 20) := q_in5 x (nI 0) (nI 20)
theorem q_in_1_20 (x : Int32) : fX5_in x.toInt64 1 20 = fX4_within x (nI 1) (nI 20) := q_in5 x (nI 1) (nI 20)
theorem q_in_48_57 (x : Int32) : fX5_in x.toInt64 48 57 = fX4_within x (nI 48) (nI 57) := q_in5 x (nI 48) (nI 57)
theorem q_in_97_122 (x : Int32) : fX5_in x.toInt64 97 122 = fX4_within x (nI 97) (nI 122) := q_in5 x (nI 97) (nI 122)
theorem q_inB (x z : Int32) : fX5_in x.toInt64 0 z.toInt64 = fX4_within x (nI 0) z := q_in5 x (nI 0) z
theorem q_in_1_9 (x : Int32) : fX5_in x.toInt64 1 9 = fX4_within x (nI 1) (nI 9) := q_in5 x (nI 1) (nI 9)
