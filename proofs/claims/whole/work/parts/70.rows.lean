/-! rows of the model: the orders of the bolts -/
def ups {α : Type} (g : Nat → List α) : Nat → Nat → List α
  | 0, _ => []
  | d + 1, v => g v ++ ups g d (v + 1)
theorem ups_mem {α : Type} {g : Nat → List α} {x : α} : ∀ {d v : Nat}, x ∈ ups g d v ↔ ∃ w, v ≤ w ∧ w < v + d ∧ x ∈ g w
  | 0, v => by
    refine ⟨fun h => absurd h (by rw [ups]; exact List.not_mem_nil), fun ⟨w, h1, h2, _⟩ => by omega⟩
  | d + 1, v => by
    rw [ups, List.mem_append, ups_mem]
    constructor
    · rintro (h | ⟨w, h1, h2, h3⟩)
      · exact ⟨v, by omega, by omega, h⟩
      · exact ⟨w, by omega, by omega, h3⟩
    · rintro ⟨w, h1, h2, h3⟩
      by_cases e : w = v
      · exact Or.inl (e ▸ h3)
      · exact Or.inr ⟨w, by omega, by omega, h3⟩
def rowf (n : Nat) : Nat → Nat → List Nat → List Nat
  | 0, _, acc => acc
  | j + 1, v, acc => rowf n j (v / n) (v % n :: acc)
def rmask (n : Nat) : Nat → Nat → Nat → Nat
  | 0, _, m => m
  | j + 1, v, m => rmask n j (v / n) (m ||| 2 ^ (v % n))
def dgs (n v : Nat) : List Nat := rowf n n v []
def isR (n v : Nat) : Bool := decide (rmask n n v 0 = 2 ^ n - 1)
def chk (n : Nat) (l : List Nat) : Bool := (List.range n).all (fun x => decide (l.count x = 1)) && l.all (fun x => decide (x < n))
theorem isR_chk : ∀ n, n < 6 → (List.range (n ^ n)).all (fun v => isR n v == chk n (dgs n v)) = true := by decide +kernel
theorem isR_eq {n v : Nat} (hn : n ≤ 5) (hv : v < n ^ n) : isR n v = chk n (dgs n v) := by
  have := isR_chk n (by omega)
  rw [List.all_eq_true] at this
  exact eq_of_beq (this v (List.mem_range.mpr hv))
theorem chk_perm {n : Nat} {l : List Nat} : chk n l = true ↔ l.Perm (List.range n) := by
  unfold chk
  rw [Bool.and_eq_true, List.all_eq_true, List.all_eq_true, List.perm_iff_count]
  constructor
  · rintro ⟨h1, h2⟩ a
    rw [List.count_range]
    by_cases e : a < n
    · rw [if_pos e]
      exact of_decide_eq_true (h1 a (List.mem_range.mpr e))
    · rw [if_neg e]
      exact List.count_eq_zero.mpr fun h => e (of_decide_eq_true (h2 a h))
  · intro h
    refine ⟨fun x hx => ?_, fun x hx => ?_⟩
    · have e := List.mem_range.mp hx
      have := h x
      rw [List.count_range, if_pos e] at this
      exact decide_eq_true this
    · have h1 := List.count_pos_iff.mpr hx
      have := h x
      rw [List.count_range] at this
      apply decide_eq_true
      by_cases e : x < n
      · exact e
      · rw [if_neg e] at this
        omega
theorem rowf_len (n : Nat) : ∀ (j v : Nat) (acc : List Nat), (rowf n j v acc).length = j + acc.length
  | 0, v, acc => by rw [rowf, Nat.zero_add]
  | j + 1, v, acc => by rw [rowf, rowf_len n j, List.length_cons]; omega
/-- the number of a row, its bolts from the last -/
def nmr (n : Nat) : List Nat → Nat
  | [] => 0
  | d :: r => n * nmr n r + d
theorem nmr_row {n : Nat} : ∀ (r acc : List Nat), (∀ d, d ∈ r → d < n) → rowf n r.length (nmr n r) acc = r.reverse ++ acc
  | [], acc, _ => rfl
  | d :: r, acc, h => by
    have hd := h d List.mem_cons_self
    have e1 : (n * nmr n r + d) / n = nmr n r := by
      rw [Nat.mul_add_div (by omega), Nat.div_eq_of_lt hd, Nat.add_zero]
    have e2 : (n * nmr n r + d) % n = d := by
      rw [Nat.mul_add_mod, Nat.mod_eq_of_lt hd]
    rw [List.length_cons, rowf, nmr, e1, e2, nmr_row r (d :: acc) fun x hx => h x (List.mem_cons_of_mem _ hx), List.reverse_cons, List.append_assoc]
    rfl
theorem nmr_lt {n : Nat} : ∀ (r : List Nat), (∀ d, d ∈ r → d < n) → nmr n r < n ^ r.length
  | [], _ => by rw [nmr, List.length_nil, Nat.pow_zero]; omega
  | d :: r, h => by
    have hd := h d List.mem_cons_self
    have ih := nmr_lt r fun x hx => h x (List.mem_cons_of_mem _ hx)
    rw [nmr, List.length_cons, Nat.pow_succ]
    calc n * nmr n r + d < n * nmr n r + n := by omega
      _ = n * (nmr n r + 1) := by rw [Nat.mul_add, Nat.mul_one]
      _ ≤ n * n ^ r.length := Nat.mul_le_mul_left n ih
      _ = n ^ r.length * n := Nat.mul_comm _ _
/-- every order of the bolts is a row -/
theorem row_ex {n : Nat} {l : List Nat} (h : l.Perm (List.range n)) : ∃ v, v < n ^ n ∧ dgs n v = l := by
  have hl : l.length = n := by rw [h.length_eq, List.length_range]
  have hm : ∀ d, d ∈ l.reverse → d < n := fun d hd => List.mem_range.mp (h.mem_iff.mp (List.mem_reverse.mp hd))
  have h1 := nmr_row l.reverse [] hm
  have h2 := nmr_lt l.reverse hm
  rw [List.length_reverse, hl] at h1 h2
  rw [List.reverse_reverse, List.append_nil] at h1
  exact ⟨_, h2, h1⟩
theorem row_pow {n : Nat} (hn : n ≤ 5) : n ^ n ≤ 3125 := by
  rcases (by omega : n = 0 ∨ n = 1 ∨ n = 2 ∨ n = 3 ∨ n = 4 ∨ n = 5) with rfl | rfl | rfl | rfl | rfl | rfl <;> decide
theorem m_rows_L {S : M2} {n : Nat} (h3 : S 3 0 = nI n) (hn : n ≤ 5) (kk : Int32 → Option Int32) : ∀ d t f : Nat, t + d = n → d < f → fX5_rows_L4 S kk f (nI (n ^ t)) (nI t) = kk (nI (n ^ n))
  | 0, t, f + 1, ht, hf => by
    have e : t = n := by omega
    subst e
    simp (disch := omega) only [fX5_rows_L4, lt, jn, q_lit, q_bnd, q_cl, q_le, q_lt, q_eq, pk_mul, nI_add, q_sub, q_div, q_pos, q_neg, q_T, q_F, q_max0, q_flg1, q_flg0, q_min, q_min2, q_bit, q_some, h3]
  | d + 1, t, f + 1, ht, hf => by
    have ih := m_rows_L h3 hn kk d (t + 1) f (by omega) (by omega)
    rw [Nat.pow_succ] at ih
    simp (disch := omega) only [fX5_rows_L4, lt, jn, q_lit, q_bnd, q_cl, q_le, q_lt, q_eq, pk_mul, nI_add, q_sub, q_div, q_pos, q_neg, q_T, q_F, q_max0, q_flg1, q_flg0, q_min, q_min2, q_bit, q_some, h3]
    exact ih
theorem m_rows {S : M2} {n : Nat} (h3 : S 3 0 = nI n) (hn : n ≤ 5) : fX5_rows S = some (nI (n ^ n)) := by
  have := m_rows_L h3 hn (fun p6 => some p6) n 0 400 (by omega) (by omega)
  rw [Nat.pow_zero] at this
  exact this
theorem neg1 : nI 0 - nI 1 < nI 0 := by decide
theorem q_mod' {r n : Nat} (h : r < 2 ^ 31 ∧ 0 < n ∧ n < 2 ^ 31) : nI r - nI r / nI n * nI n = nI (r % n) := q_mod h
theorem m_row_L {n : Nat} (hn : n ≤ 5) : ∀ (j v m f : Nat) (acc : List Nat) (S : M2), S 3 0 = nI n → j ≤ n → v < 2 ^ 30 → j < f → (∀ i x, acc[i]? = some x → S 19 (j + i) = nI x) → ∃ S', (∀ kk : (Int32 × M2) → Option (Int32 × M2), fX5_isRow_L12 kk f (nI v) (nI m) (nI j - nI 1) S = kk (nI (rmask n j v m), S')) ∧ (∀ q, q ≠ 19 → S' q = S q) ∧ ∀ i x, (rowf n j v acc)[i]? = some x → S' 19 i = nI x
  | 0, v, m, f + 1, acc, S, h3, hj, hv, hf, ha => by
    refine ⟨S, fun kk => ?_, fun _ _ => rfl, fun i x hx => ?_⟩
    · have := neg1
      simp (disch := omega) only [fX5_isRow_L12, lt, jn, q_lit, q_bnd, q_cl, q_le, q_lt, q_eq, pk_mul, nI_add, q_sub, q_div, q_pos, q_neg, q_T, q_F, q_max0, q_flg1, q_flg0, q_min, q_min2, q_bit, q_some, this]
      rfl
    · have := ha i x hx
      rw [Nat.zero_add] at this
      exact this
  | j + 1, v, m, f + 1, acc, S, h3, hj, hv, hf, ha => by
    have hvn : v / n < 2 ^ 30 := Nat.lt_of_le_of_lt (Nat.div_le_self _ _) hv
    have hmod : v % n < n := Nat.mod_lt _ (by omega)
    obtain ⟨S', a1, a2, a3⟩ := m_row_L hn j (v / n) (m ||| 2 ^ (v % n)) f (v % n :: acc) (va_up S 19 (upd (S 19) j (nI (v % n)))) h3 (by omega) hvn (by omega) (fun i x hx => by
      show upd (S 19) j (nI (v % n)) (j + i) = _
      rw [q_ud]
      cases i with
      | zero =>
        rw [List.getElem?_cons_zero, Option.some.injEq] at hx
        rw [if_pos (by omega), hx]
      | succ i =>
        rw [List.getElem?_cons_succ] at hx
        rw [if_neg (by omega), ← ha i x hx]
        congr 1
        omega)
    refine ⟨S', fun kk => ?_, fun q hq => ?_, a3⟩
    · rw [rmask, ← a1 kk]
      have e1 : nI (j + 1) - nI 1 = nI j := q_sub (by omega)
      have e2 : nI j + (-nI 1) = nI j - nI 1 := by rw [Int32.sub_eq_add_neg]
      have e3 : nI v - nI v / nI n * nI n = nI (v % n) := q_mod (by omega)
      rw [q_div (by omega)] at e3
      have e4 : va_up S 19 (upd (S 19) j (nI (v % n))) 3 0 = nI n := h3
      rw [e1]
      simp (disch := omega) only [fX5_isRow_L12, lt, q_lit, q_bnd, q_cl, q_lt, q_eq, q_neg, q_div, q_some, h3, e3, e4, e2, q_up, q_T, q_F, q_pos, q_ud, q_shl, q_or]
    · rw [a2 q hq, q_up, if_neg hq]
theorem m_isRow {S : M2} {n v : Nat} (h3 : S 3 0 = nI n) (hn : n ≤ 5) (hv : v < n ^ n) : ∃ S', fX5_isRow (nI v) S = some (nI (isR n v).toNat, S') ∧ (∀ q, q ≠ 19 → S' q = S q) ∧ ∀ i x, (dgs n v)[i]? = some x → S' 19 i = nI x := by
  have hp := row_pow hn
  obtain ⟨S', a1, a2, a3⟩ := m_row_L hn n v 0 400 [] S h3 (Nat.le_refl _) (by omega) (by omega) (fun i x hx => by rw [List.getElem?_nil] at hx; exact absurd hx (fun h => nomatch h))
  refine ⟨S', ?_, a2, a3⟩
  unfold fX5_isRow
  simp only [lt, q_lit, h3]
  refine (a1 _).trans ?_
  have h3' : S' 3 0 = nI n := by rw [a2 3 (by omega)]; exact h3
  have h2 : 0 < 2 ^ n := Nat.two_pow_pos n
  have hp2 : 2 ^ n ≤ 2 ^ 5 := Nat.pow_le_pow_right (by decide) hn
  have hb : rmask n n v 0 < 2 ^ 5 := by
    have : ∀ (j v m : Nat), m < 2 ^ 5 → (j = 0 ∨ 0 < n) → rmask n j v m < 2 ^ 5 := by
      intro j
      induction j with
      | zero => intro v m h _; exact h
      | succ j ih =>
        intro v m h hz
        have hz' : 0 < n := by omega
        rw [rmask]
        exact ih _ _ (Nat.or_lt_two_pow h (Nat.pow_lt_pow_right (by decide) (Nat.lt_of_lt_of_le (Nat.mod_lt _ hz') hn))) (Or.inr hz')
    exact this n v 0 (by decide) (by omega)
  unfold isR
  by_cases e : rmask n n v 0 = 2 ^ n - 1
  · rw [decide_eq_true e, e]
    simp (disch := omega) only [h3', q_shl, q_sub, q_pos, q_T, Bool.toNat_true]
  · rw [decide_eq_false e]
    simp (disch := omega) only [h3', q_shl, q_sub, q_eq, q_neg, q_F, Bool.toNat_false]
