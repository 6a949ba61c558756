/-! What class and model both hold: a shed as Nats by field (N, the numbers of the class's fields) and the bales as lists of bolts from the top (B). -/
abbrev NN : Type := Nat → Nat → Nat
abbrev BB : Type := Nat → List Nat
/-- the class's slice S holds it -/
def CS (N : NN) (B : BB) (S : M2) : Prop :=
  (S 0 0 = nI (N 0 0) ∧ S 4 0 = nI (N 4 0) ∧ S 7 0 = nI (N 7 0) ∧ S 12 0 = nI (N 12 0) ∧ S 13 0 = nI (N 13 0) ∧ S 14 0 = nI (N 14 0) ∧ S 15 0 = nI (N 15 0)) ∧
  (∀ b, b < N 0 0 → S 1 b = nI (N 1 b) ∧ S 2 b = nI (N 2 b) ∧ S 3 b = nI (N 3 b)) ∧
  (∀ m, m < N 7 0 → S 8 m = nI (N 8 m) ∧ S 9 m = nI (N 9 m) ∧ S 10 m = nI (N 10 m) ∧ S 11 m = nI (N 11 m)) ∧
  (∀ i, i < N 15 0 → S 16 i = nI (N 16 i) ∧ S 17 i = nI (N 17 i)) ∧
  (∀ k, k < 3 → S 6 k = nI (B k).length ∧ ∀ i b, (B k)[i]? = some b → S 5 (k * 5 + i) = nI b)
/-- the model's row r holds it -/
def MS (N : NN) (B : BB) (r : Nat → Int32) : Prop :=
  (r 46 = nI (N 12 0) ∧ r 47 = nI (N 13 0) ∧ r 48 = nI (N 14 0) ∧ r 49 = nI (N 15 0)) ∧
  (∀ b, b < N 0 0 → r (6 * b) = nI (N 1 b) ∧ r (6 * b + 1) = nI (N 2 b) ∧ r (6 * b + 2) = nI (N 3 b) ∧ r (6 * b + 3) = nI ((N 4 0).testBit b).toNat) ∧
  (∀ m, m < N 7 0 → r (30 + 4 * m) = nI (N 8 m) ∧ r (30 + 4 * m + 1) = nI (N 9 m) ∧ r (30 + 4 * m + 2) = nI (N 10 m) ∧ r (30 + 4 * m + 3) = nI (N 11 m)) ∧
  (∀ i, i < N 15 0 → r (50 + 2 * i) = nI (N 16 i) ∧ r (50 + 2 * i + 1) = nI (N 17 i)) ∧
  (∀ k, k < 3 → ∀ i b, (B k)[i]? = some b → r (6 * b + 4) = nI k ∧ r (6 * b + 5) = nI i)
/-- the model's state S: as S0 but for the row 'at', which holds it -/
def MA (N : NN) (B : BB) (S0 S : M2) : Prop := (∀ k, k ≠ 1 → S k = S0 k) ∧ S0 3 0 = nI (N 0 0) ∧ S0 4 0 = nI (N 7 0) ∧ MS N B (S 1)
/-- each bolt lies at one place -/
def WB (n : Nat) (B : BB) : Prop := ∀ x, (B 0).count x + (B 1).count x + (B 2).count x = if x < n then 1 else 0
def WF (N : NN) (B : BB) : Prop :=
  (N 0 0 ≤ 5 ∧ N 7 0 ≤ 4 ∧ N 4 0 < 2 ^ N 0 0 ∧ N 12 0 ≤ 3 ∧ 1 ≤ N 13 0 ∧ N 13 0 ≤ 9 ∧ N 15 0 ≤ 6) ∧
  (∀ b, b < N 0 0 → N 1 b ≤ 5 ∧ N 2 b ≤ 9 ∧ N 3 b ≤ N 2 b) ∧
  (∀ m, m < N 7 0 → N 8 m ≤ 3 ∧ N 9 m ≤ 5 ∧ N 10 m ≤ 9 ∧ N 11 m ≤ 2) ∧
  (∀ i, i < N 15 0 → N 16 i < N 0 0 ∧ N 17 i ≤ 9) ∧
  WB (N 0 0) B
theorem wb_cases {k : Nat} (h : k < 3) : k = 0 ∨ k = 1 ∨ k = 2 := by omega
theorem WB.lt {n : Nat} {B : BB} (h : WB n B) {k b : Nat} (hk : k < 3) (hb : b ∈ B k) : b < n := by
  have h1 := h b
  have h2 := List.count_pos_iff.mpr hb
  rcases wb_cases hk with rfl | rfl | rfl <;> (split at h1 <;> omega)
theorem WB.ex {n : Nat} {B : BB} (h : WB n B) {b : Nat} (hb : b < n) : ∃ k i : Nat, k < 3 ∧ (B k)[i]? = some b := by
  have h1 := h b
  rw [if_pos hb] at h1
  have e : b ∈ B 0 ∨ b ∈ B 1 ∨ b ∈ B 2 := by
    simp only [← List.count_pos_iff]
    omega
  rcases e with e | e | e
  · obtain ⟨i, hi⟩ := List.mem_iff_getElem?.mp e
    exact ⟨0, i, by omega, hi⟩
  · obtain ⟨i, hi⟩ := List.mem_iff_getElem?.mp e
    exact ⟨1, i, by omega, hi⟩
  · obtain ⟨i, hi⟩ := List.mem_iff_getElem?.mp e
    exact ⟨2, i, by omega, hi⟩
theorem WB.perm {n : Nat} {B : BB} (h : WB n B) : (B 0 ++ B 1 ++ B 2).Perm (List.range n) := by
  rw [List.perm_iff_count]
  intro a
  rw [List.count_append, List.count_append, h a, List.count_range]
theorem WB.len {n : Nat} {B : BB} (h : WB n B) : (B 0).length + (B 1).length + (B 2).length = n := by
  have := h.perm.length_eq
  simp only [List.length_append, List.length_range] at this
  exact this
theorem WB.le {n : Nat} {B : BB} (h : WB n B) {k : Nat} (hk : k < 3) : (B k).length ≤ n := by
  have := h.len
  rcases wb_cases hk with rfl | rfl | rfl <;> omega
theorem WB.nodup {n : Nat} {B : BB} (h : WB n B) {k : Nat} (hk : k < 3) : (B k).Nodup := by
  rw [List.nodup_iff_count]
  intro a
  have h1 := h a
  rcases wb_cases hk with rfl | rfl | rfl <;> (split at h1 <;> omega)
theorem WB.uq {n : Nat} {B : BB} (h : WB n B) {k k' b : Nat} (hk : k < 3) (hk' : k' < 3) (hb : b ∈ B k) (hb' : b ∈ B k') : k = k' := by
  have h1 := h b
  have h2 := List.count_pos_iff.mpr hb
  have h3 := List.count_pos_iff.mpr hb'
  rcases wb_cases hk with rfl | rfl | rfl <;> rcases wb_cases hk' with rfl | rfl | rfl <;> first | rfl | (split at h1 <;> omega)
theorem WB.at {n : Nat} {B : BB} (h : WB n B) {k k' i i' b : Nat} (hk : k < 3) (hk' : k' < 3) (hb : (B k)[i]? = some b) (hb' : (B k')[i']? = some b) : k = k' ∧ i = i' := by
  have e := h.uq hk hk' (List.mem_of_getElem? hb) (List.mem_of_getElem? hb')
  subst e
  exact ⟨rfl, (List.getElem?_inj (List.getElem?_eq_some_iff.mp hb).1 (h.nodup hk)).mp (hb.trans hb'.symm)⟩
theorem l_lt {α : Type} {l : List α} {i : Nat} {b : α} (h : l[i]? = some b) : i < l.length := (List.getElem?_eq_some_iff.mp h).1
/-! what is computed of it -/
def spApp (N : NN) (m : Nat) : Nat := if N 8 m = 1 then N 10 m + N 12 0 - 1 else if N 8 m = 2 then 2 * (N 10 m + N 12 0) else if N 8 m = 3 then (N 10 m + N 12 0) / 2 else N 10 m + N 12 0
def spLik (N : NN) (m b : Nat) : Bool := if N 8 m = 1 then decide (N 1 b = N 9 m) else if N 8 m = 2 then true else decide (N 1 b ≤ N 9 m + 1 ∧ N 9 m ≤ N 1 b + 1)
/-- a moth goes down a bale: holes h -/
def spEat (N : NN) (m : Nat) : List Nat → Nat → (Nat → Nat) → (Nat → Nat)
  | [], _, h => h
  | b :: l, a, h => if (N 4 0).testBit b = true then h else if spLik N m b = true then spEat N m l (a - min a (N 2 b - h b)) (va_up h b (h b + min a (N 2 b - h b))) else spEat N m l a h
/-- the moths among the bits of fl, the first t of them -/
def spLoose (N : NN) (B : BB) (fl : Nat) : Nat → (Nat → Nat)
  | 0 => N 3
  | t + 1 => if fl.testBit t = true then spEat N t (B (N 11 t)) (spApp N t) (spLoose N B fl t) else spLoose N B fl t
/-- sums of holes of a bale's bolts, the lesser of two neighbours once -/
def spDuty (h : Nat → Nat) : Nat → List Nat → Nat
  | _, [] => 0
  | above, b :: l => (h b - min (h b) above) + spDuty h (h b) l
def spAll (N : NN) (B : BB) : Nat := spDuty (N 3) 0 (B 0) * N 13 0 + spDuty (N 3) 0 (B 1) * N 13 0 + spDuty (N 3) 0 (B 2) * N 13 0
def spSum (h : Nat → Nat) : Nat → Nat
  | 0 => 0
  | b + 1 => spSum h b + h b
def spBits (p : Nat → Bool) : Nat → Nat
  | 0 => 0
  | b + 1 => if p b = true then spBits p b ||| 2 ^ b else spBits p b
def spEaten (N : NN) (b : Nat) : Bool := decide (0 < N 2 b ∧ N 3 b = N 2 b)
/-- all is as seen from sight i on, d of them, were the bolts of the set pricked -/
def spSeen (N : NN) (st : Nat) : Nat → Nat → Bool
  | 0, _ => true
  | d + 1, i => decide (N 3 (N 16 i) + (st.testBit (N 16 i) && decide (N 3 (N 16 i) < N 2 (N 16 i))).toNat = N 17 i) && spSeen N st d (i + 1)
def spNight (N : NN) (B : BB) (fl : Nat) : NN := va_up N 3 (spLoose N B fl (N 7 0))
def spPass (N : NN) (B : BB) (fl : Nat) : NN := va_up (va_up (spNight N B fl) 12 (fun _ => (N 12 0 + 1) % 4)) 14 (fun _ => N 14 0 + 1)
def spTake (B : BB) (k i : Nat) : BB := va_up B k ((B k).eraseIdx i)
def spTop (B : BB) (k b : Nat) : BB := va_up B k (b :: B k)
def spBot (B : BB) (k b : Nat) : BB := va_up B k (B k ++ [b])
