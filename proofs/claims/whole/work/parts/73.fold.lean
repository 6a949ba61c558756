/-! best: the foldings, as codes of the bolts (10 * bale + layer) -/
theorem pig : ∀ {Q P : List Nat}, Q.Nodup → (∀ x, x ∈ Q → x ∈ P) → P.length ≤ Q.length → ∀ x, x ∈ P → x ∈ Q
  | [], P, _, _, hl, x, hx => by
    have : P = [] := List.length_eq_zero_iff.mp (by rw [List.length_nil] at hl; omega)
    rw [this] at hx
    exact hx
  | a :: Q, P, hq, hs, hl, x, hx => by
    have ha : a ∈ P := hs a List.mem_cons_self
    have hq' := List.nodup_cons.mp hq
    have hle : (P.erase a).length ≤ Q.length := by
      rw [List.length_erase_of_mem ha]
      rw [List.length_cons] at hl
      omega
    by_cases e : x = a
    · rw [e]
      exact List.mem_cons_self
    · refine List.mem_cons_of_mem _ (pig hq'.2 (fun y hy => ?_) hle x ((List.mem_erase_of_ne e).mpr hx))
      have hya : y ≠ a := fun q => hq'.1 (q ▸ hy)
      exact (List.mem_erase_of_ne hya).mpr (hs y (List.mem_cons_of_mem _ hy))
def spot (d : Nat) : Nat := d / 10 * 5 + d % 10
/-- the codes c tell the bales B of n bolts -/
def FD (n : Nat) (c : List Nat) (B : BB) : Prop := c.length = n ∧ WB n B ∧ n ≤ 5 ∧ ∀ k i b, k < 3 → i < 10 → ((B k)[i]? = some b ↔ b < n ∧ c.getD b 0 = 10 * k + i)
theorem FD.lt {n : Nat} {c : List Nat} {B : BB} (h : FD n c B) {k i b : Nat} (hk : k < 3) (hb : (B k)[i]? = some b) : i < 5 := by
  have h1 := l_lt hb
  have h2 := h.2.1.le hk
  have h3 := h.2.2.1
  omega
theorem FD.uq {n : Nat} {c : List Nat} {B B' : BB} (h : FD n c B) (h' : FD n c B') : ∀ k, k < 3 → B' k = B k := by
  intro k hk
  apply List.ext_getElem?
  intro i
  apply Option.ext
  intro b
  constructor
  · intro hb
    have hi := h'.lt hk hb
    exact (h.2.2.2 k i b hk (by omega)).mpr ((h'.2.2.2 k i b hk (by omega)).mp hb)
  · intro hb
    have hi := h.lt hk hb
    exact (h'.2.2.2 k i b hk (by omega)).mpr ((h.2.2.2 k i b hk (by omega)).mp hb)
theorem FD.at {n : Nat} {c : List Nat} {B : BB} (h : FD n c B) {b : Nat} (hb : b < n) : ∃ k i, k < 3 ∧ i < 5 ∧ (B k)[i]? = some b ∧ c.getD b 0 = 10 * k + i := by
  obtain ⟨k, i, hk, hi⟩ := h.2.1.ex hb
  have h5 := h.lt hk hi
  exact ⟨k, i, hk, h5, hi, ((h.2.2.2 k i b hk (by omega)).mp hi).2⟩
theorem getD_ext {c c' : List Nat} (hl : c.length = c'.length) (h : ∀ b, b < c.length → c.getD b 0 = c'.getD b 0) : c = c' := by
  apply List.ext_getElem hl
  intro i h1 h2
  have := h i h1
  rw [List.getD_eq_getElem?_getD, List.getD_eq_getElem?_getD, List.getElem?_eq_getElem h1, List.getElem?_eq_getElem h2] at this
  exact this
theorem FD.codes {n : Nat} {c c' : List Nat} {B B' : BB} (h : FD n c B) (h' : FD n c' B') (e : ∀ k, k < 3 → B' k = B k) : c = c' := by
  refine getD_ext (by rw [h.1, h'.1]) fun b hb => ?_
  rw [h.1] at hb
  obtain ⟨k, i, hk, hi, hx, hc⟩ := h.at hb
  rw [hc]
  rw [← e k hk] at hx
  exact ((h'.2.2.2 k i b hk (by omega)).mp hx).2.symm
/-- codes of a folding -/
theorem FD.mk {n : Nat} {B : BB} (h : WB n B) (hn : n ≤ 5) : ∃ c, FD n c B := by
  obtain ⟨K, Y, h1, h2⟩ := h.loc
  refine ⟨(List.range n).map (fun b => 10 * K b + Y b), by rw [List.length_map, List.length_range], h, hn, fun k i b hk hi => ?_⟩
  have hg : ∀ b, b < n → ((List.range n).map (fun b => 10 * K b + Y b)).getD b 0 = 10 * K b + Y b := fun b hb => by
    rw [List.getD_eq_getElem?_getD, List.getElem?_map, List.getElem?_range hb]
    rfl
  constructor
  · intro hb
    have hbn := h.lt hk (List.mem_of_getElem? hb)
    obtain ⟨a1, a2⟩ := h2 k i b hk hb
    exact ⟨hbn, by rw [hg b hbn, a1, a2]⟩
  · rintro ⟨hbn, hc⟩
    rw [hg b hbn] at hc
    obtain ⟨a1, a2⟩ := h1 b hbn
    have hy := l_lt a2
    have hle := h.le a1
    have e1 : K b = k := by omega
    have e2 : Y b = i := by omega
    rw [e1, e2] at a2
    exact a2
/-- the bales that codes tell -/
noncomputable def trc (n : Nat) (c : List Nat) : BB := @dite _ (∃ B, FD n c B) (Classical.propDecidable _) (fun h => h.choose) (fun _ _ => [])
theorem trc_fd {n : Nat} {c : List Nat} {B : BB} (h : FD n c B) : FD n c (trc n c) := by
  have hx : ∃ B, FD n c B := ⟨B, h⟩
  unfold trc
  rw [dif_pos hx]
  exact hx.choose_spec
/-- from the codes of distinct spots, none above its bale's height, heights together n at most -/
theorem FD.of {n : Nat} {c : List Nat} {h : Nat → Nat} (hn : n ≤ 5) (hl : c.length = n) (hnd : c.Nodup) (hv : ∀ b, b < n → c.getD b 0 / 10 < 3 ∧ c.getD b 0 % 10 < h (c.getD b 0 / 10)) (hs : h 0 + h 1 + h 2 ≤ n) : ∃ B, FD n c B ∧ ∀ k, k < 3 → (B k).length = h k := by
  have hmem : ∀ x, x ∈ c → ∃ b, b < n ∧ c.getD b 0 = x ∧ c[b]? = some x := by
    intro x hx
    obtain ⟨b, hb⟩ := List.mem_iff_getElem?.mp hx
    have := l_lt hb
    exact ⟨b, by omega, by rw [List.getD_eq_getElem?_getD, hb]; rfl, hb⟩
  have hget : ∀ b, b < n → c[b]? = some (c.getD b 0) := fun b hb => by
    rw [List.getD_eq_getElem?_getD, List.getElem?_eq_getElem (by omega)]
    rfl
  have hP : ∀ x, x ∈ (List.range (h 0) ++ (List.range (h 1)).map (fun l => 10 + l)) ++ (List.range (h 2)).map (fun l => 20 + l) → x ∈ c := by
    refine pig hnd (fun x hx => ?_) ?_
    · obtain ⟨b, hb, rfl, -⟩ := hmem x hx
      obtain ⟨v1, v2⟩ := hv b hb
      rw [List.mem_append, List.mem_append, List.mem_map, List.mem_map]
      rcases wb_cases v1 with e | e | e
      · rw [e] at v2
        exact Or.inl (Or.inl (List.mem_range.mpr (by omega)))
      · rw [e] at v2
        exact Or.inl (Or.inr ⟨_, List.mem_range.mpr v2, by omega⟩)
      · rw [e] at v2
        exact Or.inr ⟨_, List.mem_range.mpr v2, by omega⟩
    · rw [List.length_append, List.length_append, List.length_map, List.length_map, List.length_range, List.length_range, List.length_range, hl]
      exact hs
  have hfill : ∀ k l, k < 3 → l < h k → 10 * k + l ∈ c := by
    intro k l hk hlh
    refine hP _ ?_
    rw [List.mem_append, List.mem_append, List.mem_map, List.mem_map]
    rcases wb_cases hk with rfl | rfl | rfl
    · exact Or.inl (Or.inl (List.mem_range.mpr (by omega)))
    · exact Or.inl (Or.inr ⟨l, List.mem_range.mpr hlh, by omega⟩)
    · exact Or.inr ⟨l, List.mem_range.mpr hlh, by omega⟩
  have hle : ∀ k, k < 3 → h k ≤ 5 := fun k hk => by rcases wb_cases hk with rfl | rfl | rfl <;> omega
  have hkey : ∀ k i b, k < 3 → i < 10 → (((List.range (h k)).map (fun l => c.idxOf (10 * k + l)))[i]? = some b ↔ b < n ∧ c.getD b 0 = 10 * k + i) := by
    intro k i b hk hi
    rw [List.getElem?_map]
    constructor
    · intro hb
      by_cases e : i < h k
      · rw [List.getElem?_range e, Option.map_some, Option.some.injEq] at hb
        have hm := hfill k i hk e
        have hlt := List.idxOf_lt_length_of_mem hm
        have hgi := List.getElem_idxOf hlt
        subst hb
        refine ⟨by omega, ?_⟩
        rw [List.getD_eq_getElem?_getD, List.getElem?_eq_getElem hlt, hgi]
        rfl
      · rw [List.getElem?_eq_none (by rw [List.length_range]; omega), Option.map_none] at hb
        exact absurd hb (fun h => nomatch h)
    · rintro ⟨hb, hc⟩
      obtain ⟨v1, v2⟩ := hv b hb
      have e1 : c.getD b 0 / 10 = k := by omega
      have e2 : c.getD b 0 % 10 = i := by omega
      rw [e1, e2] at v2
      have hg := hget b hb
      rw [hc] at hg
      have hix : c.idxOf (10 * k + i) = b := by
        have hm := List.mem_of_getElem? hg
        have hlt := List.idxOf_lt_length_of_mem hm
        have hgi : c[c.idxOf (10 * k + i)]? = some (10 * k + i) := by
          rw [List.getElem?_eq_getElem hlt, List.getElem_idxOf hlt]
        exact nd_ix hnd hgi hg
      rw [List.getElem?_range v2, Option.map_some, hix]
  have hnb : ∀ k, k < 3 → ((List.range (h k)).map (fun l => c.idxOf (10 * k + l))).Nodup := by
    intro k hk
    refine List.pairwise_iff_getElem.mpr fun i j hi hj hij => ?_
    rw [List.length_map, List.length_range] at hi hj
    have h5 := hle k hk
    intro e
    have a1 := (hkey k i _ hk (by omega)).mp (List.getElem?_eq_getElem (by rw [List.length_map, List.length_range]; exact hi))
    have a2 := (hkey k j _ hk (by omega)).mp (List.getElem?_eq_getElem (by rw [List.length_map, List.length_range]; exact hj))
    rw [e] at a1
    omega
  have hcnt : ∀ k, k < 3 → ∀ x, ((List.range (h k)).map (fun l => c.idxOf (10 * k + l))).count x = if x < n ∧ c.getD x 0 / 10 = k then 1 else 0 := by
    intro k hk x
    rw [(hnb k hk).count]
    have : (x ∈ (List.range (h k)).map (fun l => c.idxOf (10 * k + l))) = (x < n ∧ c.getD x 0 / 10 = k) := by
      refine propext ⟨fun hx => ?_, fun ⟨hx, e⟩ => ?_⟩
      · obtain ⟨i, hi⟩ := List.mem_iff_getElem?.mp hx
        have hil := l_lt hi
        rw [List.length_map, List.length_range] at hil
        have h5 := hle k hk
        have := (hkey k i x hk (by omega)).mp hi
        omega
      · refine List.mem_of_getElem? ((hkey k (c.getD x 0 % 10) x hk (by omega)).mpr ⟨hx, by omega⟩)
    simp only [this]
  refine ⟨fun k => (List.range (h k)).map (fun l => c.idxOf (10 * k + l)), ⟨hl, fun x => ?_, hn, fun k i b hk hi => hkey k i b hk hi⟩, fun k _ => by rw [List.length_map, List.length_range]⟩
  rw [hcnt 0 (by omega), hcnt 1 (by omega), hcnt 2 (by omega)]
  by_cases e : x < n
  · rw [if_pos e]
    have v1 := (hv x e).1
    rcases wb_cases v1 with q | q | q
    · rw [if_pos ⟨e, q⟩, if_neg (by omega), if_neg (by omega)]
    · rw [if_neg (by omega), if_pos ⟨e, q⟩, if_neg (by omega)]
    · rw [if_neg (by omega), if_neg (by omega), if_pos ⟨e, q⟩]
  · rw [if_neg e, if_neg (by omega), if_neg (by omega), if_neg (by omega)]
/-- the number that orders foldings -/
def num (c : List Nat) : Nat := c.foldl (fun v d => 30 * v + d) 0
theorem num_snoc (c : List Nat) (d : Nat) : num (c ++ [d]) = 30 * num c + d := by
  unfold num
  rw [List.foldl_append]
  rfl
theorem num_app (c : List Nat) : ∀ r : List Nat, num (c ++ r) = num c * 30 ^ r.length + num r := by
  have key : ∀ (r : List Nat) (v : Nat), r.foldl (fun v d => 30 * v + d) v = v * 30 ^ r.length + r.foldl (fun v d => 30 * v + d) 0 := by
    intro r
    induction r with
    | nil => intro v; rw [List.length_nil, Nat.pow_zero, Nat.mul_one]; rfl
    | cons d r ih =>
      intro v
      rw [List.foldl_cons, List.foldl_cons, ih, ih (30 * 0 + d), List.length_cons, Nat.pow_succ, Nat.mul_zero, Nat.zero_add, Nat.add_mul, Nat.mul_comm 30 v, Nat.mul_assoc, Nat.mul_comm 30, Nat.add_assoc]
  intro r
  unfold num
  rw [List.foldl_append]
  exact key r _
theorem num_lt : ∀ (r : List Nat), (∀ d, d ∈ r → d < 30) → num r < 30 ^ r.length := by
  intro r
  induction r with
  | nil => intro _; decide
  | cons d r ih =>
    intro h
    have h1 := ih fun x hx => h x (List.mem_cons_of_mem _ hx)
    have h2 := h d List.mem_cons_self
    have h3 := num_app [d] r
    have h4 : num [d] = d := by
      show 30 * 0 + d = d
      omega
    rw [h4] at h3
    have h5 : [d] ++ r = d :: r := rfl
    rw [h5] at h3
    rw [h3, List.length_cons, Nat.pow_succ]
    have h6 : d * 30 ^ r.length ≤ 29 * 30 ^ r.length := Nat.mul_le_mul_right _ (by omega)
    omega
theorem num_cmp {c r r' : List Nat} {d d' : Nat} (hl : r.length = r'.length) (hr : ∀ x, x ∈ r → x < 30) (hd : d < d') : num (c ++ [d] ++ r) < num (c ++ [d'] ++ r') := by
  rw [num_app, num_app (c ++ [d']), num_snoc, num_snoc, ← hl]
  have h1 := num_lt r hr
  have h2 : (30 * num c + d + 1) * 30 ^ r.length ≤ (30 * num c + d') * 30 ^ r.length := Nat.mul_le_mul_right _ (by omega)
  rw [Nat.add_mul, Nat.one_mul] at h2
  omega
theorem num_dig {c : List Nat} (h : ∀ d, d ∈ c → d < 30) {b : Nat} (hb : b < c.length) : num c / 30 ^ (c.length - 1 - b) % 30 = c.getD b 0 := by
  have e : c = (c.take b ++ [c.getD b 0]) ++ c.drop (b + 1) := by
    rw [← l_snoc, List.getD_eq_getElem?_getD, List.getElem?_eq_getElem hb, Option.getD_some, List.getElem_cons_drop, List.take_append_drop]
  have hl : (c.drop (b + 1)).length = c.length - 1 - b := by rw [List.length_drop]; omega
  have h1 := num_lt (c.drop (b + 1)) fun d hd => h d (List.mem_of_mem_drop hd)
  have h2 : c.getD b 0 < 30 := by
    rw [List.getD_eq_getElem?_getD, List.getElem?_eq_getElem hb]
    exact h _ (List.getElem_mem hb)
  have h3 := num_app (c.take b ++ [c.getD b 0]) (c.drop (b + 1))
  rw [← e, num_snoc, hl] at h3
  rw [hl] at h1
  rw [h3, Nat.mul_comm, Nat.mul_add_div (Nat.pow_pos (by decide)), Nat.div_eq_of_lt h1, Nat.add_zero, Nat.mul_add_mod, Nat.mod_eq_of_lt h2]
