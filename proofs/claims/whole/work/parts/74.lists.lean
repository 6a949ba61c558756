/-! the foldings in the class's order, and the least of them -/
def lc (n : Nat) : Nat → Nat → Nat → (Nat → Nat) → Nat → List Nat → List (List Nat)
  | 0, _, _, _, _, _ => []
  | f + 1, i, s, h, ta, c => if i < n then ups (fun k => ups (fun l => if ta.testBit (k * 5 + l) = true then [] else if n < s + (l + 1 - h k) then [] else lc n f (i + 1) (s + (l + 1 - h k)) (va_up h k (h k + (l + 1 - h k))) (ta ||| 2 ^ (k * 5 + l)) (c ++ [10 * k + l])) n 0) 3 0 else [c]
def PI (n i s : Nat) (h : Nat → Nat) (ta : Nat) (c : List Nat) : Prop := c.length = i ∧ c.Nodup ∧ (∀ b, b < i → c.getD b 0 / 10 < 3 ∧ c.getD b 0 % 10 < h (c.getD b 0 / 10) ∧ ta.testBit (spot (c.getD b 0)) = true) ∧ s = h 0 + h 1 + h 2 ∧ s ≤ n ∧ n ≤ 5
theorem gd_l {c : List Nat} {d b : Nat} (h : b < c.length) : (c ++ [d]).getD b 0 = c.getD b 0 := by
  rw [List.getD_eq_getElem?_getD, List.getD_eq_getElem?_getD, List.getElem?_append_left h]
theorem gd_r {c : List Nat} {d b : Nat} (h : b = c.length) : (c ++ [d]).getD b 0 = d := by
  rw [List.getD_eq_getElem?_getD, List.getElem?_append_right (by omega), h, Nat.sub_self]
  rfl
theorem spot_k {k l : Nat} (h : l < 10) : spot (10 * k + l) = k * 5 + l := by
  unfold spot
  omega
theorem PI.step {n i s ta k l : Nat} {h : Nat → Nat} {c : List Nat} (hp : PI n i s h ta c) (hk : k < 3) (hl : l < n) (ht : ta.testBit (k * 5 + l) = false) (hs : ¬ n < s + (l + 1 - h k)) : PI n (i + 1) (s + (l + 1 - h k)) (va_up h k (h k + (l + 1 - h k))) (ta ||| 2 ^ (k * 5 + l)) (c ++ [10 * k + l]) := by
  obtain ⟨p1, p2, p3, p4, p5, p6⟩ := hp
  have hsp : spot (10 * k + l) = k * 5 + l := spot_k (by omega)
  refine ⟨by rw [List.length_append, List.length_singleton, p1], ?_, fun b hb => ?_, ?_, by omega, p6⟩
  · rw [List.nodup_append]
    refine ⟨p2, List.nodup_cons.mpr ⟨List.not_mem_nil, List.nodup_nil⟩, fun a ha b hb => ?_⟩
    rw [List.mem_singleton] at hb
    intro e
    obtain ⟨j, hj⟩ := List.mem_iff_getElem?.mp ha
    have hjl := l_lt hj
    have := (p3 j (by omega)).2.2
    rw [List.getD_eq_getElem?_getD, hj, Option.getD_some, e, hb, hsp, ht] at this
    exact absurd this (by decide)
  · by_cases e : b < i
    · rw [gd_l (by omega)]
      obtain ⟨q1, q2, q3⟩ := p3 b e
      refine ⟨q1, ?_, ?_⟩
      · rw [q_up]
        split
        · rename_i e2
          rw [e2] at q2
          omega
        · exact q2
      · rw [Nat.testBit_or, q3]
        rfl
    · rw [gd_r (by omega)]
      have e1 : (10 * k + l) / 10 = k := by omega
      have e2 : (10 * k + l) % 10 = l := by omega
      refine ⟨by omega, ?_, ?_⟩
      · rw [e1, e2, q_up, if_pos rfl]
        omega
      · rw [hsp, Nat.testBit_or, Nat.testBit_two_pow]
        simp
  · rcases wb_cases hk with rfl | rfl | rfl
    · show _ = (h 0 + (l + 1 - h 0)) + h 1 + h 2
      omega
    · show _ = h 0 + (h 1 + (l + 1 - h 1)) + h 2
      omega
    · show _ = h 0 + h 1 + (h 2 + (l + 1 - h 2))
      omega
theorem PI.end {n s ta : Nat} {h : Nat → Nat} {c : List Nat} (hp : PI n n s h ta c) : ∃ B, FD n c B ∧ ∀ k, k < 3 → (B k).length = h k := FD.of hp.2.2.2.2.2 hp.1 hp.2.1 (fun b hb => ⟨(hp.2.2.1 b hb).1, (hp.2.2.1 b hb).2.1⟩) (by have := hp.2.2.2.1; have := hp.2.2.2.2.1; omega)
theorem lc_in {n : Nat} {x : List Nat} : ∀ {f i s ta : Nat} {h : Nat → Nat} {c : List Nat}, PI n i s h ta c → i ≤ n → x ∈ lc n f i s h ta c → (∃ B, FD n x B) ∧ ∃ r, x = c ++ r
  | 0, i, s, ta, h, c, hp, hi, hx => absurd hx List.not_mem_nil
  | f + 1, i, s, ta, h, c, hp, hi, hx => by
    rw [lc] at hx
    by_cases e : i < n
    · rw [if_pos e, ups_mem] at hx
      obtain ⟨k, -, hk, hx⟩ := hx
      rw [ups_mem] at hx
      obtain ⟨l, -, hl, hx⟩ := hx
      by_cases e1 : ta.testBit (k * 5 + l) = true
      · rw [if_pos e1] at hx
        exact absurd hx List.not_mem_nil
      · rw [if_neg e1] at hx
        by_cases e2 : n < s + (l + 1 - h k)
        · rw [if_pos e2] at hx
          exact absurd hx List.not_mem_nil
        · rw [if_neg e2] at hx
          obtain ⟨h1, r, h2⟩ := lc_in (hp.step (by omega) (by omega) (by simpa using e1) e2) e hx
          exact ⟨h1, (10 * k + l) :: r, by rw [h2, ← l_snoc]⟩
    · rw [if_neg e, List.mem_singleton] at hx
      have : i = n := by omega
      subst this
      obtain ⟨B, h1, -⟩ := hp.end
      subst hx
      exact ⟨⟨B, h1⟩, [], by rw [List.append_nil]⟩
theorem FD.d30 {n : Nat} {c : List Nat} {B : BB} (h : FD n c B) : ∀ d, d ∈ c → d < 30 := by
  intro d hd
  obtain ⟨b, hb⟩ := List.mem_iff_getElem?.mp hd
  have hbl := l_lt hb
  obtain ⟨k, i, hk, hi, -, hc⟩ := h.at (b := b) (by rw [← h.1]; exact hbl)
  rw [List.getD_eq_getElem?_getD, hb, Option.getD_some] at hc
  omega
theorem ups_pw {α : Type} {P : α → α → Prop} {g : Nat → List α} : ∀ {d v : Nat}, (∀ w, v ≤ w → w < v + d → (g w).Pairwise P) → (∀ w u x y, v ≤ w → w < u → u < v + d → x ∈ g w → y ∈ g u → P x y) → (ups g d v).Pairwise P
  | 0, v, _, _ => List.Pairwise.nil
  | d + 1, v, h1, h2 => by
    rw [ups, List.pairwise_append]
    refine ⟨h1 v (by omega) (by omega), ups_pw (fun w a b => h1 w (by omega) (by omega)) (fun w u x y a b c => h2 w u x y (by omega) b (by omega)), fun x hx y hy => ?_⟩
    obtain ⟨u, a, b, hy⟩ := ups_mem.mp hy
    exact h2 v u x y (by omega) (by omega) (by omega) hx hy
theorem lc_srt {n : Nat} : ∀ {f i s ta : Nat} {h : Nat → Nat} {c : List Nat}, PI n i s h ta c → i ≤ n → (lc n f i s h ta c).Pairwise (fun a b => num a < num b)
  | 0, i, s, ta, h, c, hp, hi => List.Pairwise.nil
  | f + 1, i, s, ta, h, c, hp, hi => by
    rw [lc]
    by_cases e : i < n
    · rw [if_pos e]
      have key : ∀ k l x, k < 3 → l < n → x ∈ (if ta.testBit (k * 5 + l) = true then [] else if n < s + (l + 1 - h k) then [] else lc n f (i + 1) (s + (l + 1 - h k)) (va_up h k (h k + (l + 1 - h k))) (ta ||| 2 ^ (k * 5 + l)) (c ++ [10 * k + l])) → ∃ r, x = c ++ [10 * k + l] ++ r ∧ x.length = n ∧ ∀ d, d ∈ x → d < 30 := by
        intro k l x hk hl hx
        by_cases e1 : ta.testBit (k * 5 + l) = true
        · rw [if_pos e1] at hx
          exact absurd hx List.not_mem_nil
        · rw [if_neg e1] at hx
          by_cases e2 : n < s + (l + 1 - h k)
          · rw [if_pos e2] at hx
            exact absurd hx List.not_mem_nil
          · rw [if_neg e2] at hx
            obtain ⟨⟨B, h1⟩, r, h2⟩ := lc_in (hp.step hk hl (by simpa using e1) e2) e hx
            exact ⟨r, h2, h1.1, h1.d30⟩
      have cmp : ∀ d d' x y, d < d' → (∃ r, x = c ++ [d] ++ r ∧ x.length = n ∧ ∀ d, d ∈ x → d < 30) → (∃ r, y = c ++ [d'] ++ r ∧ y.length = n ∧ ∀ d, d ∈ y → d < 30) → num x < num y := by
        rintro d d' x y hd ⟨r, hr, hl, h30⟩ ⟨r', hr', hl', -⟩
        subst hr hr'
        refine num_cmp ?_ (fun z hz => h30 z (List.mem_append_right _ hz)) hd
        rw [List.length_append, List.length_append, List.length_singleton] at hl hl'
        omega
      have hn5 := hp.2.2.2.2.2
      refine ups_pw (fun k _ hk => ups_pw (fun l _ hl => ?_) (fun l l' x y _ h1 h2 hx hy => ?_)) (fun k k' x y _ h1 h2 hx hy => ?_)
      · show List.Pairwise _ (if ta.testBit (k * 5 + l) = true then [] else if n < s + (l + 1 - h k) then [] else lc n f (i + 1) (s + (l + 1 - h k)) (va_up h k (h k + (l + 1 - h k))) (ta ||| 2 ^ (k * 5 + l)) (c ++ [10 * k + l]))
        by_cases e1 : ta.testBit (k * 5 + l) = true
        · rw [if_pos e1]
          exact List.Pairwise.nil
        · rw [if_neg e1]
          by_cases e2 : n < s + (l + 1 - h k)
          · rw [if_pos e2]
            exact List.Pairwise.nil
          · rw [if_neg e2]
            exact lc_srt (hp.step (by omega) (by omega) (by simpa using e1) e2) e
      · exact cmp _ _ x y (by omega) (key k l x (by omega) (by omega) hx) (key k l' y (by omega) (by omega) hy)
      · obtain ⟨l, -, hl, hx⟩ := ups_mem.mp hx
        obtain ⟨l', -, hl', hy⟩ := ups_mem.mp hy
        exact cmp _ _ x y (by omega) (key k l x (by omega) (by omega) hx) (key k' l' y (by omega) (by omega) hy)
    · rw [if_neg e]
      exact List.pairwise_singleton _ _
/-- every folding is on the class's way -/
theorem lc_mem {n : Nat} {x : List Nat} {B : BB} (hF : FD n x B) : ∀ {f i s ta : Nat} {h : Nat → Nat} {c r : List Nat}, c ++ r = x → c.length = i → i ≤ n → n < i + f → (∀ k, k < 3 → h k ≤ (B k).length) → s = h 0 + h 1 + h 2 → (∀ b, i ≤ b → b < n → ta.testBit (spot (x.getD b 0)) = false) → x ∈ lc n f i s h ta c
  | 0, i, s, ta, h, c, r, _, _, _, hf, _, _, _ => absurd hf (by omega)
  | f + 1, i, s, ta, h, c, r, hx, hc, hi, hf, hh, hs, ht => by
    have hlen := hF.2.1.len
    rw [lc]
    by_cases e : i < n
    · obtain ⟨k, l, hk, hl, hb, hcd⟩ := hF.at e
      have hll := l_lt hb
      have hkn := hF.2.1.le hk
      have hd : r = (10 * k + l) :: r.tail := by
        have h1 : x[i]? = some (10 * k + l) := by
          rw [← hcd, List.getD_eq_getElem?_getD, List.getElem?_eq_getElem (by rw [hF.1]; exact e)]
          rfl
        rw [← hx, List.getElem?_append_right (by omega), hc, Nat.sub_self] at h1
        cases r with
        | nil => exact absurd h1 (by rw [List.getElem?_nil]; exact fun h => nomatch h)
        | cons a r =>
          rw [List.getElem?_cons_zero, Option.some.injEq] at h1
          rw [h1]
          rfl
      have h0 := hh 0 (by omega)
      have h1 := hh 1 (by omega)
      have h2 := hh 2 (by omega)
      have htk := ht i (Nat.le_refl _) e
      rw [hcd, spot_k (by omega)] at htk
      rw [if_pos e, ups_mem]
      refine ⟨k, by omega, by omega, ?_⟩
      rw [ups_mem]
      refine ⟨l, by omega, by omega, ?_⟩
      rw [if_neg (by rw [htk]; decide)]
      have hsl : ¬ n < s + (l + 1 - h k) := by
        rcases wb_cases hk with rfl | rfl | rfl <;> omega
      rw [if_neg hsl]
      refine lc_mem hF (r := r.tail) ?_ ?_ (by omega) (by omega) (fun k' hk' => ?_) ?_ (fun b hb1 hb2 => ?_)
      · rw [← l_snoc, ← hd, hx]
      · rw [List.length_append, List.length_singleton, hc]
      · rw [q_up]
        split
        · rename_i e2
          rw [e2]
          have := hh k hk
          omega
        · exact hh k' hk'
      · rcases wb_cases hk with rfl | rfl | rfl
        · show _ = (h 0 + (l + 1 - h 0)) + h 1 + h 2
          omega
        · show _ = h 0 + (h 1 + (l + 1 - h 1)) + h 2
          omega
        · show _ = h 0 + h 1 + (h 2 + (l + 1 - h 2))
          omega
      · rw [Nat.testBit_or, ht b (by omega) hb2, Bool.false_or, Nat.testBit_two_pow, decide_eq_false_iff_not]
        obtain ⟨k', l', hk', hl', hb', hcd'⟩ := hF.at hb2
        rw [hcd', spot_k (by omega)]
        intro q
        have q1 : k = k' := by omega
        have q2 : l = l' := by omega
        subst q1 q2
        rw [hb] at hb'
        have := Option.some.inj hb'
        omega
    · rw [if_neg e, List.mem_singleton]
      have h1 : r.length = 0 := by
        have := congrArg List.length hx
        rw [List.length_append, hF.1] at this
        omega
      have h2 := List.length_eq_zero_iff.mp h1
      rw [← hx, h2, List.append_nil]
def LC (n : Nat) : List (List Nat) := lc n 7 0 0 (fun _ => 0) 0 []
theorem pi0 {n : Nat} (hn : n ≤ 5) : PI n 0 0 (fun _ => 0) 0 [] := ⟨rfl, List.nodup_nil, fun b hb => absurd hb (Nat.not_lt_zero b), rfl, Nat.zero_le _, hn⟩
theorem LC_mem {n : Nat} (hn : n ≤ 5) {x : List Nat} : x ∈ LC n ↔ ∃ B, FD n x B := by
  constructor
  · intro h
    exact (lc_in (pi0 hn) (Nat.zero_le _) h).1
  · rintro ⟨B, h⟩
    exact lc_mem h (r := x) rfl rfl (Nat.zero_le _) (by omega) (fun _ _ => Nat.zero_le _) rfl (fun b _ _ => Nat.zero_testBit _)
/-! the least -/
def cst (D : List Nat → Nat) (st : Nat × List Nat) (c : List Nat) : Nat × List Nat := if st.1 ≤ D c then st else (D c, c)
def mst (D : List Nat → Nat) (st : Nat × Nat) (c : List Nat) : Nat × Nat := if D c < st.1 ∨ (D c = st.1 ∧ num c < st.2) then (D c, num c) else st
theorem cst_0 (D : List Nat → Nat) {st : Nat × List Nat} (h : st.1 = 0) : ∀ L : List (List Nat), L.foldl (cst D) st = st
  | [] => rfl
  | c :: L => by
    have e : cst D st c = st := if_pos (by omega)
    rw [List.foldl_cons, e]
    exact cst_0 D h L
theorem cst_fold (D : List Nat → Nat) : ∀ (L : List (List Nat)) (st : Nat × List Nat), L.Pairwise (fun a b => num a < num b) → (L.foldl (cst D) st = st ∧ ∀ c, c ∈ L → st.1 ≤ D c) ∨ ((L.foldl (cst D) st).1 < st.1 ∧ (L.foldl (cst D) st).2 ∈ L ∧ (L.foldl (cst D) st).1 = D (L.foldl (cst D) st).2 ∧ ∀ c, c ∈ L → (L.foldl (cst D) st).1 < D c ∨ ((L.foldl (cst D) st).1 = D c ∧ num (L.foldl (cst D) st).2 ≤ num c))
  | [], st, _ => Or.inl ⟨rfl, fun c h => absurd h List.not_mem_nil⟩
  | a :: L, st, hp => by
    obtain ⟨p1, p2⟩ := List.pairwise_cons.mp hp
    rw [List.foldl_cons]
    by_cases e : st.1 ≤ D a
    · have ea : cst D st a = st := if_pos e
      rw [ea]
      rcases cst_fold D L st p2 with ⟨h1, h2⟩ | ⟨h1, h2, h3, h4⟩
      · refine Or.inl ⟨h1, fun c hc => ?_⟩
        rcases List.mem_cons.mp hc with rfl | hc
        · exact e
        · exact h2 c hc
      · refine Or.inr ⟨h1, List.mem_cons_of_mem _ h2, h3, fun c hc => ?_⟩
        rcases List.mem_cons.mp hc with rfl | hc
        · exact Or.inl (by omega)
        · exact h4 c hc
    · have ea : cst D st a = (D a, a) := if_neg e
      rw [ea]
      rcases cst_fold D L (D a, a) p2 with ⟨h1, h2⟩ | ⟨h1, h2, h3, h4⟩
      · rw [h1]
        refine Or.inr ⟨by show D a < st.1; omega, List.mem_cons_self, rfl, fun c hc => ?_⟩
        rcases List.mem_cons.mp hc with rfl | hc
        · exact Or.inr ⟨rfl, Nat.le_refl _⟩
        · have h5 : D a ≤ D c := h2 c hc
          by_cases e2 : D a = D c
          · exact Or.inr ⟨e2, Nat.le_of_lt (p1 c hc)⟩
          · exact Or.inl (by show D a < D c; omega)
      · have h1' : (L.foldl (cst D) (D a, a)).1 < D a := h1
        refine Or.inr ⟨by omega, List.mem_cons_of_mem _ h2, h3, fun c hc => ?_⟩
        rcases List.mem_cons.mp hc with rfl | hc
        · exact Or.inl h1'
        · exact h4 c hc
theorem mst_fold (D : List Nat → Nat) : ∀ (L : List (List Nat)) (st : Nat × Nat), (L.foldl (mst D) st = st ∨ ∃ b, b ∈ L ∧ L.foldl (mst D) st = (D b, num b)) ∧ (∀ c, c ∈ L → (L.foldl (mst D) st).1 < D c ∨ ((L.foldl (mst D) st).1 = D c ∧ (L.foldl (mst D) st).2 ≤ num c)) ∧ ((L.foldl (mst D) st).1 < st.1 ∨ ((L.foldl (mst D) st).1 = st.1 ∧ (L.foldl (mst D) st).2 ≤ st.2))
  | [], st => ⟨Or.inl rfl, fun c h => absurd h List.not_mem_nil, Or.inr ⟨rfl, Nat.le_refl _⟩⟩
  | a :: L, st => by
    rw [List.foldl_cons]
    by_cases e : D a < st.1 ∨ (D a = st.1 ∧ num a < st.2)
    · have ea : mst D st a = (D a, num a) := if_pos e
      rw [ea]
      obtain ⟨h1, h2, h3⟩ := mst_fold D L (D a, num a)
      have h3' : (L.foldl (mst D) (D a, num a)).1 < D a ∨ ((L.foldl (mst D) (D a, num a)).1 = D a ∧ (L.foldl (mst D) (D a, num a)).2 ≤ num a) := h3
      refine ⟨Or.inr ?_, fun c hc => ?_, by omega⟩
      · rcases h1 with h1 | ⟨b, hb, h1⟩
        · exact ⟨a, List.mem_cons_self, h1⟩
        · exact ⟨b, List.mem_cons_of_mem _ hb, h1⟩
      · rcases List.mem_cons.mp hc with rfl | hc
        · exact h3'
        · exact h2 c hc
    · have ea : mst D st a = st := if_neg e
      rw [ea]
      obtain ⟨h1, h2, h3⟩ := mst_fold D L st
      refine ⟨?_, fun c hc => ?_, h3⟩
      · rcases h1 with h1 | ⟨b, hb, h1⟩
        · exact Or.inl h1
        · exact Or.inr ⟨b, List.mem_cons_of_mem _ hb, h1⟩
      · rcases List.mem_cons.mp hc with rfl | hc
        · omega
        · exact h2 c hc
theorem least_eq (D : List Nat → Nat) {L M : List (List Nat)} (hp : L.Pairwise (fun a b => num a < num b)) (hD : ∀ c, c ∈ L → D c ≤ 405) (hm : ∀ c, c ∈ L ↔ c ∈ M) {a : List Nat} (ha : a ∈ L) : ∃ b, b ∈ L ∧ L.foldl (cst D) (406, []) = (D b, b) ∧ M.foldl (mst D) (1000000000, 0) = (D b, num b) := by
  rcases cst_fold D L (406, []) hp with ⟨h1, h2⟩ | ⟨h1, h2, h3, h4⟩
  · have h5 : 406 ≤ D a := h2 a ha
    have := hD a ha
    omega
  · obtain ⟨m1, m2, m3⟩ := mst_fold D M (1000000000, 0)
    generalize hr : L.foldl (cst D) (406, []) = r at h1 h2 h3 h4
    obtain ⟨l, b⟩ := r
    have h3' : l = D b := h3
    subst h3'
    refine ⟨b, h2, rfl, ?_⟩
    have mb := m2 b ((hm b).mp h2)
    rcases m1 with m1 | ⟨b', hb', m1⟩
    · rw [m1] at mb
      have mb' : 1000000000 < D b ∨ (1000000000 = D b ∧ 0 ≤ num b) := mb
      have := hD b h2
      omega
    · rw [m1] at mb ⊢
      have mb' : D b' < D b ∨ (D b' = D b ∧ num b' ≤ num b) := mb
      have h4' : D b < D b' ∨ (D b = D b' ∧ num b ≤ num b') := h4 b' ((hm b').mpr hb')
      have e1 : D b' = D b := by omega
      have e2 : num b' = num b := by omega
      rw [e1, e2]
