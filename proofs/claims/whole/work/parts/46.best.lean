/-- what the least-by loops hold: the least so far, and the bolt -/
theorem spAll_le {N : NN} {B : BB} (hW : WF N B) : spAll N B ≤ 405 := by
  have hd : ∀ (l : List Nat) (a : Nat), (∀ b, b ∈ l → N 3 b ≤ 9) → spDuty (N 3) a l ≤ 9 * l.length := by
    intro l
    induction l with
    | nil => intro a _; exact Nat.le_refl _
    | cons b l ih =>
      intro a h
      have h1 := h b List.mem_cons_self
      have h2 := ih (N 3 b) fun c hc => h c (List.mem_cons_of_mem _ hc)
      rw [spDuty, List.length_cons]
      omega
  have hb : ∀ k, k < 3 → ∀ b, b ∈ B k → N 3 b ≤ 9 := fun k hk b hb => by
    have := hW.2.1 b (hW.2.2.2.2.lt hk hb)
    omega
  have h0 := hd (B 0) 0 (hb 0 (by omega))
  have h1 := hd (B 1) 0 (hb 1 (by omega))
  have h2 := hd (B 2) 0 (hb 2 (by omega))
  have hl := hW.2.2.2.2.len
  have w1 := hW.1
  unfold spAll
  rw [← Nat.add_mul, ← Nat.add_mul]
  have h4 : spDuty (N 3) 0 (B 0) + spDuty (N 3) 0 (B 1) + spDuty (N 3) 0 (B 2) ≤ 45 := by omega
  calc _ ≤ 45 * 9 := Nat.mul_le_mul h4 w1.2.2.2.2.2.1
    _ = 405 := rfl
/-- a bolt that is to change, by the kind of the call: p camphor, else folded on top of its own bale -/
theorem guard_L {X : M3} {S : M2} {N : NN} {B : BB} (hC : CS N B (X 2)) (hW : WF N B) (h3 : S 3 0 = nI (N 0 0)) (h4 : S 4 0 = nI (N 7 0)) (hM : MS N B (S 0)) (w : Int32) : ∀ (d b f g : Nat) (least : Nat) (found : Int32) (Q S1 : M2), b + d = N 0 0 → d < f → d < g → least ≤ 405 → (∀ c, c < b → (N 4 0).testBit c = true → True) → least ≤ spAll (spNight N B 15) B → ME S S1 → ∃ (least' : Nat) (found' : Int32) (Q' S' : M2), (∀ kk : (Int32 × Int32 × M3) → Option (Int32 × M3), fX4_leastBy_L32 (nI 1) w kk f found (nI least) (nI b) (va_up X 3 Q) = kk (found', nI least', va_up X 3 Q')) ∧ (∀ kk : (Int32 × Int32 × M2) → Option (Int32 × M2), fX5_guard_L24 w kk g (nI least) found (nI b) S1 = kk (nI least', found', S')) ∧ ME S S'
  | 0, b, f + 1, g + 1, least, found, Q, S1, hb, hf, hg, hl, _, hle, hE => by
    have w1 := hW.1
    have e : b = N 0 0 := by omega
    subst e
    have h3' : S1 3 0 = nI (N 0 0) := by rw [hE 3 (by decide)]; exact h3
    refine ⟨least, found, Q, S1, fun kk => ?_, fun kk => ?_, hE⟩
    · simp (disch := omega) only [fX4_leastBy_L32, lt, jn, q_lit, q_bnd, q_cl, q_le, q_lt, q_eq, pk_mul, nI_add, q_sub, q_div, q_pos, q_neg, q_T, q_F, q_max0, q_flg1, q_flg0, q_min, q_min2, q_bit, q_some, q_up, hC.1.1]
    · simp (disch := omega) only [fX5_guard_L24, lt, jn, q_lit, q_bnd, q_cl, q_le, q_lt, q_eq, pk_mul, nI_add, q_sub, q_div, q_pos, q_neg, q_T, q_F, q_max0, q_flg1, q_flg0, q_min, q_min2, q_bit, q_some, h3']
  | d + 1, b, f + 1, g + 1, least, found, Q, S1, hb, hf, hg, hl, _, hle, hE => by
    have w1 := hW.1
    have hbn : b < N 0 0 := by omega
    have w4 : N 4 0 < 2 ^ 5 := Nat.lt_of_lt_of_le w1.2.2.1 (Nat.pow_le_pow_right (by decide) w1.1)
    have h3' : S1 3 0 = nI (N 0 0) := by rw [hE 3 (by decide)]; exact h3
    obtain ⟨Q0, c1, c2⟩ := t_copy Q hC hW
    have c4 : Q0 4 0 = nI (N 4 0) := c2.1.2.1
    have h2b : 2 ^ b < 2 ^ N 0 0 := Nat.pow_lt_pow_right (by decide) hbn
    have o3 : nI (N 4 0) ||| nI (2 ^ b) = nI (N 4 0 ||| 2 ^ b) := q_or _ _
    have hW2 := hW.cam (c := N 4 0 ||| 2 ^ b) (Nat.or_lt_two_pow w1.2.2.1 h2b)
    obtain ⟨Q1, q1, q2, q3⟩ := t_loose (fl := 15) (by omega) (c2.cam (N 4 0 ||| 2 ^ b)) hW2
    have qd := t_dutyAll q2 q3
    have ql := spAll_le q3
    obtain ⟨S2, i1, i2⟩ := m_starts hE h3 h4 hM hW
    have m3 := (i2.2.2.2.2.1 b hbn).2.2.2
    by_cases eb : (N 4 0).testBit b = true
    · have eor : N 4 0 ||| 2 ^ b = N 4 0 := by
        apply Nat.eq_of_testBit_eq
        intro i
        rw [Nat.testBit_or, Nat.testBit_two_pow]
        by_cases e : b = i
        · subst e
          simp [eb]
        · simp [e]
      have eN : va_up N 4 (fun _ => N 4 0 ||| 2 ^ b) = va_up N 4 (fun _ => N 4 0) := by rw [eor]
      have eD : spAll (spNight (va_up N 4 (fun _ => N 4 0 ||| 2 ^ b)) B 15) B = spAll (spNight N B 15) B := by
        rw [eN]
        have e4 : ∀ (m : Nat) (l : List Nat) (a : Nat) (h : Nat → Nat), spEat (va_up N 4 (fun _ => N 4 0)) m l a h = spEat N m l a h := by
          intro m l
          induction l with
          | nil => intro a h; rfl
          | cons c l ih =>
            intro a h
            rw [spEat, spEat, ih, ih]
            rfl
        have e5 : ∀ t, spLoose (va_up N 4 (fun _ => N 4 0)) B 15 t = spLoose N B 15 t := by
          intro t
          induction t with
          | zero => rfl
          | succ t ih =>
            rw [spLoose, spLoose, ih, e4]
            rfl
        show spDuty (spLoose (va_up N 4 (fun _ => N 4 0)) B 15 (N 7 0)) 0 (B 0) * N 13 0 + spDuty (spLoose (va_up N 4 (fun _ => N 4 0)) B 15 (N 7 0)) 0 (B 1) * N 13 0 + spDuty (spLoose (va_up N 4 (fun _ => N 4 0)) B 15 (N 7 0)) 0 (B 2) * N 13 0 = _
        rw [e5]
        rfl
      rw [eD] at qd ql
      obtain ⟨least', found', Q', S', r1, r2, r3⟩ := guard_L hC hW h3 h4 hM w d (b + 1) f g least found Q1 S2 (by omega) (by omega) (by omega) hl (fun _ _ _ => trivial) hle (ME.ma i2)
      refine ⟨least', found', Q', S', fun kk => ?_, fun kk => ?_, r3⟩
      · simp (disch := omega) only [fX4_leastBy_L32, lt, jn, q_lit, q_bnd, q_cl, q_le, q_lt, q_eq, pk_mul, nI_add, q_sub, q_div, q_pos, q_neg, q_T, q_F, q_max0, q_flg1, q_flg0, q_min, q_min2, q_bit, q_some, q_up, hC.1.1, c1, up_up, c4, q_shl, o3, q1, qd, r1]
      · simp (disch := omega) only [fX5_guard_L24, fX5_of, lt, jn, q_lit, q_bnd, q_cl, q_le, q_lt, q_eq, pk_mul, nI_add, q_sub, q_div, q_pos, q_neg, q_T, q_F, q_max0, q_flg1, q_flg0, q_min, q_min2, q_bit, q_some, h3', i1, m3, eb, q_b0, Bool.true_eq_false, r2]
    · have eb' : (N 4 0).testBit b = false := by simpa using eb
      have i3 : MA (va_up N 4 (fun _ => N 4 0 ||| 2 ^ b)) B S (va_up S2 1 (upd (S2 1) (6 * b + 3) (nI 1))) := ⟨fun k hk => by rw [q_up, if_neg hk]; exact i2.1 k hk, i2.2.1, i2.2.2.1, by
        rw [q_up, if_pos rfl]
        exact i2.2.2.2.cam hW hbn (p := true) (by rw [Nat.testBit_or, Nat.testBit_two_pow_self, Bool.or_true]) (fun j hj hne => by rw [Nat.testBit_or, Nat.testBit_two_pow_of_ne (Ne.symm hne), Bool.or_false])⟩
      obtain ⟨S3, j1, j2, j3⟩ := m_next i3 hW2
      by_cases el : least ≤ spAll (spNight (va_up N 4 (fun _ => N 4 0 ||| 2 ^ b)) B 15) B
      · obtain ⟨least', found', Q', S', r1, r2, r3⟩ := guard_L hC hW h3 h4 hM w d (b + 1) f g least found Q1 S3 (by omega) (by omega) (by omega) hl (fun _ _ _ => trivial) hle (ME.ma j2)
        refine ⟨least', found', Q', S', fun kk => ?_, fun kk => ?_, r3⟩
        · simp (disch := omega) only [fX4_leastBy_L32, lt, jn, q_lit, q_bnd, q_cl, q_le, q_lt, q_eq, pk_mul, nI_add, q_sub, q_div, q_pos, q_neg, q_T, q_F, q_max0, q_flg1, q_flg0, q_min, q_min2, q_bit, q_some, q_up, hC.1.1, c1, up_up, c4, q_shl, o3, q1, qd, r1]
        · simp (disch := omega) only [fX5_guard_L24, fX5_of, fX5_becomesOf, lt, jn, q_lit, q_bnd, q_cl, q_le, q_lt, q_eq, pk_mul, nI_add, q_sub, q_div, q_pos, q_neg, q_T, q_F, q_max0, q_flg1, q_flg0, q_min, q_min2, q_bit, q_some, h3', i1, m3, eb', q_b0, j1, r2]
      · obtain ⟨least', found', Q', S', r1, r2, r3⟩ := guard_L hC hW h3 h4 hM w d (b + 1) f g (spAll (spNight (va_up N 4 (fun _ => N 4 0 ||| 2 ^ b)) B 15) B) (nI b) Q1 S3 (by omega) (by omega) (by omega) ql (fun _ _ _ => trivial) (by omega) (ME.ma j2)
        refine ⟨least', found', Q', S', fun kk => ?_, fun kk => ?_, r3⟩
        · simp (disch := omega) only [fX4_leastBy_L32, lt, jn, q_lit, q_bnd, q_cl, q_le, q_lt, q_eq, pk_mul, nI_add, q_sub, q_div, q_pos, q_neg, q_T, q_F, q_max0, q_flg1, q_flg0, q_min, q_min2, q_bit, q_some, q_up, hC.1.1, c1, up_up, c4, q_shl, o3, q1, qd, r1]
        · simp (disch := omega) only [fX5_guard_L24, fX5_of, fX5_becomesOf, lt, jn, q_lit, q_bnd, q_cl, q_le, q_lt, q_eq, pk_mul, nI_add, q_sub, q_div, q_pos, q_neg, q_T, q_F, q_max0, q_flg1, q_flg0, q_min, q_min2, q_bit, q_some, h3', i1, m3, eb', q_b0, j1, r2]
theorem k_guard {X : M3} {S : M2} (h : R X S) (w : Int32) : ∃ a X' S', fX4_guard w X = some (a, X') ∧ fX5_guard w S = some (a, S') ∧ R X' S' := by
  obtain ⟨N, B, hW, hn, hC, hM, e3, e4, hN, hK⟩ := h.data
  have w1 := hW.1
  rcases t_isPart w with ⟨j, j2, rfl, e6, e7⟩ | ⟨j1, e6, e7⟩
  · obtain ⟨S1, i1, i2, -⟩ := hN.starts
    obtain ⟨S2, i3, i4, i5⟩ := m_next i2 hW
    obtain ⟨Q, q1, q2, q3⟩ := t_try (X := X) (fl := 15) (by omega) hC hW
    have qd := t_dutyAll q2 q3
    obtain ⟨least', found', Q', S', r1, r2, r3⟩ := guard_L hC hW e3 e4 hM (nI j) (N 0 0) 0 400 400 (spAll (spNight N B 15) B) (-nI 4) Q S2 (by omega) (by omega) (by omega) (spAll_le q3) (fun _ _ _ => trivial) (Nat.le_refl _) (ME.ma i4)
    refine ⟨if j = 0 then found' else if found' = -nI 4 then found' else nI least', va_up X 3 Q', S', ?_, ?_, (h.xe xe3).me r3⟩
    · unfold fX4_guard fX4_leastBy
      simp (disch := omega) only [lt, q_lit, q_some, e7, q_eq, q_neg, q1, q_up, q_T, qd, r1]
      by_cases a1 : j = 0
      · simp (disch := omega) only [a1, q_T, q_some]
      · simp (disch := omega) only [a1, q_F, q_some]
        by_cases a2 : found' = -nI 4
        · simp (disch := omega) only [a2, q_T, q_some]
        · simp (disch := omega) only [a2, q_F, q_some]
    · unfold fX5_guard
      simp (disch := omega) only [lt, q_lit, q_some, e6, q_eq, q_neg, i1, i3, r2]
      by_cases a2 : found' = -nI 4
      · by_cases a1 : j = 0
        · simp (disch := omega) only [a1, a2, q_T]
        · simp (disch := omega) only [a1, a2, q_T, q_F]
      · by_cases a1 : j = 0
        · simp (disch := omega) only [a1, a2, q_T, q_F]
        · simp (disch := omega) only [a1, a2, q_F]
  · refine ⟨-1, X, S, ?_, ?_, h⟩
    · simp (disch := omega) only [fX4_guard, fX4_leastBy, lt, jn, q_lit, q_bnd, q_cl, q_le, q_lt, q_eq, pk_mul, nI_add, q_sub, q_div, q_pos, q_neg, q_T, q_F, q_max0, q_flg1, q_flg0, q_min, q_min2, q_bit, q_some, e7]
    · simp (disch := omega) only [fX5_guard, lt, jn, q_lit, q_bnd, q_cl, q_le, q_lt, q_eq, pk_mul, nI_add, q_sub, q_div, q_pos, q_neg, q_T, q_F, q_max0, q_flg1, q_flg0, q_min, q_min2, q_bit, q_some, e6]
