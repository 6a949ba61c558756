/-! one field of what is now -/
theorem cam_off : ∀ c, c < 32 → ∀ b, b < 5 → nI c &&& ((nI 1 <<< (nI b &&& nI 31)) ^^^ (-nI 1)) = nI (c &&& (31 - 2 ^ b)) := by decide +kernel
theorem cam_offb : ∀ c, c < 32 → ∀ b, b < 5 → ∀ j, j < 5 → (c &&& (31 - 2 ^ b)).testBit j = (decide (j ≠ b) && c.testBit j) := by decide +kernel
theorem MS.cam {N : NN} {B : BB} {r : Nat → Int32} (hM : MS N B r) (hW : WF N B) {b c : Nat} (hb : b < N 0 0) {p : Bool} (e1 : c.testBit b = p) (e2 : ∀ j, j < N 0 0 → j ≠ b → c.testBit j = (N 4 0).testBit j) : MS (va_up N 4 (fun _ => c)) B (upd r (6 * b + 3) (nI p.toNat)) := by
  obtain ⟨⟨a1, a2, a3, a4⟩, h5, h6, h7, h8⟩ := hM
  have w1 := hW.1
  refine ⟨⟨?_, ?_, ?_, ?_⟩, fun b' hb' => ⟨?_, ?_, ?_, ?_⟩, fun m hm => ⟨?_, ?_, ?_, ?_⟩, fun i hi => ⟨?_, ?_⟩, fun k hk i d hd => ⟨?_, ?_⟩⟩
  · rw [q_ud, if_neg (by omega)]; exact a1
  · rw [q_ud, if_neg (by omega)]; exact a2
  · rw [q_ud, if_neg (by omega)]; exact a3
  · rw [q_ud, if_neg (by omega)]; exact a4
  · rw [q_ud, if_neg (by omega)]; exact (h5 b' hb').1
  · rw [q_ud, if_neg (by omega)]; exact (h5 b' hb').2.1
  · rw [q_ud, if_neg (by omega)]; exact (h5 b' hb').2.2.1
  · rw [q_ud]
    show _ = nI (c.testBit b').toNat
    by_cases e : b' = b
    · rw [if_pos (by omega), e, e1]
    · rw [if_neg (by omega), e2 b' hb' e]
      exact (h5 b' hb').2.2.2
  · rw [q_ud, if_neg (by omega)]; exact (h6 m hm).1
  · rw [q_ud, if_neg (by omega)]; exact (h6 m hm).2.1
  · rw [q_ud, if_neg (by omega)]; exact (h6 m hm).2.2.1
  · rw [q_ud, if_neg (by omega)]; exact (h6 m hm).2.2.2
  · rw [q_ud, if_neg (by omega)]; exact (h7 i hi).1
  · rw [q_ud, if_neg (by omega)]; exact (h7 i hi).2
  · rw [q_ud, if_neg (by omega)]; exact (h8 k hk i d hd).1
  · rw [q_ud, if_neg (by omega)]; exact (h8 k hk i d hd).2
theorem CS.cam {N : NN} {B : BB} {S : M2} (hS : CS N B S) (c : Nat) : CS (va_up N 4 (fun _ => c)) B (va_up S 4 (fun _ => nI c)) := by
  obtain ⟨⟨h1, h2, h3⟩, h4⟩ := hS
  exact ⟨⟨h1, rfl, h3⟩, h4⟩
theorem WF.cam {N : NN} {B : BB} (hW : WF N B) {c : Nat} (hc : c < 2 ^ N 0 0) : WF (va_up N 4 (fun _ => c)) B := by
  obtain ⟨⟨h1, h2, h3, h4⟩, h5⟩ := hW
  exact ⟨⟨h1, h2, hc, h4⟩, h5⟩
theorem k_camphor {X : M3} {S : M2} (h : R X S) (x : Int32) (p : Bool) : ∃ a X' S', fX4_camphor x (nI p.toNat) X = some (a, X') ∧ fX5_camphor x (nI p.toNat) S = some (a, S') ∧ R X' S' := by
  obtain ⟨N, B, hW, hn, hC, hM, e3, e4, hN, hK⟩ := h.data
  have w1 := hW.1
  have eb : fX5_isBolt x S = fX1_hasBolt x (X 2) := m_isBolt (e3.trans hC.1.1.symm) x
  rcases t_hasBolt hC.1.1 w1.1 x with ⟨b, hb, rfl, h1⟩ | ⟨-, h1⟩
  · rw [h1] at eb
    have w4 : N 4 0 < 2 ^ 5 := Nat.lt_of_lt_of_le w1.2.2.1 (Nat.pow_le_pow_right (by decide) w1.1)
    have m3 := (hM.2.1 b hb).2.2.2
    have c4 := hC.1.2.1
    have h2b : 2 ^ b < 2 ^ N 0 0 := Nat.pow_lt_pow_right (by decide) hb
    cases p
    · have o1 := cam_off (N 4 0) (by omega) b (by omega)
      have o2 := cam_offb (N 4 0) (by omega) b (by omega)
      refine ⟨nI ((N 4 0).testBit b).toNat, va_up X 2 _, va_up S 0 _, ?_, ?_, h.now (N' := va_up N 4 (fun _ => N 4 0 &&& (31 - 2 ^ b))) hK e3 e4 rfl rfl (hW.cam (c := N 4 0 &&& (31 - 2 ^ b)) (Nat.lt_of_le_of_lt Nat.and_le_left w1.2.2.1)) hn (hC.cam _) (by rw [q_up, if_pos rfl]; exact hM.cam hW hb (p := false) (by rw [o2 b (by omega)]; simp) (fun j hj hne => by rw [o2 j (by omega)]; simp [hne])) us0 (u62 (by omega))⟩
      · simp (disch := omega) only [fX4_camphor, lt, jn, q_lit, q_bnd, q_cl, q_le, q_lt, q_eq, pk_mul, nI_add, q_sub, q_div, q_pos, q_neg, q_T, q_F, q_max0, q_flg1, q_flg0, q_min, q_min2, q_bit, q_some, h1, c4, q_b0, o1]
      · simp (disch := omega) only [fX5_camphor, fX5_becomes, lt, jn, q_lit, q_bnd, q_cl, q_le, q_lt, q_eq, pk_mul, nI_add, q_sub, q_div, q_pos, q_neg, q_T, q_F, q_max0, q_flg1, q_flg0, q_min, q_min2, q_bit, q_some, eb, q_flag, m3]
    · have o3 : nI (N 4 0) ||| nI (2 ^ b) = nI (N 4 0 ||| 2 ^ b) := q_or _ _
      refine ⟨nI ((N 4 0).testBit b).toNat, va_up X 2 _, va_up S 0 _, ?_, ?_, h.now (N' := va_up N 4 (fun _ => N 4 0 ||| 2 ^ b)) hK e3 e4 rfl rfl (hW.cam (c := N 4 0 ||| 2 ^ b) (Nat.or_lt_two_pow w1.2.2.1 h2b)) hn (hC.cam _) (by rw [q_up, if_pos rfl]; exact hM.cam hW hb (p := true) (by rw [Nat.testBit_or, Nat.testBit_two_pow_self, Bool.or_true]) (fun j hj hne => by rw [Nat.testBit_or, Nat.testBit_two_pow_of_ne (Ne.symm hne), Bool.or_false])) us0 (u62 (by omega))⟩
      · simp (disch := omega) only [fX4_camphor, lt, jn, q_lit, q_bnd, q_cl, q_le, q_lt, q_eq, pk_mul, nI_add, q_sub, q_div, q_pos, q_neg, q_T, q_F, q_max0, q_flg1, q_flg0, q_min, q_min2, q_bit, q_some, h1, c4, q_b0, q_shl, o3]
        simp
      · simp (disch := omega) only [fX5_camphor, fX5_becomes, lt, jn, q_lit, q_bnd, q_cl, q_le, q_lt, q_eq, pk_mul, nI_add, q_sub, q_div, q_pos, q_neg, q_T, q_F, q_max0, q_flg1, q_flg0, q_min, q_min2, q_bit, q_some, eb, q_flag, m3]
  · rw [h1] at eb
    refine ⟨-1, X, S, ?_, ?_, h⟩
    · simp (disch := omega) only [fX4_camphor, lt, jn, q_lit, q_bnd, q_cl, q_le, q_lt, q_eq, pk_mul, nI_add, q_sub, q_div, q_pos, q_neg, q_T, q_F, q_max0, q_flg1, q_flg0, q_min, q_min2, q_bit, q_some, h1]
    · simp (disch := omega) only [fX5_camphor, lt, jn, q_lit, q_bnd, q_cl, q_le, q_lt, q_eq, pk_mul, nI_add, q_sub, q_div, q_pos, q_neg, q_T, q_F, q_max0, q_flg1, q_flg0, q_min, q_min2, q_bit, q_some, eb]
theorem CS.hole {N : NN} {B : BB} {S : M2} (hS : CS N B S) {b v : Nat} : CS (va_up N 3 (va_up (N 3) b v)) B (va_up S 3 (upd (S 3) b (nI v))) := by
  have e : CS (va_up N 3 (N 3)) B S := by rw [up_id]; exact hS
  exact e.holes
theorem WF.hole {N : NN} {B : BB} (hW : WF N B) {b v : Nat} (hv : v ≤ N 2 b) : WF (va_up N 3 (va_up (N 3) b v)) B := by
  have e : WF (va_up N 3 (N 3)) B := by rw [up_id]; exact hW
  exact e.holes hv
theorem MS.hole {N : NN} {B : BB} {r : Nat → Int32} (hM : MS N B r) (hW : WF N B) {b v : Nat} (hb : b < N 0 0) : MS (va_up N 3 (va_up (N 3) b v)) B (upd r (6 * b + 2) (nI v)) := by
  have e : WF (va_up N 3 (N 3)) B := by rw [up_id]; exact hW
  have := (MA.holes (h := N 3) (S0 := va_up (va_up (fun _ => r) 3 (fun _ => nI (N 0 0))) 4 (fun _ => nI (N 7 0))) (S := va_up (va_up (fun _ => r) 3 (fun _ => nI (N 0 0))) 4 (fun _ => nI (N 7 0))) ⟨fun _ _ => rfl, rfl, rfl, by rw [up_id]; exact hM⟩ e (v := v) hb).2.2.2
  exact this
theorem k_patch {X : M3} {S : M2} (h : R X S) (x y : Int32) : ∃ a X' S', fX4_patch x y X = some (a, X') ∧ fX5_patch x y S = some (a, S') ∧ R X' S' := by
  obtain ⟨N, B, hW, hn, hC, hM, e3, e4, hN, hK⟩ := h.data
  have w1 := hW.1
  have eb : fX5_isBolt x S = fX1_hasBolt x (X 2) := m_isBolt (e3.trans hC.1.1.symm) x
  rcases t_hasBolt hC.1.1 w1.1 x with ⟨b, hb, rfl, h1⟩ | ⟨-, h1⟩
  · rw [h1] at eb
    have m2 := (hM.2.1 b hb).2.2.1
    have g3 := (hC.2.1 b hb).2.2
    have c3 := hW.2.1 b hb
    rcases q_within y (a := 0) (b := 9) (by omega) with ⟨j, -, j2, rfl⟩ | ⟨-, j2⟩
    · by_cases e : j ≤ N 3 b
      · refine ⟨nI (N 3 b - j), va_up X 2 _, va_up S 0 _, ?_, ?_, h.now (N' := va_up N 3 (va_up (N 3) b (N 3 b - j))) hK e3 e4 rfl rfl (hW.hole (b := b) (v := N 3 b - j) (by omega)) hn hC.hole (by rw [q_up, if_pos rfl]; exact hM.hole hW hb) us0 (u62 (by omega))⟩
        · simp (disch := omega) only [fX4_patch, lt, jn, q_lit, q_bnd, q_cl, q_le, q_lt, q_eq, pk_mul, nI_add, q_sub, q_div, q_pos, q_neg, q_T, q_F, q_max0, q_flg1, q_flg0, q_min, q_min2, q_bit, q_some, h1, q_win, g3, q_up, q_ud]
        · simp (disch := omega) only [fX5_patch, lt, jn, q_lit, q_bnd, q_cl, q_le, q_lt, q_eq, pk_mul, nI_add, q_sub, q_div, q_pos, q_neg, q_T, q_F, q_max0, q_flg1, q_flg0, q_min, q_min2, q_bit, q_some, q_in_0_127, q_in_0_1, q_in_0_2, q_in_0_3, q_in_0_4, q_in_0_5, q_in_0_9, q_in_0_10, q_in_0_20, q_in_1_20, q_in_48_57, q_in_97_122, q_inB, eb, q_win, m2, q_up, q_ud]
      · refine ⟨-2, X, S, ?_, ?_, h⟩
        · simp (disch := omega) only [fX4_patch, lt, jn, q_lit, q_bnd, q_cl, q_le, q_lt, q_eq, pk_mul, nI_add, q_sub, q_div, q_pos, q_neg, q_T, q_F, q_max0, q_flg1, q_flg0, q_min, q_min2, q_bit, q_some, h1, q_win, g3]
        · simp (disch := omega) only [fX5_patch, lt, jn, q_lit, q_bnd, q_cl, q_le, q_lt, q_eq, pk_mul, nI_add, q_sub, q_div, q_pos, q_neg, q_T, q_F, q_max0, q_flg1, q_flg0, q_min, q_min2, q_bit, q_some, q_in_0_127, q_in_0_1, q_in_0_2, q_in_0_3, q_in_0_4, q_in_0_5, q_in_0_9, q_in_0_10, q_in_0_20, q_in_1_20, q_in_48_57, q_in_97_122, q_inB, eb, q_win, m2]
    · refine ⟨-1, X, S, ?_, ?_, h⟩
      · simp (disch := omega) only [fX4_patch, lt, jn, q_lit, q_bnd, q_cl, q_le, q_lt, q_eq, pk_mul, nI_add, q_sub, q_div, q_pos, q_neg, q_T, q_F, q_max0, q_flg1, q_flg0, q_min, q_min2, q_bit, q_some, h1, j2]
      · simp (disch := omega) only [fX5_patch, lt, jn, q_lit, q_bnd, q_cl, q_le, q_lt, q_eq, pk_mul, nI_add, q_sub, q_div, q_pos, q_neg, q_T, q_F, q_max0, q_flg1, q_flg0, q_min, q_min2, q_bit, q_some, q_in_0_127, q_in_0_1, q_in_0_2, q_in_0_3, q_in_0_4, q_in_0_5, q_in_0_9, q_in_0_10, q_in_0_20, q_in_1_20, q_in_48_57, q_in_97_122, q_inB, eb, j2]
  · rw [h1] at eb
    refine ⟨-1, X, S, ?_, ?_, h⟩
    · simp (disch := omega) only [fX4_patch, lt, jn, q_lit, q_bnd, q_cl, q_le, q_lt, q_eq, pk_mul, nI_add, q_sub, q_div, q_pos, q_neg, q_T, q_F, q_max0, q_flg1, q_flg0, q_min, q_min2, q_bit, q_some, h1]
    · simp (disch := omega) only [fX5_patch, lt, jn, q_lit, q_bnd, q_cl, q_le, q_lt, q_eq, pk_mul, nI_add, q_sub, q_div, q_pos, q_neg, q_T, q_F, q_max0, q_flg1, q_flg0, q_min, q_min2, q_bit, q_some, eb]
theorem k_prick {X : M3} {S : M2} (h : R X S) (x : Int32) : ∃ a X' S', fX4_prick x X = some (a, X') ∧ fX5_prick x S = some (a, S') ∧ R X' S' := by
  obtain ⟨N, B, hW, hn, hC, hM, e3, e4, hN, hK⟩ := h.data
  have w1 := hW.1
  have eb : fX5_isBolt x S = fX1_hasBolt x (X 2) := m_isBolt (e3.trans hC.1.1.symm) x
  rcases t_hasBolt hC.1.1 w1.1 x with ⟨b, hb, rfl, h1⟩ | ⟨-, h1⟩
  · rw [h1] at eb
    have m2 := (hM.2.1 b hb).2.2.1
    have m1 := (hM.2.1 b hb).2.1
    have g3 := (hC.2.1 b hb).2.2
    have g2 := (hC.2.1 b hb).2.1
    have c3 := hW.2.1 b hb
    by_cases e : N 3 b < N 2 b
    · refine ⟨nI (N 3 b + 1), va_up X 2 _, va_up S 0 _, ?_, ?_, h.now (N' := va_up N 3 (va_up (N 3) b (N 3 b + 1))) hK e3 e4 rfl rfl (hW.hole (b := b) (v := N 3 b + 1) (by omega)) hn hC.hole (by rw [q_up, if_pos rfl]; exact hM.hole hW hb) us0 (u62 (by omega))⟩
      · simp (disch := omega) only [fX4_prick, lt, jn, q_lit, q_bnd, q_cl, q_le, q_lt, q_eq, pk_mul, nI_add, q_sub, q_div, q_pos, q_neg, q_T, q_F, q_max0, q_flg1, q_flg0, q_min, q_min2, q_bit, q_some, h1, g2, g3, q_up, q_ud]
      · simp (disch := omega) only [fX5_prick, lt, jn, q_lit, q_bnd, q_cl, q_le, q_lt, q_eq, pk_mul, nI_add, q_sub, q_div, q_pos, q_neg, q_T, q_F, q_max0, q_flg1, q_flg0, q_min, q_min2, q_bit, q_some, eb, m1, m2, q_up, q_ud]
    · refine ⟨-3, X, S, ?_, ?_, h⟩
      · simp (disch := omega) only [fX4_prick, lt, jn, q_lit, q_bnd, q_cl, q_le, q_lt, q_eq, pk_mul, nI_add, q_sub, q_div, q_pos, q_neg, q_T, q_F, q_max0, q_flg1, q_flg0, q_min, q_min2, q_bit, q_some, h1, g2, g3]
      · simp (disch := omega) only [fX5_prick, lt, jn, q_lit, q_bnd, q_cl, q_le, q_lt, q_eq, pk_mul, nI_add, q_sub, q_div, q_pos, q_neg, q_T, q_F, q_max0, q_flg1, q_flg0, q_min, q_min2, q_bit, q_some, eb, m1, m2]
  · rw [h1] at eb
    refine ⟨-1, X, S, ?_, ?_, h⟩
    · simp (disch := omega) only [fX4_prick, lt, jn, q_lit, q_bnd, q_cl, q_le, q_lt, q_eq, pk_mul, nI_add, q_sub, q_div, q_pos, q_neg, q_T, q_F, q_max0, q_flg1, q_flg0, q_min, q_min2, q_bit, q_some, h1]
    · simp (disch := omega) only [fX5_prick, lt, jn, q_lit, q_bnd, q_cl, q_le, q_lt, q_eq, pk_mul, nI_add, q_sub, q_div, q_pos, q_neg, q_T, q_F, q_max0, q_flg1, q_flg0, q_min, q_min2, q_bit, q_some, eb]
theorem MS.tr0 {N : NN} {B : BB} {r : Nat → Int32} (hM : MS N B r) (hW : WF N B) {m v : Nat} (hm : m < N 7 0) : MS (va_up N 8 (va_up (N 8) m v)) B (upd r (30 + 4 * m + 0) (nI v)) := by
  obtain ⟨⟨a1, a2, a3, a4⟩, h5, h6, h7, h8⟩ := hM
  have w1 := hW.1
  refine ⟨⟨?_, ?_, ?_, ?_⟩, fun b' hb' => ⟨?_, ?_, ?_, ?_⟩, fun m' hm' => ⟨?_, ?_, ?_, ?_⟩, fun i hi => ⟨?_, ?_⟩, fun k hk i d hd => ⟨?_, ?_⟩⟩
  · rw [q_ud, if_neg (by omega)]; exact a1
  · rw [q_ud, if_neg (by omega)]; exact a2
  · rw [q_ud, if_neg (by omega)]; exact a3
  · rw [q_ud, if_neg (by omega)]; exact a4
  · have hb2 : b' < N 0 0 := hb'
    rw [q_ud, if_neg (by omega)]; exact (h5 b' hb').1
  · have hb2 : b' < N 0 0 := hb'
    rw [q_ud, if_neg (by omega)]; exact (h5 b' hb').2.1
  · have hb2 : b' < N 0 0 := hb'
    rw [q_ud, if_neg (by omega)]; exact (h5 b' hb').2.2.1
  · have hb2 : b' < N 0 0 := hb'
    rw [q_ud, if_neg (by omega)]; exact (h5 b' hb').2.2.2
  · rw [q_ud]
    show _ = nI (va_up (N 8) m v m')
    rw [q_up]
    by_cases e : m' = m
    · rw [if_pos (by omega), if_pos e]
    · rw [if_neg (by omega), if_neg e]
      exact (h6 m' hm').1
  · rw [q_ud, if_neg (by omega)]; exact (h6 m' hm').2.1
  · rw [q_ud, if_neg (by omega)]; exact (h6 m' hm').2.2.1
  · rw [q_ud, if_neg (by omega)]; exact (h6 m' hm').2.2.2
  · rw [q_ud, if_neg (by omega)]; exact (h7 i hi).1
  · rw [q_ud, if_neg (by omega)]; exact (h7 i hi).2
  · have hd2 := hW.2.2.2.2.lt hk (List.mem_of_getElem? hd)
    rw [q_ud, if_neg (by omega)]; exact (h8 k hk i d hd).1
  · have hd2 := hW.2.2.2.2.lt hk (List.mem_of_getElem? hd)
    rw [q_ud, if_neg (by omega)]; exact (h8 k hk i d hd).2
theorem CS.tr0 {N : NN} {B : BB} {S : M2} (hS : CS N B S) (m v : Nat) : CS (va_up N 8 (va_up (N 8) m v)) B (va_up S 8 (upd (S 8) m (nI v))) := by
  obtain ⟨h1, h2, h3, h4⟩ := hS
  refine ⟨h1, h2, fun m' hm' => ?_, h4⟩
  have e : upd (S 8) m (nI v) m' = nI (va_up (N 8) m v m') := by
    rw [q_ud, q_up]
    by_cases e : m' = m
    · rw [if_pos e, if_pos e]
    · rw [if_neg e, if_neg e]
      exact (h3 m' hm').1
  exact ⟨e, (h3 m' hm').2.1, (h3 m' hm').2.2.1, (h3 m' hm').2.2.2⟩
theorem WF.tr0 {N : NN} {B : BB} (hW : WF N B) {m v : Nat} (hv : v ≤ 3) : WF (va_up N 8 (va_up (N 8) m v)) B := by
  obtain ⟨h1, h2, h3, h4, h5⟩ := hW
  refine ⟨h1, h2, fun m' hm' => ?_, h4, h5⟩
  have e : va_up (N 8) m v m' ≤ 3 := by
    rw [q_up]
    by_cases e : m' = m
    · rw [if_pos e]; exact hv
    · rw [if_neg e]
      exact (h3 m' hm').1
  exact ⟨e, (h3 m' hm').2.1, (h3 m' hm').2.2.1, (h3 m' hm').2.2.2⟩
theorem MS.tr1 {N : NN} {B : BB} {r : Nat → Int32} (hM : MS N B r) (hW : WF N B) {m v : Nat} (hm : m < N 7 0) : MS (va_up N 9 (va_up (N 9) m v)) B (upd r (30 + 4 * m + 1) (nI v)) := by
  obtain ⟨⟨a1, a2, a3, a4⟩, h5, h6, h7, h8⟩ := hM
  have w1 := hW.1
  refine ⟨⟨?_, ?_, ?_, ?_⟩, fun b' hb' => ⟨?_, ?_, ?_, ?_⟩, fun m' hm' => ⟨?_, ?_, ?_, ?_⟩, fun i hi => ⟨?_, ?_⟩, fun k hk i d hd => ⟨?_, ?_⟩⟩
  · rw [q_ud, if_neg (by omega)]; exact a1
  · rw [q_ud, if_neg (by omega)]; exact a2
  · rw [q_ud, if_neg (by omega)]; exact a3
  · rw [q_ud, if_neg (by omega)]; exact a4
  · have hb2 : b' < N 0 0 := hb'
    rw [q_ud, if_neg (by omega)]; exact (h5 b' hb').1
  · have hb2 : b' < N 0 0 := hb'
    rw [q_ud, if_neg (by omega)]; exact (h5 b' hb').2.1
  · have hb2 : b' < N 0 0 := hb'
    rw [q_ud, if_neg (by omega)]; exact (h5 b' hb').2.2.1
  · have hb2 : b' < N 0 0 := hb'
    rw [q_ud, if_neg (by omega)]; exact (h5 b' hb').2.2.2
  · rw [q_ud, if_neg (by omega)]; exact (h6 m' hm').1
  · rw [q_ud]
    show _ = nI (va_up (N 9) m v m')
    rw [q_up]
    by_cases e : m' = m
    · rw [if_pos (by omega), if_pos e]
    · rw [if_neg (by omega), if_neg e]
      exact (h6 m' hm').2.1
  · rw [q_ud, if_neg (by omega)]; exact (h6 m' hm').2.2.1
  · rw [q_ud, if_neg (by omega)]; exact (h6 m' hm').2.2.2
  · rw [q_ud, if_neg (by omega)]; exact (h7 i hi).1
  · rw [q_ud, if_neg (by omega)]; exact (h7 i hi).2
  · have hd2 := hW.2.2.2.2.lt hk (List.mem_of_getElem? hd)
    rw [q_ud, if_neg (by omega)]; exact (h8 k hk i d hd).1
  · have hd2 := hW.2.2.2.2.lt hk (List.mem_of_getElem? hd)
    rw [q_ud, if_neg (by omega)]; exact (h8 k hk i d hd).2
theorem CS.tr1 {N : NN} {B : BB} {S : M2} (hS : CS N B S) (m v : Nat) : CS (va_up N 9 (va_up (N 9) m v)) B (va_up S 9 (upd (S 9) m (nI v))) := by
  obtain ⟨h1, h2, h3, h4⟩ := hS
  refine ⟨h1, h2, fun m' hm' => ?_, h4⟩
  have e : upd (S 9) m (nI v) m' = nI (va_up (N 9) m v m') := by
    rw [q_ud, q_up]
    by_cases e : m' = m
    · rw [if_pos e, if_pos e]
    · rw [if_neg e, if_neg e]
      exact (h3 m' hm').2.1
  exact ⟨(h3 m' hm').1, e, (h3 m' hm').2.2.1, (h3 m' hm').2.2.2⟩
theorem WF.tr1 {N : NN} {B : BB} (hW : WF N B) {m v : Nat} (hv : v ≤ 5) : WF (va_up N 9 (va_up (N 9) m v)) B := by
  obtain ⟨h1, h2, h3, h4, h5⟩ := hW
  refine ⟨h1, h2, fun m' hm' => ?_, h4, h5⟩
  have e : va_up (N 9) m v m' ≤ 5 := by
    rw [q_up]
    by_cases e : m' = m
    · rw [if_pos e]; exact hv
    · rw [if_neg e]
      exact (h3 m' hm').2.1
  exact ⟨(h3 m' hm').1, e, (h3 m' hm').2.2.1, (h3 m' hm').2.2.2⟩
theorem MS.tr2 {N : NN} {B : BB} {r : Nat → Int32} (hM : MS N B r) (hW : WF N B) {m v : Nat} (hm : m < N 7 0) : MS (va_up N 10 (va_up (N 10) m v)) B (upd r (30 + 4 * m + 2) (nI v)) := by
  obtain ⟨⟨a1, a2, a3, a4⟩, h5, h6, h7, h8⟩ := hM
  have w1 := hW.1
  refine ⟨⟨?_, ?_, ?_, ?_⟩, fun b' hb' => ⟨?_, ?_, ?_, ?_⟩, fun m' hm' => ⟨?_, ?_, ?_, ?_⟩, fun i hi => ⟨?_, ?_⟩, fun k hk i d hd => ⟨?_, ?_⟩⟩
  · rw [q_ud, if_neg (by omega)]; exact a1
  · rw [q_ud, if_neg (by omega)]; exact a2
  · rw [q_ud, if_neg (by omega)]; exact a3
  · rw [q_ud, if_neg (by omega)]; exact a4
  · have hb2 : b' < N 0 0 := hb'
    rw [q_ud, if_neg (by omega)]; exact (h5 b' hb').1
  · have hb2 : b' < N 0 0 := hb'
    rw [q_ud, if_neg (by omega)]; exact (h5 b' hb').2.1
  · have hb2 : b' < N 0 0 := hb'
    rw [q_ud, if_neg (by omega)]; exact (h5 b' hb').2.2.1
  · have hb2 : b' < N 0 0 := hb'
    rw [q_ud, if_neg (by omega)]; exact (h5 b' hb').2.2.2
  · rw [q_ud, if_neg (by omega)]; exact (h6 m' hm').1
  · rw [q_ud, if_neg (by omega)]; exact (h6 m' hm').2.1
  · rw [q_ud]
    show _ = nI (va_up (N 10) m v m')
    rw [q_up]
    by_cases e : m' = m
    · rw [if_pos (by omega), if_pos e]
    · rw [if_neg (by omega), if_neg e]
      exact (h6 m' hm').2.2.1
  · rw [q_ud, if_neg (by omega)]; exact (h6 m' hm').2.2.2
  · rw [q_ud, if_neg (by omega)]; exact (h7 i hi).1
  · rw [q_ud, if_neg (by omega)]; exact (h7 i hi).2
  · have hd2 := hW.2.2.2.2.lt hk (List.mem_of_getElem? hd)
    rw [q_ud, if_neg (by omega)]; exact (h8 k hk i d hd).1
  · have hd2 := hW.2.2.2.2.lt hk (List.mem_of_getElem? hd)
    rw [q_ud, if_neg (by omega)]; exact (h8 k hk i d hd).2
theorem CS.tr2 {N : NN} {B : BB} {S : M2} (hS : CS N B S) (m v : Nat) : CS (va_up N 10 (va_up (N 10) m v)) B (va_up S 10 (upd (S 10) m (nI v))) := by
  obtain ⟨h1, h2, h3, h4⟩ := hS
  refine ⟨h1, h2, fun m' hm' => ?_, h4⟩
  have e : upd (S 10) m (nI v) m' = nI (va_up (N 10) m v m') := by
    rw [q_ud, q_up]
    by_cases e : m' = m
    · rw [if_pos e, if_pos e]
    · rw [if_neg e, if_neg e]
      exact (h3 m' hm').2.2.1
  exact ⟨(h3 m' hm').1, (h3 m' hm').2.1, e, (h3 m' hm').2.2.2⟩
theorem WF.tr2 {N : NN} {B : BB} (hW : WF N B) {m v : Nat} (hv : v ≤ 9) : WF (va_up N 10 (va_up (N 10) m v)) B := by
  obtain ⟨h1, h2, h3, h4, h5⟩ := hW
  refine ⟨h1, h2, fun m' hm' => ?_, h4, h5⟩
  have e : va_up (N 10) m v m' ≤ 9 := by
    rw [q_up]
    by_cases e : m' = m
    · rw [if_pos e]; exact hv
    · rw [if_neg e]
      exact (h3 m' hm').2.2.1
  exact ⟨(h3 m' hm').1, (h3 m' hm').2.1, e, (h3 m' hm').2.2.2⟩
theorem MS.tr3 {N : NN} {B : BB} {r : Nat → Int32} (hM : MS N B r) (hW : WF N B) {m v : Nat} (hm : m < N 7 0) : MS (va_up N 11 (va_up (N 11) m v)) B (upd r (30 + 4 * m + 3) (nI v)) := by
  obtain ⟨⟨a1, a2, a3, a4⟩, h5, h6, h7, h8⟩ := hM
  have w1 := hW.1
  refine ⟨⟨?_, ?_, ?_, ?_⟩, fun b' hb' => ⟨?_, ?_, ?_, ?_⟩, fun m' hm' => ⟨?_, ?_, ?_, ?_⟩, fun i hi => ⟨?_, ?_⟩, fun k hk i d hd => ⟨?_, ?_⟩⟩
  · rw [q_ud, if_neg (by omega)]; exact a1
  · rw [q_ud, if_neg (by omega)]; exact a2
  · rw [q_ud, if_neg (by omega)]; exact a3
  · rw [q_ud, if_neg (by omega)]; exact a4
  · have hb2 : b' < N 0 0 := hb'
    rw [q_ud, if_neg (by omega)]; exact (h5 b' hb').1
  · have hb2 : b' < N 0 0 := hb'
    rw [q_ud, if_neg (by omega)]; exact (h5 b' hb').2.1
  · have hb2 : b' < N 0 0 := hb'
    rw [q_ud, if_neg (by omega)]; exact (h5 b' hb').2.2.1
  · have hb2 : b' < N 0 0 := hb'
    rw [q_ud, if_neg (by omega)]; exact (h5 b' hb').2.2.2
  · rw [q_ud, if_neg (by omega)]; exact (h6 m' hm').1
  · rw [q_ud, if_neg (by omega)]; exact (h6 m' hm').2.1
  · rw [q_ud, if_neg (by omega)]; exact (h6 m' hm').2.2.1
  · rw [q_ud]
    show _ = nI (va_up (N 11) m v m')
    rw [q_up]
    by_cases e : m' = m
    · rw [if_pos (by omega), if_pos e]
    · rw [if_neg (by omega), if_neg e]
      exact (h6 m' hm').2.2.2
  · rw [q_ud, if_neg (by omega)]; exact (h7 i hi).1
  · rw [q_ud, if_neg (by omega)]; exact (h7 i hi).2
  · have hd2 := hW.2.2.2.2.lt hk (List.mem_of_getElem? hd)
    rw [q_ud, if_neg (by omega)]; exact (h8 k hk i d hd).1
  · have hd2 := hW.2.2.2.2.lt hk (List.mem_of_getElem? hd)
    rw [q_ud, if_neg (by omega)]; exact (h8 k hk i d hd).2
theorem CS.tr3 {N : NN} {B : BB} {S : M2} (hS : CS N B S) (m v : Nat) : CS (va_up N 11 (va_up (N 11) m v)) B (va_up S 11 (upd (S 11) m (nI v))) := by
  obtain ⟨h1, h2, h3, h4⟩ := hS
  refine ⟨h1, h2, fun m' hm' => ?_, h4⟩
  have e : upd (S 11) m (nI v) m' = nI (va_up (N 11) m v m') := by
    rw [q_ud, q_up]
    by_cases e : m' = m
    · rw [if_pos e, if_pos e]
    · rw [if_neg e, if_neg e]
      exact (h3 m' hm').2.2.2
  exact ⟨(h3 m' hm').1, (h3 m' hm').2.1, (h3 m' hm').2.2.1, e⟩
theorem WF.tr3 {N : NN} {B : BB} (hW : WF N B) {m v : Nat} (hv : v ≤ 2) : WF (va_up N 11 (va_up (N 11) m v)) B := by
  obtain ⟨h1, h2, h3, h4, h5⟩ := hW
  refine ⟨h1, h2, fun m' hm' => ?_, h4, h5⟩
  have e : va_up (N 11) m v m' ≤ 2 := by
    rw [q_up]
    by_cases e : m' = m
    · rw [if_pos e]; exact hv
    · rw [if_neg e]
      exact (h3 m' hm').2.2.2
  exact ⟨(h3 m' hm').1, (h3 m' hm').2.1, (h3 m' hm').2.2.1, e⟩
theorem k_alter {X : M3} {S : M2} (h : R X S) (x w y : Int32) : ∃ a X' S', fX4_alter x w y X = some (a, X') ∧ fX5_alter x w y S = some (a, S') ∧ R X' S' := by
  obtain ⟨N, B, hW, hn, hC, hM, e3, e4, hN, hK⟩ := h.data
  have w1 := hW.1
  have c7 := hC.1.2.2.1
  have eb : fX5_isMoth x S = fX1_hasMoth x (X 2) := m_isMoth (e4.trans c7.symm) x
  rcases t_hasMoth c7 (by omega) x with ⟨m, hm, rfl, h1⟩ | ⟨-, h1⟩
  · rw [h1] at eb
    obtain ⟨g1, g2, g3, g4⟩ := hC.2.2.1 m hm
    obtain ⟨m1, m2, m3, m4⟩ := hM.2.2.1 m hm
    rcases q_within w (a := 0) (b := 3) (by omega) with ⟨j, -, j2, rfl⟩ | ⟨-, j2⟩
    · rcases (by omega : j = 0 ∨ j = 1 ∨ j = 2 ∨ j = 3) with rfl | rfl | rfl | rfl
      · rcases q_within y (a := 0) (b := 3) (by omega) with ⟨v, -, v2, rfl⟩ | ⟨-, v2⟩
        · refine ⟨nI (N 8 m), va_up X 2 _, va_up S 0 _, ?_, ?_, h.now (N' := va_up N 8 (va_up (N 8) m v)) hK e3 e4 rfl rfl (hW.tr0 (m := m) v2) hn (hC.tr0 m v) (by rw [q_up, if_pos rfl]; exact hM.tr0 hW hm) us0 (u62 (by omega))⟩
          · simp (disch := omega) only [fX4_alter, fX4_mostOfTrait, fX1_trait, fX1_setTrait, lt, jn, q_lit, q_bnd, q_cl, q_le, q_lt, q_eq, pk_mul, nI_add, q_sub, q_div, q_pos, q_neg, q_T, q_F, q_max0, q_flg1, q_flg0, q_min, q_min2, q_bit, q_some, h1, q_win, g1]
          · simp (disch := omega) only [fX5_alter, fX5_mostOf, fX5_becomes, lt, jn, q_lit, q_bnd, q_cl, q_le, q_lt, q_eq, pk_mul, nI_add, q_sub, q_div, q_pos, q_neg, q_T, q_F, q_max0, q_flg1, q_flg0, q_min, q_min2, q_bit, q_some, q_in5, q_in_0_127, q_in_0_1, q_in_0_2, q_in_0_3, q_in_0_4, q_in_0_5, q_in_0_9, q_in_0_10, q_in_0_20, q_in_1_20, q_in_48_57, q_in_97_122, q_inB, eb, q_win, m1, Nat.add_zero]
        · refine ⟨-1, X, S, ?_, ?_, h⟩
          · simp (disch := omega) only [fX4_alter, fX4_mostOfTrait, lt, jn, q_lit, q_bnd, q_cl, q_le, q_lt, q_eq, pk_mul, nI_add, q_sub, q_div, q_pos, q_neg, q_T, q_F, q_max0, q_flg1, q_flg0, q_min, q_min2, q_bit, q_some, h1, q_win, v2]
          · simp (disch := omega) only [fX5_alter, fX5_mostOf, lt, jn, q_lit, q_bnd, q_cl, q_le, q_lt, q_eq, pk_mul, nI_add, q_sub, q_div, q_pos, q_neg, q_T, q_F, q_max0, q_flg1, q_flg0, q_min, q_min2, q_bit, q_some, q_in_0_127, q_in_0_1, q_in_0_2, q_in_0_3, q_in_0_4, q_in_0_5, q_in_0_9, q_in_0_10, q_in_0_20, q_in_1_20, q_in_48_57, q_in_97_122, q_inB, eb, q_win, v2]
      · rcases q_within y (a := 0) (b := 5) (by omega) with ⟨v, -, v2, rfl⟩ | ⟨-, v2⟩
        · refine ⟨nI (N 9 m), va_up X 2 _, va_up S 0 _, ?_, ?_, h.now (N' := va_up N 9 (va_up (N 9) m v)) hK e3 e4 rfl rfl (hW.tr1 (m := m) v2) hn (hC.tr1 m v) (by rw [q_up, if_pos rfl]; exact hM.tr1 hW hm) us0 (u62 (by omega))⟩
          · simp (disch := omega) only [fX4_alter, fX4_mostOfTrait, fX1_trait, fX1_setTrait, lt, jn, q_lit, q_bnd, q_cl, q_le, q_lt, q_eq, pk_mul, nI_add, q_sub, q_div, q_pos, q_neg, q_T, q_F, q_max0, q_flg1, q_flg0, q_min, q_min2, q_bit, q_some, h1, q_win, g2]
          · simp (disch := omega) only [fX5_alter, fX5_mostOf, fX5_becomes, lt, jn, q_lit, q_bnd, q_cl, q_le, q_lt, q_eq, pk_mul, nI_add, q_sub, q_div, q_pos, q_neg, q_T, q_F, q_max0, q_flg1, q_flg0, q_min, q_min2, q_bit, q_some, q_in5, q_in_0_127, q_in_0_1, q_in_0_2, q_in_0_3, q_in_0_4, q_in_0_5, q_in_0_9, q_in_0_10, q_in_0_20, q_in_1_20, q_in_48_57, q_in_97_122, q_inB, eb, q_win, m2]
        · refine ⟨-1, X, S, ?_, ?_, h⟩
          · simp (disch := omega) only [fX4_alter, fX4_mostOfTrait, lt, jn, q_lit, q_bnd, q_cl, q_le, q_lt, q_eq, pk_mul, nI_add, q_sub, q_div, q_pos, q_neg, q_T, q_F, q_max0, q_flg1, q_flg0, q_min, q_min2, q_bit, q_some, h1, q_win, v2]
          · simp (disch := omega) only [fX5_alter, fX5_mostOf, lt, jn, q_lit, q_bnd, q_cl, q_le, q_lt, q_eq, pk_mul, nI_add, q_sub, q_div, q_pos, q_neg, q_T, q_F, q_max0, q_flg1, q_flg0, q_min, q_min2, q_bit, q_some, q_in_0_127, q_in_0_1, q_in_0_2, q_in_0_3, q_in_0_4, q_in_0_5, q_in_0_9, q_in_0_10, q_in_0_20, q_in_1_20, q_in_48_57, q_in_97_122, q_inB, eb, q_win, v2]
      · rcases q_within y (a := 0) (b := 9) (by omega) with ⟨v, -, v2, rfl⟩ | ⟨-, v2⟩
        · refine ⟨nI (N 10 m), va_up X 2 _, va_up S 0 _, ?_, ?_, h.now (N' := va_up N 10 (va_up (N 10) m v)) hK e3 e4 rfl rfl (hW.tr2 (m := m) v2) hn (hC.tr2 m v) (by rw [q_up, if_pos rfl]; exact hM.tr2 hW hm) us0 (u62 (by omega))⟩
          · simp (disch := omega) only [fX4_alter, fX4_mostOfTrait, fX1_trait, fX1_setTrait, lt, jn, q_lit, q_bnd, q_cl, q_le, q_lt, q_eq, pk_mul, nI_add, q_sub, q_div, q_pos, q_neg, q_T, q_F, q_max0, q_flg1, q_flg0, q_min, q_min2, q_bit, q_some, h1, q_win, g3]
          · simp (disch := omega) only [fX5_alter, fX5_mostOf, fX5_becomes, lt, jn, q_lit, q_bnd, q_cl, q_le, q_lt, q_eq, pk_mul, nI_add, q_sub, q_div, q_pos, q_neg, q_T, q_F, q_max0, q_flg1, q_flg0, q_min, q_min2, q_bit, q_some, q_in5, q_in_0_127, q_in_0_1, q_in_0_2, q_in_0_3, q_in_0_4, q_in_0_5, q_in_0_9, q_in_0_10, q_in_0_20, q_in_1_20, q_in_48_57, q_in_97_122, q_inB, eb, q_win, m3]
        · refine ⟨-1, X, S, ?_, ?_, h⟩
          · simp (disch := omega) only [fX4_alter, fX4_mostOfTrait, lt, jn, q_lit, q_bnd, q_cl, q_le, q_lt, q_eq, pk_mul, nI_add, q_sub, q_div, q_pos, q_neg, q_T, q_F, q_max0, q_flg1, q_flg0, q_min, q_min2, q_bit, q_some, h1, q_win, v2]
          · simp (disch := omega) only [fX5_alter, fX5_mostOf, lt, jn, q_lit, q_bnd, q_cl, q_le, q_lt, q_eq, pk_mul, nI_add, q_sub, q_div, q_pos, q_neg, q_T, q_F, q_max0, q_flg1, q_flg0, q_min, q_min2, q_bit, q_some, q_in_0_127, q_in_0_1, q_in_0_2, q_in_0_3, q_in_0_4, q_in_0_5, q_in_0_9, q_in_0_10, q_in_0_20, q_in_1_20, q_in_48_57, q_in_97_122, q_inB, eb, q_win, v2]
      · rcases q_within y (a := 0) (b := 2) (by omega) with ⟨v, -, v2, rfl⟩ | ⟨-, v2⟩
        · refine ⟨nI (N 11 m), va_up X 2 _, va_up S 0 _, ?_, ?_, h.now (N' := va_up N 11 (va_up (N 11) m v)) hK e3 e4 rfl rfl (hW.tr3 (m := m) v2) hn (hC.tr3 m v) (by rw [q_up, if_pos rfl]; exact hM.tr3 hW hm) us0 (u62 (by omega))⟩
          · simp (disch := omega) only [fX4_alter, fX4_mostOfTrait, fX1_trait, fX1_setTrait, lt, jn, q_lit, q_bnd, q_cl, q_le, q_lt, q_eq, pk_mul, nI_add, q_sub, q_div, q_pos, q_neg, q_T, q_F, q_max0, q_flg1, q_flg0, q_min, q_min2, q_bit, q_some, h1, q_win, g4]
          · simp (disch := omega) only [fX5_alter, fX5_mostOf, fX5_becomes, lt, jn, q_lit, q_bnd, q_cl, q_le, q_lt, q_eq, pk_mul, nI_add, q_sub, q_div, q_pos, q_neg, q_T, q_F, q_max0, q_flg1, q_flg0, q_min, q_min2, q_bit, q_some, q_in5, q_in_0_127, q_in_0_1, q_in_0_2, q_in_0_3, q_in_0_4, q_in_0_5, q_in_0_9, q_in_0_10, q_in_0_20, q_in_1_20, q_in_48_57, q_in_97_122, q_inB, eb, q_win, m4]
        · refine ⟨-1, X, S, ?_, ?_, h⟩
          · simp (disch := omega) only [fX4_alter, fX4_mostOfTrait, lt, jn, q_lit, q_bnd, q_cl, q_le, q_lt, q_eq, pk_mul, nI_add, q_sub, q_div, q_pos, q_neg, q_T, q_F, q_max0, q_flg1, q_flg0, q_min, q_min2, q_bit, q_some, h1, q_win, v2]
          · simp (disch := omega) only [fX5_alter, fX5_mostOf, lt, jn, q_lit, q_bnd, q_cl, q_le, q_lt, q_eq, pk_mul, nI_add, q_sub, q_div, q_pos, q_neg, q_T, q_F, q_max0, q_flg1, q_flg0, q_min, q_min2, q_bit, q_some, q_in_0_127, q_in_0_1, q_in_0_2, q_in_0_3, q_in_0_4, q_in_0_5, q_in_0_9, q_in_0_10, q_in_0_20, q_in_1_20, q_in_48_57, q_in_97_122, q_inB, eb, q_win, v2]
    · refine ⟨-1, X, S, ?_, ?_, h⟩
      · simp (disch := omega) only [fX4_alter, lt, jn, q_lit, q_bnd, q_cl, q_le, q_lt, q_eq, pk_mul, nI_add, q_sub, q_div, q_pos, q_neg, q_T, q_F, q_max0, q_flg1, q_flg0, q_min, q_min2, q_bit, q_some, h1, j2]
      · simp (disch := omega) only [fX5_alter, lt, jn, q_lit, q_bnd, q_cl, q_le, q_lt, q_eq, pk_mul, nI_add, q_sub, q_div, q_pos, q_neg, q_T, q_F, q_max0, q_flg1, q_flg0, q_min, q_min2, q_bit, q_some, q_in_0_127, q_in_0_1, q_in_0_2, q_in_0_3, q_in_0_4, q_in_0_5, q_in_0_9, q_in_0_10, q_in_0_20, q_in_1_20, q_in_48_57, q_in_97_122, q_inB, eb, j2]
  · rw [h1] at eb
    refine ⟨-1, X, S, ?_, ?_, h⟩
    · simp (disch := omega) only [fX4_alter, lt, jn, q_lit, q_bnd, q_cl, q_le, q_lt, q_eq, pk_mul, nI_add, q_sub, q_div, q_pos, q_neg, q_T, q_F, q_max0, q_flg1, q_flg0, q_min, q_min2, q_bit, q_some, h1]
    · simp (disch := omega) only [fX5_alter, lt, jn, q_lit, q_bnd, q_cl, q_le, q_lt, q_eq, pk_mul, nI_add, q_sub, q_div, q_pos, q_neg, q_T, q_F, q_max0, q_flg1, q_flg0, q_min, q_min2, q_bit, q_some, eb]
