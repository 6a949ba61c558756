theorem t_isPart (x : Int32) : (∃ j, j < 2 ∧ x = nI j ∧ fX5_isPart x = some (nI 1) ∧ fX4_within x (nI 0) (nI 1) = some (nI 1)) ∨ ((∀ j, j < 2 → x ≠ nI j) ∧ fX5_isPart x = some (nI 0) ∧ fX4_within x (nI 0) (nI 1) = some (nI 0)) := by
  rcases q_within x (a := 0) (b := 1) (by omega) with ⟨j, h1, h2, rfl⟩ | ⟨h1, h2⟩
  · refine Or.inl ⟨j, by omega, rfl, ?_, q_win (by omega)⟩
    rw [m_isPart, q_win (by omega), q_some]
    exact q_zb true _
  · refine Or.inr ⟨fun j h3 => h1 j (by omega) (by omega), ?_, h2⟩
    rw [m_isPart, h2, q_some]
    exact q_zb false _
theorem m_set0 {S : M2} (y : Int32) : fX5_set (nI 0) y S = (fX4_within y (nI 0) (nI 3)).bind fun r8 => if r8 = 0 then some ((-1 : Int32), S) else (fX5_becomes (46 : Int32) y S).bind fun q11 => some (q11.1, q11.2) := by
  have e6 : fX5_isPart (nI 0) = some (nI 1) := by
    rw [m_isPart, q_win (by omega), q_some]
    exact q_zb true _
  unfold fX5_set jn
  rw [e6, q_some, if_neg (by decide : ¬ nI 1 = 0)]
  have e0 : nI 0 = 0 := rfl
  simp only [e0, if_true, lt]
  rw [q_in_0_3]
  rfl
theorem m_set1 {S : M2} (y : Int32) : fX5_set (nI 1) y S = (fX4_within y (nI 1) (nI 9)).bind fun r8 => if r8 = 0 then some ((-1 : Int32), S) else (fX5_becomes (47 : Int32) y S).bind fun q11 => some (q11.1, q11.2) := by
  have e6 : fX5_isPart (nI 1) = some (nI 1) := by
    rw [m_isPart, q_win (by omega), q_some]
    exact q_zb true _
  unfold fX5_set jn
  rw [e6, q_some, if_neg (by decide : ¬ nI 1 = 0)]
  have e0 : ¬ nI 1 = 0 := by decide
  simp only [e0, if_false, lt]
  rw [q_in_1_9]
theorem k_set {X : M3} {S : M2} (h : R X S) (w y : Int32) : ∃ a X' S', fX4_set w y X = some (a, X') ∧ fX5_set w y S = some (a, S') ∧ R X' S' := by
  obtain ⟨N, B, hW, hn, hC, hM, e3, e4, hN, hK⟩ := h.data
  obtain ⟨⟨m1, m2, m3, m4⟩, mr⟩ := id hM
  obtain ⟨⟨c0, c4, c7, c12, c13, c14, c15⟩, cr⟩ := id hC
  have w1 := hW.1
  rcases t_isPart w with ⟨j, j2, rfl, e6, e7⟩ | ⟨j1, e6, e7⟩
  · rcases (by omega : j = 0 ∨ j = 1) with rfl | rfl
    · rcases q_within y (a := 0) (b := 3) (by omega) with ⟨v, -, v2, rfl⟩ | ⟨-, v2⟩
      · refine ⟨nI (N 12 0), va_up X 2 (va_up (X 2) 12 (fun _ => nI v)), va_up S 0 (upd (S 0) 46 (nI v)), ?_, ?_, h.now (N' := va_up N 12 (fun _ => v)) hK e3 e4 rfl rfl ⟨⟨w1.1, w1.2.1, w1.2.2.1, v2, w1.2.2.2.2⟩, hW.2⟩ hn ⟨⟨c0, c4, c7, rfl, c13, c14, c15⟩, cr⟩ ?_ us0 (u62 (by omega))⟩
        · simp (disch := omega) only [fX4_set, lt, jn, q_lit, q_bnd, q_cl, q_le, q_lt, q_eq, pk_mul, nI_add, q_sub, q_div, q_pos, q_neg, q_T, q_F, q_max0, q_flg1, q_flg0, q_min, q_min2, q_bit, q_some, q_win, c12]
        · rw [m_set0]
          simp (disch := omega) only [fX5_becomes, lt, jn, q_lit, q_bnd, q_cl, q_le, q_lt, q_eq, pk_mul, nI_add, q_sub, q_div, q_pos, q_neg, q_T, q_F, q_max0, q_flg1, q_flg0, q_min, q_min2, q_bit, q_some, q_win, m1]
        · rw [q_up, if_pos rfl]
          refine ⟨⟨rfl, m2, m3, m4⟩, fun b hb => ?_, fun m hm => ?_, fun i hi => ?_, fun k hk i c hc => ?_⟩
          · have hb2 : b < N 0 0 := hb
            rw [q_ud, if_neg (by omega), q_ud, if_neg (by omega), q_ud, if_neg (by omega), q_ud, if_neg (by omega)]; exact mr.1 b hb
          · have hm2 : m < N 7 0 := hm
            rw [q_ud, if_neg (by omega), q_ud, if_neg (by omega), q_ud, if_neg (by omega), q_ud, if_neg (by omega)]; exact mr.2.1 m hm
          · rw [q_ud, if_neg (by omega), q_ud, if_neg (by omega)]; exact mr.2.2.1 i hi
          · have hc2 := hW.2.2.2.2.lt hk (List.mem_of_getElem? hc)
            rw [q_ud, if_neg (by omega), q_ud, if_neg (by omega)]; exact mr.2.2.2 k hk i c hc
      · refine ⟨-1, X, S, ?_, ?_, h⟩
        · simp (disch := omega) only [fX4_set, lt, jn, q_lit, q_bnd, q_cl, q_le, q_lt, q_eq, pk_mul, nI_add, q_sub, q_div, q_pos, q_neg, q_T, q_F, q_max0, q_flg1, q_flg0, q_min, q_min2, q_bit, q_some, v2]
        · rw [m_set0]
          simp (disch := omega) only [lt, jn, q_lit, q_bnd, q_cl, q_le, q_lt, q_eq, pk_mul, nI_add, q_sub, q_div, q_pos, q_neg, q_T, q_F, q_max0, q_flg1, q_flg0, q_min, q_min2, q_bit, q_some, v2]
    · rcases q_within y (a := 1) (b := 9) (by omega) with ⟨v, v1, v2, rfl⟩ | ⟨-, v2⟩
      · refine ⟨nI (N 13 0), va_up X 2 (va_up (X 2) 13 (fun _ => nI v)), va_up S 0 (upd (S 0) 47 (nI v)), ?_, ?_, h.now (N' := va_up N 13 (fun _ => v)) hK e3 e4 rfl rfl ⟨⟨w1.1, w1.2.1, w1.2.2.1, w1.2.2.2.1, v1, v2, w1.2.2.2.2.2.2⟩, hW.2⟩ hn ⟨⟨c0, c4, c7, c12, rfl, c14, c15⟩, cr⟩ ?_ us0 (u62 (by omega))⟩
        · simp (disch := omega) only [fX4_set, lt, jn, q_lit, q_bnd, q_cl, q_le, q_lt, q_eq, pk_mul, nI_add, q_sub, q_div, q_pos, q_neg, q_T, q_F, q_max0, q_flg1, q_flg0, q_min, q_min2, q_bit, q_some, q_win, c13]
        · rw [m_set1]
          simp (disch := omega) only [fX5_becomes, lt, jn, q_lit, q_bnd, q_cl, q_le, q_lt, q_eq, pk_mul, nI_add, q_sub, q_div, q_pos, q_neg, q_T, q_F, q_max0, q_flg1, q_flg0, q_min, q_min2, q_bit, q_some, q_win, m2]
        · rw [q_up, if_pos rfl]
          refine ⟨⟨m1, rfl, m3, m4⟩, fun b hb => ?_, fun m hm => ?_, fun i hi => ?_, fun k hk i c hc => ?_⟩
          · have hb2 : b < N 0 0 := hb
            rw [q_ud, if_neg (by omega), q_ud, if_neg (by omega), q_ud, if_neg (by omega), q_ud, if_neg (by omega)]; exact mr.1 b hb
          · have hm2 : m < N 7 0 := hm
            rw [q_ud, if_neg (by omega), q_ud, if_neg (by omega), q_ud, if_neg (by omega), q_ud, if_neg (by omega)]; exact mr.2.1 m hm
          · rw [q_ud, if_neg (by omega), q_ud, if_neg (by omega)]; exact mr.2.2.1 i hi
          · have hc2 := hW.2.2.2.2.lt hk (List.mem_of_getElem? hc)
            rw [q_ud, if_neg (by omega), q_ud, if_neg (by omega)]; exact mr.2.2.2 k hk i c hc
      · refine ⟨-1, X, S, ?_, ?_, h⟩
        · simp (disch := omega) only [fX4_set, lt, jn, q_lit, q_bnd, q_cl, q_le, q_lt, q_eq, pk_mul, nI_add, q_sub, q_div, q_pos, q_neg, q_T, q_F, q_max0, q_flg1, q_flg0, q_min, q_min2, q_bit, q_some, v2]
        · rw [m_set1]
          simp (disch := omega) only [lt, jn, q_lit, q_bnd, q_cl, q_le, q_lt, q_eq, pk_mul, nI_add, q_sub, q_div, q_pos, q_neg, q_T, q_F, q_max0, q_flg1, q_flg0, q_min, q_min2, q_bit, q_some, v2]
  · have x0 := j1 0 (by omega)
    have x1 := j1 1 (by omega)
    refine ⟨-1, X, S, ?_, ?_, h⟩
    · simp (disch := omega) only [fX4_set, lt, jn, q_lit, q_bnd, q_cl, q_le, q_lt, q_eq, pk_mul, nI_add, q_sub, q_div, q_pos, q_neg, q_T, q_F, q_max0, q_flg1, q_flg0, q_min, q_min2, q_bit, q_some, x0, x1]
    · simp (disch := omega) only [fX5_set, lt, jn, q_lit, q_bnd, q_cl, q_le, q_lt, q_eq, pk_mul, nI_add, q_sub, q_div, q_pos, q_neg, q_T, q_F, q_max0, q_flg1, q_flg0, q_min, q_min2, q_bit, q_some, e6]
theorem k_see {X : M3} {S : M2} (h : R X S) (x y : Int32) : ∃ a X' S', fX4_see x y X = some (a, X') ∧ fX5_see x y S = some (a, S') ∧ R X' S' := by
  obtain ⟨N, B, hW, hn, hC, hM, e3, e4, hN, hK⟩ := h.data
  obtain ⟨⟨m1, m2, m3, m4⟩, mr⟩ := id hM
  obtain ⟨⟨c0, c4, c7, c12, c13, c14, c15⟩, cr⟩ := id hC
  have w1 := hW.1
  have eb : fX5_isBolt x S = fX1_hasBolt x (X 2) := m_isBolt (e3.trans hC.1.1.symm) x
  rcases t_hasBolt hC.1.1 w1.1 x with ⟨b, hb, rfl, h1⟩ | ⟨-, h1⟩
  · rw [h1] at eb
    rcases q_within y (a := 0) (b := 9) (by omega) with ⟨v, -, v2, rfl⟩ | ⟨-, v2⟩
    · by_cases e : N 15 0 < 6
      · refine ⟨nI (N 15 0 + 1), va_up X 2 (va_up (va_up (va_up (X 2) 16 (upd (X 2 16) (N 15 0) (nI b))) 17 (upd (X 2 17) (N 15 0) (nI v))) 15 (fun _ => nI (N 15 0 + 1))), va_up S 0 (upd (upd (upd (S 0) (50 + 2 * N 15 0) (nI b)) (50 + 2 * N 15 0 + 1) (nI v)) 49 (nI (N 15 0 + 1))), ?_, ?_, h.now (N' := va_up (va_up (va_up N 16 (va_up (N 16) (N 15 0) b)) 17 (va_up (N 17) (N 15 0) v)) 15 (fun _ => N 15 0 + 1)) hK e3 e4 rfl rfl ⟨⟨w1.1, w1.2.1, w1.2.2.1, w1.2.2.2.1, w1.2.2.2.2.1, w1.2.2.2.2.2.1, (by show N 15 0 + 1 ≤ 6; omega)⟩, hW.2.1, hW.2.2.1, fun i hi => ?_, hW.2.2.2.2⟩ hn ⟨⟨c0, c4, c7, c12, c13, c14, rfl⟩, cr.1, cr.2.1, fun i hi => ?_, cr.2.2.2⟩ ?_ us0 (fun x hx => ?_)⟩
        · simp (disch := omega) only [fX4_see, lt, jn, q_lit, q_bnd, q_cl, q_le, q_lt, q_eq, pk_mul, nI_add, q_sub, q_div, q_pos, q_neg, q_T, q_F, q_max0, q_flg1, q_flg0, q_min, q_min2, q_bit, q_some, h1, q_win, c15, q_up, up_up]
        · simp (disch := omega) only [fX5_see, lt, jn, q_lit, q_bnd, q_cl, q_le, q_lt, q_eq, pk_mul, nI_add, q_sub, q_div, q_pos, q_neg, q_T, q_F, q_max0, q_flg1, q_flg0, q_min, q_min2, q_bit, q_some, q_in_0_127, q_in_0_1, q_in_0_2, q_in_0_3, q_in_0_4, q_in_0_5, q_in_0_9, q_in_0_10, q_in_0_20, q_in_1_20, q_in_48_57, q_in_97_122, q_inB, eb, q_win, m4, q_up, q_ud, up_up]
        · have hi2 : i < N 15 0 + 1 := hi
          show va_up (N 16) (N 15 0) b i < N 0 0 ∧ va_up (N 17) (N 15 0) v i ≤ 9
          rw [q_up, q_up]
          by_cases e5 : i = N 15 0
          · rw [if_pos e5, if_pos e5]
            exact ⟨hb, v2⟩
          · rw [if_neg e5, if_neg e5]
            exact hW.2.2.2.1 i (by omega)
        · have hi2 : i < N 15 0 + 1 := hi
          show upd (X 2 16) (N 15 0) (nI b) i = nI (va_up (N 16) (N 15 0) b i) ∧ upd (X 2 17) (N 15 0) (nI v) i = nI (va_up (N 17) (N 15 0) v i)
          rw [q_up, q_up, q_ud, q_ud]
          by_cases e5 : i = N 15 0
          · rw [if_pos e5, if_pos e5, if_pos e5, if_pos e5]
            exact ⟨rfl, rfl⟩
          · rw [if_neg e5, if_neg e5, if_neg e5, if_neg e5]
            exact cr.2.2.1 i (by omega)
        · rw [q_up, if_pos rfl]
          refine ⟨⟨?_, ?_, ?_, rfl⟩, fun b' hb => ⟨?_, ?_, ?_, ?_⟩, fun m hm => ⟨?_, ?_, ?_, ?_⟩, fun i hi => ⟨?_, ?_⟩, fun k hk i c hc => ⟨?_, ?_⟩⟩
          · simp (disch := omega) only [q_ud, q_neg]; exact m1
          · simp (disch := omega) only [q_ud, q_neg]; exact m2
          · simp (disch := omega) only [q_ud, q_neg]; exact m3
          · have hb2 : b' < N 0 0 := hb
            simp (disch := omega) only [q_ud, q_neg]; exact (mr.1 b' hb).1
          · have hb2 : b' < N 0 0 := hb
            simp (disch := omega) only [q_ud, q_neg]; exact (mr.1 b' hb).2.1
          · have hb2 : b' < N 0 0 := hb
            simp (disch := omega) only [q_ud, q_neg]; exact (mr.1 b' hb).2.2.1
          · have hb2 : b' < N 0 0 := hb
            simp (disch := omega) only [q_ud, q_neg]; exact (mr.1 b' hb).2.2.2
          · have hm2 : m < N 7 0 := hm
            simp (disch := omega) only [q_ud, q_neg]; exact (mr.2.1 m hm).1
          · have hm2 : m < N 7 0 := hm
            simp (disch := omega) only [q_ud, q_neg]; exact (mr.2.1 m hm).2.1
          · have hm2 : m < N 7 0 := hm
            simp (disch := omega) only [q_ud, q_neg]; exact (mr.2.1 m hm).2.2.1
          · have hm2 : m < N 7 0 := hm
            simp (disch := omega) only [q_ud, q_neg]; exact (mr.2.1 m hm).2.2.2
          · have hi2 : i < N 15 0 + 1 := hi
            show _ = nI (va_up (N 16) (N 15 0) b i)
            rw [q_up]
            by_cases e5 : i = N 15 0
            · rw [if_pos e5, e5]
              simp (disch := omega) only [q_ud, q_neg, q_T]
            · rw [if_neg e5]
              simp (disch := omega) only [q_ud, q_neg]; exact (mr.2.2.1 i (by omega)).1
          · have hi2 : i < N 15 0 + 1 := hi
            show _ = nI (va_up (N 17) (N 15 0) v i)
            rw [q_up]
            by_cases e5 : i = N 15 0
            · rw [if_pos e5, e5]
              simp (disch := omega) only [q_ud, q_neg, q_T]
            · rw [if_neg e5]
              simp (disch := omega) only [q_ud, q_neg]; exact (mr.2.2.1 i (by omega)).2
          · have hc2 := hW.2.2.2.2.lt hk (List.mem_of_getElem? hc)
            simp (disch := omega) only [q_ud, q_neg]; exact (mr.2.2.2 k hk i c hc).1
          · have hc2 := hW.2.2.2.2.lt hk (List.mem_of_getElem? hc)
            simp (disch := omega) only [q_ud, q_neg]; exact (mr.2.2.2 k hk i c hc).2
        · rw [q_up, if_pos rfl]
          simp (disch := omega) only [q_ud, q_neg]
      · refine ⟨-3, X, S, ?_, ?_, h⟩
        · simp (disch := omega) only [fX4_see, lt, jn, q_lit, q_bnd, q_cl, q_le, q_lt, q_eq, pk_mul, nI_add, q_sub, q_div, q_pos, q_neg, q_T, q_F, q_max0, q_flg1, q_flg0, q_min, q_min2, q_bit, q_some, h1, q_win, c15]
        · simp (disch := omega) only [fX5_see, lt, jn, q_lit, q_bnd, q_cl, q_le, q_lt, q_eq, pk_mul, nI_add, q_sub, q_div, q_pos, q_neg, q_T, q_F, q_max0, q_flg1, q_flg0, q_min, q_min2, q_bit, q_some, q_in_0_127, q_in_0_1, q_in_0_2, q_in_0_3, q_in_0_4, q_in_0_5, q_in_0_9, q_in_0_10, q_in_0_20, q_in_1_20, q_in_48_57, q_in_97_122, q_inB, eb, q_win, m4]
    · refine ⟨-1, X, S, ?_, ?_, h⟩
      · simp (disch := omega) only [fX4_see, lt, jn, q_lit, q_bnd, q_cl, q_le, q_lt, q_eq, pk_mul, nI_add, q_sub, q_div, q_pos, q_neg, q_T, q_F, q_max0, q_flg1, q_flg0, q_min, q_min2, q_bit, q_some, h1, v2]
      · simp (disch := omega) only [fX5_see, lt, jn, q_lit, q_bnd, q_cl, q_le, q_lt, q_eq, pk_mul, nI_add, q_sub, q_div, q_pos, q_neg, q_T, q_F, q_max0, q_flg1, q_flg0, q_min, q_min2, q_bit, q_some, q_in_0_127, q_in_0_1, q_in_0_2, q_in_0_3, q_in_0_4, q_in_0_5, q_in_0_9, q_in_0_10, q_in_0_20, q_in_1_20, q_in_48_57, q_in_97_122, q_inB, eb, v2]
  · rw [h1] at eb
    refine ⟨-1, X, S, ?_, ?_, h⟩
    · simp (disch := omega) only [fX4_see, lt, jn, q_lit, q_bnd, q_cl, q_le, q_lt, q_eq, pk_mul, nI_add, q_sub, q_div, q_pos, q_neg, q_T, q_F, q_max0, q_flg1, q_flg0, q_min, q_min2, q_bit, q_some, h1]
    · simp (disch := omega) only [fX5_see, lt, jn, q_lit, q_bnd, q_cl, q_le, q_lt, q_eq, pk_mul, nI_add, q_sub, q_div, q_pos, q_neg, q_T, q_F, q_max0, q_flg1, q_flg0, q_min, q_min2, q_bit, q_some, eb]
theorem k_forget {X : M3} {S : M2} (h : R X S) (x : Int32) : ∃ a X' S', fX4_forget x X = some (a, X') ∧ fX5_forget x S = some (a, S') ∧ R X' S' := by
  obtain ⟨N, B, hW, hn, hC, hM, e3, e4, hN, hK⟩ := h.data
  obtain ⟨⟨m1, m2, m3, m4⟩, mr⟩ := id hM
  obtain ⟨⟨c0, c4, c7, c12, c13, c14, c15⟩, cr⟩ := id hC
  have w1 := hW.1
  rcases q_within x (a := 0) (b := N 15 0) (by omega) with ⟨v, -, v2, rfl⟩ | ⟨-, v2⟩
  · refine ⟨nI (N 15 0), va_up X 2 (va_up (X 2) 15 (fun _ => nI v)), va_up S 0 (upd (S 0) 49 (nI v)), ?_, ?_, h.now (N' := va_up N 15 (fun _ => v)) hK e3 e4 rfl rfl ⟨⟨w1.1, w1.2.1, w1.2.2.1, w1.2.2.2.1, w1.2.2.2.2.1, w1.2.2.2.2.2.1, (by show v ≤ 6; omega)⟩, hW.2.1, hW.2.2.1, fun i hi => hW.2.2.2.1 i (Nat.lt_of_lt_of_le hi v2), hW.2.2.2.2⟩ hn ⟨⟨c0, c4, c7, c12, c13, c14, rfl⟩, cr.1, cr.2.1, fun i hi => cr.2.2.1 i (Nat.lt_of_lt_of_le hi v2), cr.2.2.2⟩ ?_ us0 (u62 (by omega))⟩
    · simp (disch := omega) only [fX4_forget, lt, jn, q_lit, q_bnd, q_cl, q_le, q_lt, q_eq, pk_mul, nI_add, q_sub, q_div, q_pos, q_neg, q_T, q_F, q_max0, q_flg1, q_flg0, q_min, q_min2, q_bit, q_some, c15, q_win]
    · simp (disch := omega) only [fX5_forget, fX5_becomes, lt, jn, q_lit, q_bnd, q_cl, q_le, q_lt, q_eq, pk_mul, nI_add, q_sub, q_div, q_pos, q_neg, q_T, q_F, q_max0, q_flg1, q_flg0, q_min, q_min2, q_bit, q_some, q_in_0_127, q_in_0_1, q_in_0_2, q_in_0_3, q_in_0_4, q_in_0_5, q_in_0_9, q_in_0_10, q_in_0_20, q_in_1_20, q_in_48_57, q_in_97_122, q_inB, m4, q_win]
    · rw [q_up, if_pos rfl]
      refine ⟨⟨m1, m2, m3, rfl⟩, fun b hb => ?_, fun m hm => ?_, fun i hi => ?_, fun k hk i c hc => ?_⟩
      · have hb2 : b < N 0 0 := hb
        rw [q_ud, if_neg (by omega), q_ud, if_neg (by omega), q_ud, if_neg (by omega), q_ud, if_neg (by omega)]; exact mr.1 b hb
      · have hm2 : m < N 7 0 := hm
        rw [q_ud, if_neg (by omega), q_ud, if_neg (by omega), q_ud, if_neg (by omega), q_ud, if_neg (by omega)]; exact mr.2.1 m hm
      · rw [q_ud, if_neg (by omega), q_ud, if_neg (by omega)]; exact mr.2.2.1 i (Nat.lt_of_lt_of_le hi v2)
      · have hc2 := hW.2.2.2.2.lt hk (List.mem_of_getElem? hc)
        rw [q_ud, if_neg (by omega), q_ud, if_neg (by omega)]; exact mr.2.2.2 k hk i c hc
  · refine ⟨-1, X, S, ?_, ?_, h⟩
    · simp (disch := omega) only [fX4_forget, lt, jn, q_lit, q_bnd, q_cl, q_le, q_lt, q_eq, pk_mul, nI_add, q_sub, q_div, q_pos, q_neg, q_T, q_F, q_max0, q_flg1, q_flg0, q_min, q_min2, q_bit, q_some, c15, v2]
    · simp (disch := omega) only [fX5_forget, lt, jn, q_lit, q_bnd, q_cl, q_le, q_lt, q_eq, pk_mul, nI_add, q_sub, q_div, q_pos, q_neg, q_T, q_F, q_max0, q_flg1, q_flg0, q_min, q_min2, q_bit, q_some, q_in_0_127, q_in_0_1, q_in_0_2, q_in_0_3, q_in_0_4, q_in_0_5, q_in_0_9, q_in_0_10, q_in_0_20, q_in_1_20, q_in_48_57, q_in_97_122, q_inB, m4, v2]
