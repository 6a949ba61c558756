/-! the draft in class and model, and a line that is taken -/
def HI (cam : Nat) (x : Int32) : Prop := (cam = 0 ∧ x = -nI 4) ∨ ∃ g, g ≤ 4 ∧ x = nI g ∧ cam.testBit g = true ∧ cam < 2 ^ (g + 1)
def DR (N : NN) (B : BB) (cam mo ra : Nat) (t9 t10 : Int32) (Sd W : M2) : Prop := WF N B ∧ (N 4 0 = 0 ∧ N 14 0 = 0 ∧ N 15 0 = 0) ∧ CS (va_up N 4 (fun _ => cam)) B Sd ∧ MS N B (W 5) ∧ (W 6 0 = nI (N 0 0) ∧ W 7 0 = nI (N 7 0)) ∧ (cam < 32 ∧ W 9 0 = nI cam ∧ HI cam (W 10 0)) ∧ (mo ≤ 1 ∧ ra ≤ 1 ∧ t9 = nI mo ∧ t10 = nI ra ∧ W 8 0 = nI (64 * mo + 128 * ra)) ∧ ∀ b, N 0 0 ≤ b → b < 5 → W 5 (6 * b + 2) = nI 0 ∧ W 5 (6 * b + 3) = nI 0
def DX (T Sd W : M2) : Prop := ∃ N B cam mo ra, DR N B cam mo ra (T 9 0) (T 10 0) Sd W
/-- only the row 5 to 10 of the model's state count -/
theorem DR.w {N : NN} {B : BB} {cam mo ra : Nat} {t9 t10 : Int32} {Sd W W' : M2} (h : DR N B cam mo ra t9 t10 Sd W) (e : ∀ j, 5 ≤ j → j ≤ 10 → W' j = W j) : DR N B cam mo ra t9 t10 Sd W' := by
  unfold DR at h ⊢
  rw [e 5 (by omega) (by omega), e 6 (by omega) (by omega), e 7 (by omega) (by omega), e 8 (by omega) (by omega), e 9 (by omega) (by omega), e 10 (by omega) (by omega)]
  exact h
def LG (k n p : Nat) (T S29 Sd : M2) : Prop := ∃ T' Sd' W p', crest (nI k) T Sd = some (nI 1, (T', Sd')) ∧ mrest (nI k) S29 = fX5_next W ∧ T' 5 0 = nI p' ∧ W 13 0 = nI p' ∧ p < p' ∧ p' ≤ n ∧ T' 2 0 = nI 0 ∧ W 17 0 = nI 0 ∧ T' 0 = T 0 ∧ T' 1 = T 1 ∧ MF S29 W ∧ DX T' Sd' W
/-- a bolt -/
theorem l_bolt {c : Nat → Nat} {n p cam mo ra : Nat} {N : NN} {B : BB} {T S29 Sd : M2} (h : TB c n T S29) (hp : p ≤ n) (t2 : T 2 0 = nI 0) (s17 : S29 17 0 = nI 0) (t5 : T 5 0 = nI p) (s13 : S29 13 0 = nI p) (hD : DR N B cam mo ra (T 9 0) (T 10 0) Sd S29) (hn : N 0 0 < 5) : LG 4 n p T S29 Sd ∨ BO 4 T S29 Sd := by
  obtain ⟨hW, ⟨n4, n14, n15⟩, hC, hM, ⟨h6, h7⟩, ⟨hc, h9, h10⟩, ⟨x1, x2, x3, x4, h8⟩, hz⟩ := hD
  have hb := fun (S : M2) (hS : ∀ j, j = 6 ∨ j = 7 → S j = S29 j) => (show S 6 0 = nI (N 0 0) by rw [hS 6 (by omega)]; exact h6)
  rcases three (k := 4) (Sd := Sd) (fun S => S) (fun a S => va_up S 5 (upd (S 5) (6 * N 0 0) a)) (fun a S => va_up S 5 (upd (S 5) (6 * N 0 0 + 1) a)) (fun a3 S8 => va_up (va_up (va_up S8 5 (upd (S8 5) (6 * N 0 0 + 4) a3)) 5 (upd (upd (S8 5) (6 * N 0 0 + 4) a3) (6 * N 0 0 + 5) (nI (spSum (fun c => (decide ((upd (S8 5) (6 * N 0 0 + 4) a3) (6 * c + 4) = (upd (S8 5) (6 * N 0 0 + 4) a3) (6 * N 0 0 + 4))).toNat) (N 0 0))))) 6 (fun _ => nI (N 0 0 + 1))) (by omega) h hp t2 s17 t5 s13 (fun S j hj => rfl) (fun a S j hj => by rw [q_up, if_neg hj]) (fun a S j hj => by rw [q_up, if_neg hj]) (fun a S j h5 h6 h7 => by rw [q_up, if_neg h6, q_up, if_neg h5, q_up, if_neg h5]) (fun S S1 S2 S4 S5 S7 S8 a1 a2 a3 hj l1 n1 l2 n2 l3 n3 hj8 => by
    have := bolt_chain hn (hb S hj) l1 n1 l2 n2 l3 n3 (hb S8 hj8)
    simp (disch := omega) only [fX5_readLineOf, lt, jn, q_lit, q_bnd, q_cl, q_le, q_lt, q_eq, pk_mul, nI_add, q_sub, q_div, q_pos, q_neg, q_T, q_F, q_max0, q_flg1, q_flg0, q_min, q_min2, q_bit, q_some, this]) with ⟨T27, S8, S5, S2, S31, v1, v2, v3, p', a1, a2, a3, b1, b2, b3, b4, b5, b6, ⟨b7, b8, b9, b10⟩, b11, b12, b13, b14, b15, b16, e8, e5, e2, e31⟩ | hbad
  · obtain ⟨Sd', d1, d2⟩ := t_addBolt (a := v1) (s := v2) (k := v3) hC hW.2.2.2.2 hn (by omega)
    have r8 : S8 5 = upd (upd (S29 5) (6 * N 0 0) (nI v1)) (6 * N 0 0 + 1) (nI v2) := by
      rw [e8]
      show upd (S5 5) (6 * N 0 0 + 1) (nI v2) = _
      rw [e5]
      show upd (upd (S2 5) (6 * N 0 0) (nI v1)) (6 * N 0 0 + 1) (nI v2) = _
      rw [e2, e31]
    have hcnt : spSum (fun c => (decide ((upd (S8 5) (6 * N 0 0 + 4) (nI v3)) (6 * c + 4) = (upd (S8 5) (6 * N 0 0 + 4) (nI v3)) (6 * N 0 0 + 4))).toNat) (N 0 0) = (B v3).length := ms_cnt hM hW.2.2.2.2 (by omega) (by rw [q_ud, if_pos rfl]) fun x hx => by
      rw [q_ud, if_neg (by omega), r8, q_ud, if_neg (by omega), q_ud, if_neg (by omega)]
    refine Or.inl ⟨T27, Sd', _, p', ?_, b2, b12, b13, b14, b15, b6, b11, b7, b8, ?_, spAdd N v1 v2, spBot B v3 (N 0 0), cam, mo, ra, hW.add hn (by omega) a1 a2, ⟨n4, n14, n15⟩, d2, ?_, ⟨rfl, ?_⟩, ⟨hc, ?_, ?_⟩, ⟨x1, x2, ?_, ?_, ?_⟩, ?_⟩
    · rw [b1]
      simp (disch := omega) only [fX3_take, lt, jn, q_lit, q_bnd, q_cl, q_le, q_lt, q_eq, pk_mul, nI_add, q_sub, q_div, q_pos, q_neg, q_T, q_F, q_max0, q_flg1, q_flg0, q_min, q_min2, q_bit, q_some, b3, b4, b5, d1]
    · exact MF.trans (fun j hj => b16 j (by omega) (by omega)) (MF.of57 fun j g5 g6 g7 => by rw [q_up, if_neg g6, q_up, if_neg g5, q_up, if_neg g5])
    · show MS _ _ (upd (upd (S8 5) (6 * N 0 0 + 4) (nI v3)) (6 * N 0 0 + 5) _)
      rw [hcnt]
      have z := hz (N 0 0) (by omega) hn
      refine hM.add hW.2.2.2.2 hn n4 hW.1.2.1 (by omega) (by omega) ?_ ?_ ?_ ?_ ?_ ?_ fun x hx => ?_
      · rw [q_ud, if_neg (by omega), q_ud, if_neg (by omega), r8, q_ud, if_neg (by omega), q_ud, if_pos rfl]
      · rw [q_ud, if_neg (by omega), q_ud, if_neg (by omega), r8, q_ud, if_pos rfl]
      · rw [q_ud, if_neg (by omega), q_ud, if_neg (by omega), r8, q_ud, if_neg (by omega), q_ud, if_neg (by omega)]
        exact z.1
      · rw [q_ud, if_neg (by omega), q_ud, if_neg (by omega), r8, q_ud, if_neg (by omega), q_ud, if_neg (by omega)]
        exact z.2
      · rw [q_ud, if_neg (by omega), q_ud, if_pos rfl]
      · rw [q_ud, if_pos rfl]
      · rw [q_ud, if_neg (by omega), q_ud, if_neg (by omega), r8, q_ud, if_neg (by omega), q_ud, if_neg (by omega)]
    · show S8 7 0 = _
      rw [b16 7 (by omega) (by omega)]
      exact h7
    · show S8 9 0 = _
      rw [b16 9 (by omega) (by omega)]
      exact h9
    · show HI cam (S8 10 0)
      rw [b16 10 (by omega) (by omega)]
      exact h10
    · rw [b9]
      exact x3
    · rw [b10]
      exact x4
    · show S8 8 0 = _
      rw [b16 8 (by omega) (by omega)]
      exact h8
    · intro b hb1 hb2
      have hb1' : N 0 0 + 1 ≤ b := hb1
      have z := hz b (by omega) hb2
      show upd (upd (S8 5) (6 * N 0 0 + 4) (nI v3)) (6 * N 0 0 + 5) _ (6 * b + 2) = nI 0 ∧ upd (upd (S8 5) (6 * N 0 0 + 4) (nI v3)) (6 * N 0 0 + 5) _ (6 * b + 3) = nI 0
      rw [r8]
      refine ⟨?_, ?_⟩
      · rw [q_ud, if_neg (by omega), q_ud, if_neg (by omega), q_ud, if_neg (by omega), q_ud, if_neg (by omega)]
        exact z.1
      · rw [q_ud, if_neg (by omega), q_ud, if_neg (by omega), q_ud, if_neg (by omega), q_ud, if_neg (by omega)]
        exact z.2
  · exact Or.inr hbad
/-- a moth -/
theorem l_moth {c : Nat → Nat} {n p k cam mo ra : Nat} {N : NN} {B : BB} {T S29 Sd : M2} (hk : k ≤ 3) (h : TB c n T S29) (hp : p ≤ n) (t2 : T 2 0 = nI 0) (s17 : S29 17 0 = nI 0) (t5 : T 5 0 = nI p) (s13 : S29 13 0 = nI p) (hD : DR N B cam mo ra (T 9 0) (T 10 0) Sd S29) (hn : N 7 0 < 4) : LG k n p T S29 Sd ∨ BO k T S29 Sd := by
  obtain ⟨hW, ⟨n4, n14, n15⟩, hC, hM, ⟨h6, h7⟩, ⟨hc, h9, h10⟩, ⟨x1, x2, x3, x4, h8⟩, hz⟩ := hD
  have w1 := hW.1
  have hb := fun (S : M2) (hS : ∀ j, j = 6 ∨ j = 7 → S j = S29 j) => (show S 7 0 = nI (N 7 0) by rw [hS 7 (by omega)]; exact h7)
  rcases three (k := k) (Sd := Sd) (fun S => va_up S 5 (upd (S 5) (30 + 4 * N 7 0) (nI k))) (fun a S => va_up S 5 (upd (S 5) (30 + 4 * N 7 0 + 1) a)) (fun a S => va_up S 5 (upd (S 5) (30 + 4 * N 7 0 + 2) a)) (fun a3 S8 => va_up (va_up S8 5 (upd (S8 5) (30 + 4 * N 7 0 + 3) a3)) 7 (fun _ => nI (N 7 0 + 1))) (by omega) h hp t2 s17 t5 s13 (fun S j hj => by rw [q_up, if_neg hj]) (fun a S j hj => by rw [q_up, if_neg hj]) (fun a S j hj => by rw [q_up, if_neg hj]) (fun a S j h5 h6 h7 => by rw [q_up, if_neg h7, q_up, if_neg h5]) (fun S S1 S2 S4 S5 S7 S8 a1 a2 a3 hj l1 n1 l2 n2 l3 n3 hj8 => by
    have := moth_chain hn (hb S hj) l1 n1 l2 n2 l3 n3 (hb S8 hj8)
    simp (disch := omega) only [fX5_readLineOf, lt, jn, q_lit, q_bnd, q_cl, q_le, q_lt, q_eq, pk_mul, nI_add, q_sub, q_div, q_pos, q_neg, q_T, q_F, q_max0, q_flg1, q_flg0, q_min, q_min2, q_bit, q_some, this]) with ⟨T27, S8, S5, S2, S31, v1, v2, v3, p', a1, a2, a3, b1, b2, b3, b4, b5, b6, ⟨b7, b8, b9, b10⟩, b11, b12, b13, b14, b15, b16, e8, e5, e2, e31⟩ | hbad
  · obtain ⟨Sd', d1, d2⟩ := t_addMoth (kd := k) (t := v1) (g := v2) (a := v3) hC hn
    have r8 : S8 5 = upd (upd (upd (S29 5) (30 + 4 * N 7 0) (nI k)) (30 + 4 * N 7 0 + 1) (nI v1)) (30 + 4 * N 7 0 + 2) (nI v2) := by
      rw [e8]
      show upd (S5 5) (30 + 4 * N 7 0 + 2) (nI v2) = _
      rw [e5]
      show upd (upd (S2 5) (30 + 4 * N 7 0 + 1) (nI v1)) (30 + 4 * N 7 0 + 2) (nI v2) = _
      rw [e2]
      show upd (upd (upd (S31 5) (30 + 4 * N 7 0) (nI k)) (30 + 4 * N 7 0 + 1) (nI v1)) (30 + 4 * N 7 0 + 2) (nI v2) = _
      rw [e31]
    refine Or.inl ⟨T27, Sd', _, p', ?_, b2, b12, b13, b14, b15, b6, b11, b7, b8, ?_, spMo N k v1 v2 v3, B, cam, mo, ra, hW.mo hn hk a1 a2 a3, ⟨n4, n14, n15⟩, d2, ?_, ⟨?_, rfl⟩, ⟨hc, ?_, ?_⟩, ⟨x1, x2, ?_, ?_, ?_⟩, ?_⟩
    · rw [b1]
      simp (disch := omega) only [fX3_take, lt, jn, q_lit, q_bnd, q_cl, q_le, q_lt, q_eq, pk_mul, nI_add, q_sub, q_div, q_pos, q_neg, q_T, q_F, q_max0, q_flg1, q_flg0, q_min, q_min2, q_bit, q_some, b3, b4, b5, d1]
    · exact MF.trans (fun j hj => b16 j (by omega) (by omega)) (MF.of57 fun j g5 g6 g7 => by rw [q_up, if_neg g7, q_up, if_neg g5])
    · show MS _ _ (upd (S8 5) (30 + 4 * N 7 0 + 3) (nI v3))
      refine hM.mo hW.2.2.2.2 w1.1 hn (by omega) ?_ ?_ ?_ ?_ fun x hx => ?_
      · rw [q_ud, if_neg (by omega), r8, q_ud, if_neg (by omega), q_ud, if_neg (by omega), q_ud, if_pos rfl]
      · rw [q_ud, if_neg (by omega), r8, q_ud, if_neg (by omega), q_ud, if_pos rfl]
      · rw [q_ud, if_neg (by omega), r8, q_ud, if_pos rfl]
      · rw [q_ud, if_pos rfl]
      · rw [q_ud, if_neg (by omega), r8, q_ud, if_neg (by omega), q_ud, if_neg (by omega), q_ud, if_neg (by omega)]
    · show S8 6 0 = _
      rw [b16 6 (by omega) (by omega)]
      exact h6
    · show S8 9 0 = _
      rw [b16 9 (by omega) (by omega)]
      exact h9
    · show HI cam (S8 10 0)
      rw [b16 10 (by omega) (by omega)]
      exact h10
    · rw [b9]
      exact x3
    · rw [b10]
      exact x4
    · show S8 8 0 = _
      rw [b16 8 (by omega) (by omega)]
      exact h8
    · intro b hb1 hb2
      have z := hz b hb1 hb2
      show upd (S8 5) (30 + 4 * N 7 0 + 3) (nI v3) (6 * b + 2) = nI 0 ∧ upd (S8 5) (30 + 4 * N 7 0 + 3) (nI v3) (6 * b + 3) = nI 0
      rw [r8]
      refine ⟨?_, ?_⟩
      · rw [q_ud, if_neg (by omega), q_ud, if_neg (by omega), q_ud, if_neg (by omega), q_ud, if_neg (by omega)]
        exact z.1
      · rw [q_ud, if_neg (by omega), q_ud, if_neg (by omega), q_ud, if_neg (by omega), q_ud, if_neg (by omega)]
        exact z.2
  · exact Or.inr hbad
theorem HI.or {cam v : Nat} {x : Int32} (h : HI cam x) (hc : cam < 32) (hv : v ≤ 4) : cam ||| 2 ^ v < 32 ∧ HI (cam ||| 2 ^ v) (if nI v ≤ x then x else nI v) := by
  have h2 : 2 ^ v < 2 ^ 5 := Nat.pow_lt_pow_right (by decide) (by omega)
  refine ⟨Nat.or_lt_two_pow (n := 5) hc h2, ?_⟩
  rcases h with ⟨rfl, rfl⟩ | ⟨g, g1, rfl, g2, g3⟩
  · have e : ¬ nI v ≤ -nI 4 := by
      rcases (by omega : v = 0 ∨ v = 1 ∨ v = 2 ∨ v = 3 ∨ v = 4) with rfl | rfl | rfl | rfl | rfl <;> decide
    rw [if_neg e, Nat.zero_or]
    refine Or.inr ⟨v, hv, rfl, ?_, Nat.pow_lt_pow_right (by decide) (by omega)⟩
    rw [Nat.testBit_two_pow]
    simp
  · by_cases e : v ≤ g
    · rw [if_pos ((q_le (by omega)).mpr e)]
      refine Or.inr ⟨g, g1, rfl, ?_, Nat.or_lt_two_pow g3 (Nat.pow_lt_pow_right (by decide) (by omega))⟩
      rw [Nat.testBit_or, g2]
      rfl
    · rw [if_neg (by rw [q_le (by omega)]; exact e)]
      refine Or.inr ⟨v, hv, rfl, ?_, Nat.or_lt_two_pow (Nat.lt_of_lt_of_le g3 (Nat.pow_le_pow_right (by decide) (by omega))) (Nat.pow_lt_pow_right (by decide) (by omega))⟩
      rw [Nat.testBit_or, Nat.testBit_two_pow]
      simp
theorem l_camph {c : Nat → Nat} {n p cam mo ra : Nat} {N : NN} {B : BB} {T S29 Sd : M2} (h : TB c n T S29) (hp : p ≤ n) (t2 : T 2 0 = nI 0) (s17 : S29 17 0 = nI 0) (t5 : T 5 0 = nI p) (s13 : S29 13 0 = nI p) (hD : DR N B cam mo ra (T 9 0) (T 10 0) Sd S29) : LG 5 n p T S29 Sd ∨ BO 5 T S29 Sd := by
  obtain ⟨hW, ⟨n4, n14, n15⟩, hC, hM, ⟨h6, h7⟩, ⟨hc, h9, h10⟩, ⟨x1, x2, x3, x4, h8⟩, hz⟩ := hD
  rcases camph h hp t2 s17 t5 s13 hc h9 (show Sd 4 0 = nI cam from hC.1.2.1) with ⟨T27, W, v, p', a1, b1, b2, b6, ⟨b7, b8, b9, b10⟩, b11, b12, b13, b14, b15, w9, w10, b16⟩ | hbad
  · have hh := h10.or hc a1
    refine Or.inl ⟨T27, _, W, p', b1, b2, b12, b13, b14, b15, b6, b11, b7, b8, fun j hj => b16 j (by omega) (by omega) (by omega), N, B, cam ||| 2 ^ v, mo, ra, hW, ⟨n4, n14, n15⟩, ?_, ?_, ⟨?_, ?_⟩, ⟨hh.1, w9, ?_⟩, ⟨x1, x2, ?_, ?_, ?_⟩, ?_⟩
    · exact hC.cam (cam ||| 2 ^ v)
    · rw [b16 5 (by omega) (by omega) (by omega)]
      exact hM
    · rw [b16 6 (by omega) (by omega) (by omega)]
      exact h6
    · rw [b16 7 (by omega) (by omega) (by omega)]
      exact h7
    · rw [w10]
      exact hh.2
    · rw [b9]
      exact x3
    · rw [b10]
      exact x4
    · rw [b16 8 (by omega) (by omega) (by omega)]
      exact h8
    · rw [b16 5 (by omega) (by omega) (by omega)]
      exact hz
  · exact Or.inr hbad
theorem MS.moon {N : NN} {B : BB} {r : Nat → Int32} (h : MS N B r) (hW : WF N B) (v : Nat) : MS (va_up N 12 (fun _ => v)) B (upd r 46 (nI v)) := by
  obtain ⟨⟨a1, a2, a3, a4⟩, h2, h3, h4, h5⟩ := h
  have w1 := hW.1
  refine ⟨⟨?_, ?_, ?_, ?_⟩, fun b hb => ?_, fun m hm => ?_, fun i hi => ?_, fun k hk i b hb => ?_⟩
  · rw [q_ud, if_pos rfl]; rfl
  · rw [q_ud, if_neg (by omega)]; exact a2
  · rw [q_ud, if_neg (by omega)]; exact a3
  · rw [q_ud, if_neg (by omega)]; exact a4
  · have hb' : b < N 0 0 := hb
    rw [q_ud, if_neg (by omega), q_ud, if_neg (by omega), q_ud, if_neg (by omega), q_ud, if_neg (by omega)]
    exact h2 b hb
  · have hm' : m < N 7 0 := hm
    rw [q_ud, if_neg (by omega), q_ud, if_neg (by omega), q_ud, if_neg (by omega), q_ud, if_neg (by omega)]
    exact h3 m hm
  · rw [q_ud, if_neg (by omega), q_ud, if_neg (by omega)]
    exact h4 i hi
  · have hl := hW.2.2.2.2.lt hk (List.mem_of_getElem? hb)
    rw [q_ud, if_neg (by omega), q_ud, if_neg (by omega)]
    exact h5 k hk i b hb
theorem MS.rate {N : NN} {B : BB} {r : Nat → Int32} (h : MS N B r) (hW : WF N B) (v : Nat) : MS (va_up N 13 (fun _ => v)) B (upd r 47 (nI v)) := by
  obtain ⟨⟨a1, a2, a3, a4⟩, h2, h3, h4, h5⟩ := h
  have w1 := hW.1
  refine ⟨⟨?_, ?_, ?_, ?_⟩, fun b hb => ?_, fun m hm => ?_, fun i hi => ?_, fun k hk i b hb => ?_⟩
  · rw [q_ud, if_neg (by omega)]; exact a1
  · rw [q_ud, if_pos rfl]; rfl
  · rw [q_ud, if_neg (by omega)]; exact a3
  · rw [q_ud, if_neg (by omega)]; exact a4
  · have hb' : b < N 0 0 := hb
    rw [q_ud, if_neg (by omega), q_ud, if_neg (by omega), q_ud, if_neg (by omega), q_ud, if_neg (by omega)]
    exact h2 b hb
  · have hm' : m < N 7 0 := hm
    rw [q_ud, if_neg (by omega), q_ud, if_neg (by omega), q_ud, if_neg (by omega), q_ud, if_neg (by omega)]
    exact h3 m hm
  · rw [q_ud, if_neg (by omega), q_ud, if_neg (by omega)]
    exact h4 i hi
  · have hl := hW.2.2.2.2.lt hk (List.mem_of_getElem? hb)
    rw [q_ud, if_neg (by omega), q_ud, if_neg (by omega)]
    exact h5 k hk i b hb
theorem l_moon {c : Nat → Nat} {n p cam ra : Nat} {N : NN} {B : BB} {T S29 Sd : M2} (h : TB c n T S29) (hp : p ≤ n) (t2 : T 2 0 = nI 0) (s17 : S29 17 0 = nI 0) (t5 : T 5 0 = nI p) (s13 : S29 13 0 = nI p) (h29 : S29 8 0 = nI (64 + 128 * ra)) (hD : DR N B cam 0 ra (T 9 0) (T 10 0) Sd (va_up S29 8 (fun _ => nI (64 * 0 + 128 * ra)))) : LG 6 n p T S29 Sd ∨ BO 6 T S29 Sd := by
  obtain ⟨hW, ⟨n4, n14, n15⟩, hC, hM, ⟨h6, h7⟩, ⟨hc, h9, h10⟩, ⟨x1, x2, x3, x4, h8⟩, hz⟩ := hD
  have w1 := hW.1
  rcases one (k := 6) (Sd := Sd) (fun a S => va_up S 5 (upd (S 5) 46 a)) (by omega) h hp t2 s17 t5 s13 (fun a S j hj => by rw [q_up, if_neg hj]) (fun S S1 S2 a l1 n1 => by
    have l1' : fX5_looked (nI 0) (nI 3) S = some (a, S1) := l1
    unfold fX5_readLineOf fX5_readNumber
    simp (disch := omega) only [lt, jn, q_lit, q_bnd, q_cl, q_le, q_lt, q_eq, pk_mul, nI_add, q_sub, q_div, q_pos, q_neg, q_T, q_F, q_max0, q_flg1, q_flg0, q_min, q_min2, q_bit, q_some, l1', n1]) with ⟨T27, S2, v, p', a0, a1, b1, b2, b3, b6, ⟨b7, b8, b9, b10⟩, b11, b12, b13, b14, b15, b16⟩ | hbad
  · have av : v ≤ 3 := a1
    have e5 : S2 5 = S29 5 := b16 5 (by omega)
    refine Or.inl ⟨va_up T27 9 (fun _ => nI 1), va_up Sd 12 (fun _ => nI v), _, p', ?_, b2, b12, b13, b14, b15, b6, b11, b7, b8, ?_, va_up N 12 (fun _ => v), B, cam, 1, ra, ?_, ⟨n4, n14, n15⟩, ?_, ?_, ⟨?_, ?_⟩, ⟨hc, ?_, ?_⟩, ⟨by omega, x2, rfl, ?_, ?_⟩, ?_⟩
    · rw [b1]
      simp (disch := omega) only [fX3_take, lt, jn, q_lit, q_bnd, q_cl, q_le, q_lt, q_eq, pk_mul, nI_add, q_sub, q_div, q_pos, q_neg, q_T, q_F, q_max0, q_flg1, q_flg0, q_min, q_min2, q_bit, q_some, b3]
    · exact MF.trans (fun j hj => b16 j (by omega)) (MF.of5 fun j g5 => by rw [q_up, if_neg g5])
    · refine ⟨⟨w1.1, w1.2.1, w1.2.2.1, av, w1.2.2.2.2⟩, hW.2.1, hW.2.2.1, hW.2.2.2.1, hW.2.2.2.2⟩
    · obtain ⟨⟨c0, c4, c7, c12, c13, c14, c15⟩, g2, g3, g4, g5⟩ := hC
      exact ⟨⟨c0, c4, c7, rfl, c13, c14, c15⟩, g2, g3, g4, g5⟩
    · show MS _ B (upd (S2 5) 46 (nI v))
      rw [e5]
      exact MS.moon hM hW v
    · show S2 6 0 = _
      rw [b16 6 (by omega)]
      exact h6
    · show S2 7 0 = _
      rw [b16 7 (by omega)]
      exact h7
    · show S2 9 0 = _
      rw [b16 9 (by omega)]
      exact h9
    · show HI cam (S2 10 0)
      rw [b16 10 (by omega)]
      exact h10
    · show T27 10 0 = _
      rw [b10]
      exact x4
    · show S2 8 0 = _
      rw [b16 8 (by omega)]
      exact h29
    · intro b hb1 hb2
      have z := hz b hb1 hb2
      show upd (S2 5) 46 (nI v) (6 * b + 2) = nI 0 ∧ upd (S2 5) 46 (nI v) (6 * b + 3) = nI 0
      rw [q_ud, if_neg (by omega), q_ud, if_neg (by omega), e5]
      exact z
  · exact Or.inr hbad
theorem l_rate {c : Nat → Nat} {n p cam mo : Nat} {N : NN} {B : BB} {T S29 Sd : M2} (h : TB c n T S29) (hp : p ≤ n) (t2 : T 2 0 = nI 0) (s17 : S29 17 0 = nI 0) (t5 : T 5 0 = nI p) (s13 : S29 13 0 = nI p) (h29 : S29 8 0 = nI (64 * mo + 128)) (hD : DR N B cam mo 0 (T 9 0) (T 10 0) Sd (va_up S29 8 (fun _ => nI (64 * mo + 128 * 0)))) : LG 7 n p T S29 Sd ∨ BO 7 T S29 Sd := by
  obtain ⟨hW, ⟨n4, n14, n15⟩, hC, hM, ⟨h6, h7⟩, ⟨hc, h9, h10⟩, ⟨x1, x2, x3, x4, h8⟩, hz⟩ := hD
  have w1 := hW.1
  rcases one (k := 7) (Sd := Sd) (fun a S => va_up S 5 (upd (S 5) 47 a)) (by omega) h hp t2 s17 t5 s13 (fun a S j hj => by rw [q_up, if_neg hj]) (fun S S1 S2 a l1 n1 => by
    have l1' : fX5_looked (nI 1) (nI 9) S = some (a, S1) := l1
    unfold fX5_readLineOf fX5_readNumber
    simp (disch := omega) only [lt, jn, q_lit, q_bnd, q_cl, q_le, q_lt, q_eq, pk_mul, nI_add, q_sub, q_div, q_pos, q_neg, q_T, q_F, q_max0, q_flg1, q_flg0, q_min, q_min2, q_bit, q_some, l1', n1]) with ⟨T27, S2, v, p', a0, a1, b1, b2, b3, b6, ⟨b7, b8, b9, b10⟩, b11, b12, b13, b14, b15, b16⟩ | hbad
  · have av : v ≤ 9 := a1
    have a0' : 1 ≤ v := a0
    have e5 : S2 5 = S29 5 := b16 5 (by omega)
    refine Or.inl ⟨va_up T27 10 (fun _ => nI 1), va_up Sd 13 (fun _ => nI v), _, p', ?_, b2, b12, b13, b14, b15, b6, b11, b7, b8, ?_, va_up N 13 (fun _ => v), B, cam, mo, 1, ?_, ⟨n4, n14, n15⟩, ?_, ?_, ⟨?_, ?_⟩, ⟨hc, ?_, ?_⟩, ⟨x1, by omega, ?_, rfl, ?_⟩, ?_⟩
    · rw [b1]
      simp (disch := omega) only [fX3_take, lt, jn, q_lit, q_bnd, q_cl, q_le, q_lt, q_eq, pk_mul, nI_add, q_sub, q_div, q_pos, q_neg, q_T, q_F, q_max0, q_flg1, q_flg0, q_min, q_min2, q_bit, q_some, b3]
    · exact MF.trans (fun j hj => b16 j (by omega)) (MF.of5 fun j g5 => by rw [q_up, if_neg g5])
    · refine ⟨⟨w1.1, w1.2.1, w1.2.2.1, w1.2.2.2.1, a0', av, w1.2.2.2.2.2.2⟩, hW.2.1, hW.2.2.1, hW.2.2.2.1, hW.2.2.2.2⟩
    · obtain ⟨⟨c0, c4, c7, c12, c13, c14, c15⟩, g2, g3, g4, g5⟩ := hC
      exact ⟨⟨c0, c4, c7, c12, rfl, c14, c15⟩, g2, g3, g4, g5⟩
    · show MS _ B (upd (S2 5) 47 (nI v))
      rw [e5]
      exact MS.rate hM hW v
    · show S2 6 0 = _
      rw [b16 6 (by omega)]
      exact h6
    · show S2 7 0 = _
      rw [b16 7 (by omega)]
      exact h7
    · show S2 9 0 = _
      rw [b16 9 (by omega)]
      exact h9
    · show HI cam (S2 10 0)
      rw [b16 10 (by omega)]
      exact h10
    · show T27 9 0 = _
      rw [b9]
      exact x3
    · show S2 8 0 = _
      rw [b16 8 (by omega)]
      exact h29
    · intro b hb1 hb2
      have z := hz b hb1 hb2
      show upd (S2 5) 47 (nI v) (6 * b + 2) = nI 0 ∧ upd (S2 5) 47 (nI v) (6 * b + 3) = nI 0
      rw [q_ud, if_neg (by omega), q_ud, if_neg (by omega), e5]
      exact z
  · exact Or.inr hbad
