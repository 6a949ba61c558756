/-! a line: its name, and what follows -/
def ctell  (T : M2) (S : M2) : Option (Int32 × (M2 × M2)) :=
  jn (α := Option (Int32 × (M2 × M2))) (β := Int32) (fun j1 =>
    if (T 6 0) = (1 : Int32) then
      (fX3_lineNamed  T).bind fun r2 =>
      j1 r2
    else
      j1 (-1 : Int32)) (fun p4 => 
    if p4 = (-1 : Int32) then
      (fX3_refuse (2 : Int32) (T 7 0) T).bind fun q41 =>
      lt (q41.2) fun T42 =>
      zb q41.1 (some (q41.1, (T42, S)))
    else
      jn (α := Option (Int32 × (M2 × M2))) (β := Unit) (fun j6 =>
        jn (α := Option (Int32 × (M2 × M2))) (β := Unit) (fun j5 =>
          if p4 = (6 : Int32) then
            if (T 9 0) = 0 then
              j5 ()
            else
              j6 ()
          else
            j5 ()) (fun _ => 
          jn (α := Option (Int32 × (M2 × M2))) (β := Unit) (fun j10 =>
            if p4 = (7 : Int32) then
              if (T 10 0) = 0 then
                j10 ()
              else
                j6 ()
            else
              j10 ()) (fun _ => 
            jn (α := Option (Int32 × (M2 × M2))) (β := Unit) (fun j15 =>
              jn (α := Option (Int32 × (M2 × M2))) (β := Unit) (fun j14 =>
                if p4 = (4 : Int32) then
                  if (5 : Int32) ≤ (S 0 0) then
                    j15 ()
                  else
                    j14 ()
                else
                  j14 ()) (fun _ => 
                jn (α := Option (Int32 × (M2 × M2))) (β := Unit) (fun j19 =>
                  if (3 : Int32) < p4 then
                    j19 ()
                  else
                    if (S 7 0) < (4 : Int32) then
                      j19 ()
                    else
                      j15 ()) (fun _ => 
                  crest p4 T S))) (fun _ => 
              (fX3_refuse (5 : Int32) (T 7 0) T).bind fun q36 =>
              lt (q36.2) fun T37 =>
              zb q36.1 (some (q36.1, (T37, S))))))) (fun _ => 
        (fX3_refuse (4 : Int32) (T 7 0) T).bind fun q39 =>
        lt (q39.2) fun T40 =>
        zb q39.1 (some (q39.1, (T40, S)))))
theorem ctell_eq (T S : M2) : fX3_tellLine T S = ctell T S := rfl
def mr2 (p4 : Int32) (S19 : M2) : Option (M2) :=
        jn (α := Option (M2)) (β := M2) (fun j20 =>
          if (S19 17 0) = 0 then
            if p4 < (6 : Int32) then
              j20 S19
            else
              jn (α := Option (M2)) (β := Int32) (fun j21 =>
                if (((S19 8 0) >>> (p4 &&& 31)) &&& (1 : Int32)) = 0 then
                  j21 (1 : Int32)
                else
                  j21 (0 : Int32)) (fun p23 => 
                (fX5_needs p23 (4 : Int32) S19).bind fun q24 =>
                lt (q24) fun S25 =>
                lt (va_up S25 8 (fun _ => ((S25 8 0) ||| ((1 : Int32) <<< (p4 &&& 31))))) fun S26 =>
                j20 S26)
          else
            j20 S19) (fun p29 => 
          mrest p4 p29)
def mr1 (p4 : Int32) (S9 : M2) : Option (M2) :=
      jn (α := Option (M2)) (β := Int32) (fun j10 =>
        if p4 = (4 : Int32) then
          if (5 : Int32) ≤ (S9 6 0) then
            j10 (0 : Int32)
          else
            j10 (1 : Int32)
        else
          jn (α := Option (M2)) (β := Unit) (fun j11 =>
            if (4 : Int32) < p4 then
              j11 ()
            else
              if (4 : Int32) ≤ (S9 7 0) then
                j10 (0 : Int32)
              else
                j11 ()) (fun _ => 
            j10 (1 : Int32))) (fun p17 => 
        (fX5_needs p17 (5 : Int32) S9).bind fun q18 =>
        lt (q18) fun S19 => mr2 p4 S19)
def mr0 (p4 : Int32) (S : M2) : Option (M2) :=
    jn (α := Option (M2)) (β := Int32) (fun j5 =>
      if p4 = (-4 : Int32) then
        j5 (0 : Int32)
      else
        j5 (1 : Int32)) (fun p7 => 
      (fX5_needs p7 (2 : Int32) S).bind fun q8 =>
      lt (q8) fun S9 => mr1 p4 S9)
def mread  (S : M2) : Option (M2) :=
  jn (α := Option (M2)) (β := Int32) (fun j1 =>
    if (S 15 0) = (1 : Int32) then
      (fX5_lineNow  S).bind fun r2 =>
      j1 r2
    else
      j1 (-4 : Int32)) (fun p4 => mr0 p4 S)
theorem mread_eq (S : M2) : fX5_readLine S = mread S := rfl
theorem kk_no : ∀ k, k < 8 → ¬ nI k = -nI 1 ∧ ¬ nI k = -nI 4 := by decide +kernel
theorem noname {c : Nat → Nat} {n q : Nat} {T S : M2} (h : TB c n T S) (t5 : T 5 0 = nI q) (t7 : T 7 0 = nI q) (hqn : q ≤ n) : fX3_lineNamed T = some (-nI 1) := by
  have hm : ∀ k, k < 8 → mt c q q k = false := by
    intro k hk
    unfold mt
    rw [Nat.sub_self]
    have : ∀ k, k < 8 → ¬ 0 = (wd.getD k []).length := by decide +kernel
    rw [decide_eq_false (this k hk), Bool.false_and]
  unfold fX3_lineNamed
  rw [stageF (t_name h t5 t7 (Nat.le_refl _) hqn (k := 0) (by omega)), stageF (t_name h t5 t7 (Nat.le_refl _) hqn (k := 1) (by omega)), stageF (t_name h t5 t7 (Nat.le_refl _) hqn (k := 2) (by omega)), stageF (t_name h t5 t7 (Nat.le_refl _) hqn (k := 3) (by omega)), stageF (t_name h t5 t7 (Nat.le_refl _) hqn (k := 4) (by omega)), stageF (t_name h t5 t7 (Nat.le_refl _) hqn (k := 5) (by omega)), stageF (t_name h t5 t7 (Nat.le_refl _) hqn (k := 6) (by omega)), stageF (t_name h t5 t7 (Nat.le_refl _) hqn (k := 7) (by omega))]
  rw [hm 0 (by omega), hm 1 (by omega), hm 2 (by omega), hm 3 (by omega), hm 4 (by omega), hm 5 (by omega), hm 6 (by omega), hm 7 (by omega)]
  rfl
def LX (n p : Nat) (T Sd S : M2) : Prop := (∃ T' Sd' W p', fX3_tellLine T Sd = some (nI 1, (T', Sd')) ∧ fX5_readLine S = fX5_next W ∧ T' 5 0 = nI p' ∧ W 13 0 = nI p' ∧ p + 2 ≤ p' ∧ p' ≤ n ∧ T' 2 0 = nI 0 ∧ W 17 0 = nI 0 ∧ T' 0 = T 0 ∧ T' 1 = T 1 ∧ MF S W ∧ DX T' Sd' W) ∨ (∃ T' S' e pl, fX3_tellLine T Sd = some (nI 0, (T', Sd)) ∧ fX5_readLine S = some S' ∧ T' 0 = T 0 ∧ T' 1 = T 1 ∧ MF S S' ∧ BD e pl T' S')
theorem line_of {n q p k : Nat} {T Sd S S29 : M2} (hq : q < p) (h1 : ctell T Sd = crest (nI k) T Sd) (h2 : mread S = mrest (nI k) S29) (hm : MF S S29) (h3 : LG k n p T S29 Sd ∨ BO k T S29 Sd) : LX n q T Sd S := by
  rcases h3 with ⟨T', Sd', W, p', a1, a2, a3, a4, a5, a6, a7, a8, a9, a10, a11, a12⟩ | ⟨T', S', e, pl, a1, a2, a3, a4, a5, a6⟩
  · exact Or.inl ⟨T', Sd', W, p', by rw [ctell_eq, h1, a1], by rw [mread_eq, h2, a2], a3, a4, by omega, a6, a7, a8, a9, a10, hm.trans a11, a12⟩
  · exact Or.inr ⟨T', S', e, pl, by rw [ctell_eq, h1, a1], by rw [mread_eq, h2, a2], a3, a4, hm.trans a5, a6⟩
/-- a line that is refused at its name -/
theorem line_bad {n q e : Nat} {T Sd S S' : M2} (t2 : T 2 0 = nI 0) (t7 : T 7 0 = nI q) (he : 0 < e ∧ e < 10) (h1 : ctell T Sd = (fX3_refuse (nI e) (T 7 0) T).bind fun q41 => zb q41.1 (some (q41.1, (q41.2, Sd)))) (h2 : mread S = some S') (hm : MF S S') (h17 : S' 17 0 = nI e) (h18 : S' 18 0 = nI q) (p : Nat) : LX n p T Sd S := by
  refine Or.inr ⟨va_up (va_up T 2 (fun _ => nI e)) 3 (fun _ => T 7 0), S', e, q, ?_, by rw [mread_eq, h2], rfl, rfl, hm, rfl, h17, he.1, he.2, t7, h18⟩
  rw [ctell_eq, h1, rf_new t2, q_some]
  rfl
theorem mf17 {S : M2} {x y : Nat → Int32} : MF S (va_up (va_up S 17 x) 18 y) := fun j hj => by rw [q_up, if_neg (by omega), q_up, if_neg (by omega)]
theorem mf8 {S : M2} {x : Nat → Int32} : MF S (va_up S 8 x) := fun j hj => by rw [q_up, if_neg (by omega)]
theorem mr_bad {k : Int32} {S : M2} {e : Nat} (h : S 17 0 = nI e) (he : 0 < e ∧ e < 10) : mrest k S = some S := mrest_no (nx_bad h he) h he
theorem bits6 : ∀ mo, mo ≤ 1 → ∀ ra, ra ≤ 1 → (64 * mo + 128 * ra < 256 ∧ (64 * mo + 128 * ra).testBit 6 = decide (mo = 1) ∧ (64 * mo + 128 * ra).testBit 7 = decide (ra = 1) ∧ (64 * mo + 128 * ra) ||| 2 ^ 6 = 64 + 128 * ra ∧ (64 * mo + 128 * ra) ||| 2 ^ 7 = 64 * mo + 128) := by
  intro mo h1 ra h2
  rcases (by omega : mo = 0 ∨ mo = 1) with rfl | rfl <;> rcases (by omega : ra = 0 ∨ ra = 1) with rfl | rfl <;> decide
theorem mr0_ok {k : Int32} {S : M2} (h : ¬ k = -nI 4) : mr0 k S = mr1 k S := by
  simp (disch := omega) only [mr0, lt, jn, q_T, q_F, q_lit, q_neg, h, nd_ok, q_some]
theorem mr0_no {S : M2} (h : S 17 0 = nI 0) : mr0 (-nI 4) S = mr1 (-nI 4) (va_up (va_up S 17 (fun _ => nI 2)) 18 (fun _ => S 14 0)) := by
  simp (disch := omega) only [mr0, lt, jn, q_T, q_F, q_lit, q_pos, nd_new h, q_some]
theorem mr2_bad {k : Int32} {S : M2} {e : Nat} (h : S 17 0 = nI e) (he : 0 < e ∧ e < 10) : mr2 k S = some S := by
  simp (disch := omega) only [mr2, lt, jn, q_T, q_F, q_lit, q_eq, q_neg, h, mr_bad h he]
theorem mr1_bad {k : Int32} {S : M2} {e : Nat} (h : S 17 0 = nI e) (he : 0 < e ∧ e < 10) : mr1 k S = some S := by
  simp only [mr1, lt, jn, nd_bad h he, q_some, mr2_bad h he, ite_self]
theorem mr1_4 {S : M2} {nb : Nat} (h6 : S 6 0 = nI nb) (hb : nb < 5) : mr1 (nI 4) S = mr2 (nI 4) S := by
  simp (disch := omega) only [mr1, lt, jn, q_T, q_F, q_lit, q_pos, q_le, q_neg, h6, nd_ok, q_some]
theorem mr1_4b {S : M2} {nb : Nat} (h17 : S 17 0 = nI 0) (h6 : S 6 0 = nI nb) (hb : ¬ nb < 5 ∧ nb ≤ 5) : mr1 (nI 4) S = some (va_up (va_up S 17 (fun _ => nI 5)) 18 (fun _ => S 14 0)) := by
  have b3 := mr2_bad (k := nI 4) (S := va_up (va_up S 17 (fun _ => nI 5)) 18 (fun _ => S 14 0)) (e := 5) rfl (by omega)
  simp (disch := omega) only [mr1, lt, jn, q_T, q_F, q_lit, q_pos, q_le, q_neg, h6, nd_new h17, q_some, b3]
theorem mr1_m {S : M2} {nm k : Nat} (hk : k < 4) (h7 : S 7 0 = nI nm) (hb : nm < 4) : mr1 (nI k) S = mr2 (nI k) S := by
  simp (disch := omega) only [mr1, lt, jn, q_T, q_F, q_lit, q_eq, q_lt, q_le, q_neg, h7, nd_ok, q_some]
theorem mr1_mb {S : M2} {nm k : Nat} (hk : k < 4) (h17 : S 17 0 = nI 0) (h7 : S 7 0 = nI nm) (hb : ¬ nm < 4 ∧ nm ≤ 4) : mr1 (nI k) S = some (va_up (va_up S 17 (fun _ => nI 5)) 18 (fun _ => S 14 0)) := by
  have b3 := mr2_bad (k := nI k) (S := va_up (va_up S 17 (fun _ => nI 5)) 18 (fun _ => S 14 0)) (e := 5) rfl (by omega)
  simp (disch := omega) only [mr1, lt, jn, q_T, q_F, q_lit, q_eq, q_lt, q_le, q_neg, q_pos, h7, nd_new h17, q_some, b3]
theorem mr1_h {S : M2} {k : Nat} (hk : 4 < k ∧ k < 8) : mr1 (nI k) S = mr2 (nI k) S := by
  simp (disch := omega) only [mr1, lt, jn, q_T, q_F, q_lit, q_eq, q_lt, q_le, q_neg, q_pos, nd_ok, q_some]
theorem mr2_lo {S : M2} {k : Nat} (hk : k < 6) (h17 : S 17 0 = nI 0) : mr2 (nI k) S = mrest (nI k) S := by
  simp (disch := omega) only [mr2, lt, jn, q_T, q_F, q_lit, q_eq, q_lt, q_pos, h17]
theorem mr2_hi {S : M2} {k : Nat} (hk : k = 6 ∨ k = 7) (h17 : S 17 0 = nI 0) (hb : (S 8 0 >>> (nI k &&& nI 31)) &&& nI 1 = nI 0) : mr2 (nI k) S = mrest (nI k) (va_up S 8 (fun _ => S 8 0 ||| (nI 1 <<< (nI k &&& nI 31)))) := by
  simp (disch := omega) only [mr2, lt, jn, q_T, q_F, q_lit, q_eq, q_lt, q_pos, q_neg, h17, hb, nd_ok, q_some]
theorem mr2_told {S : M2} {k : Nat} (hk : k = 6 ∨ k = 7) (h17 : S 17 0 = nI 0) (hb : (S 8 0 >>> (nI k &&& nI 31)) &&& nI 1 = nI 1) : mr2 (nI k) S = some (va_up (va_up (va_up S 17 (fun _ => nI 4)) 18 (fun _ => S 14 0)) 8 (fun _ => S 8 0 ||| (nI 1 <<< (nI k &&& nI 31)))) := by
  have b3 := mr_bad (k := nI k) (S := va_up (va_up (va_up S 17 (fun _ => nI 4)) 18 (fun _ => S 14 0)) 8 (fun _ => S 8 0 ||| (nI 1 <<< (nI k &&& nI 31)))) (e := 4) rfl (by omega)
  have e8 : va_up (va_up S 17 (fun _ => nI 4)) 18 (fun _ => S 14 0) 8 0 = S 8 0 := rfl
  simp (disch := omega) only [mr2, lt, jn, q_T, q_F, q_lit, q_eq, q_lt, q_pos, q_neg, h17, hb, nd_new h17, q_some, e8, b3]
theorem mread_n {S : M2} {k : Int32} (h : S 15 0 = nI 1) (hk : fX5_lineNow S = some k) : mread S = mr0 k S := by
  simp (disch := omega) only [mread, lt, jn, q_T, q_F, q_lit, q_pos, h, hk, q_some]
theorem mread_x {S : M2} {tk : Nat} (h : S 15 0 = nI tk) (hk : tk ≠ 1 ∧ tk < 9) : mread S = mr0 (-nI 4) S := by
  simp (disch := omega) only [mread, lt, jn, q_T, q_F, q_lit, q_eq, q_neg, h]
theorem line {c : Nat → Nat} {n tk q p : Nat} {T Sd S : M2} (h : TB c n T S) (hx : TOK tk n q p T S) (ht : tk ≠ 4) (hD : DX T Sd S) : LX n q T Sd S := by
  obtain ⟨t2, s17, t5, s13, t7, s14, g1, g2, t6, s15, g3, g4, g5, g6⟩ := hx
  obtain ⟨N, B, cam, mo, ra, hD⟩ := hD
  obtain ⟨hW, hn4, hC, hM, ⟨h6, h7⟩, ⟨hc, h9, h10⟩, ⟨x1, x2, x3, x4, h8⟩, hz⟩ := id hD
  have w1 := hW.1
  have c0 : Sd 0 0 = nI (N 0 0) := hC.1.1
  have c7 : Sd 7 0 = nI (N 7 0) := hC.1.2.2.1
  rw [if_neg ht] at s15
  -- no name
  have no : ∀ (_ : mread S = some (va_up (va_up S 17 (fun _ => nI 2)) 18 (fun _ => S 14 0))) (_ : ctell T Sd = (fX3_refuse (nI 2) (T 7 0) T).bind fun q41 => zb q41.1 (some (q41.1, (q41.2, Sd)))), LX n q T Sd S := fun a b => line_bad (e := 2) t2 t7 (by omega) b a mf17 rfl s14 q
  by_cases e1 : tk = 1
  · subst e1
    rcases names h t5 t7 s13 s14 g1 g2 with ⟨k, hk, n1, n2⟩ | ⟨n1, n2⟩
    · obtain ⟨y1, y2⟩ := kk_no k hk
      have hqp : q < p := by
        by_cases e : q < p
        · exact e
        · have e' : q = p := by omega
          subst e'
          have := noname h t5 t7 g2
          rw [n1, Option.some.injEq] at this
          exact absurd this y1
      have mr := (mread_n s15 n2).trans (mr0_ok y2)
      by_cases k4 : k = 4
      · subst k4
        by_cases e5 : N 0 0 < 5
        · refine line_of hqp ?_ (mr.trans ((mr1_4 h6 e5).trans (mr2_lo (by omega) s17))) (fun _ _ => rfl) (l_bolt h g2 t2 s17 t5 s13 hD e5)
          simp (disch := omega) only [ctell, lt, jn, q_lit, q_bnd, q_cl, q_le, q_lt, q_eq, pk_mul, nI_add, q_sub, q_div, q_pos, q_neg, q_T, q_F, q_max0, q_flg1, q_flg0, q_min, q_min2, q_bit, q_some, t6, n1, y1, c0]
        · refine line_bad (e := 5) t2 t7 (by omega) ?_ (mr.trans (mr1_4b s17 h6 (by omega))) mf17 rfl s14 q
          simp (disch := omega) only [ctell, lt, jn, q_lit, q_bnd, q_cl, q_le, q_lt, q_eq, pk_mul, nI_add, q_sub, q_div, q_pos, q_neg, q_T, q_F, q_max0, q_flg1, q_flg0, q_min, q_min2, q_bit, q_some, t6, n1, y1, c0]
      · by_cases k3 : k < 4
        · by_cases e5 : N 7 0 < 4
          · refine line_of hqp ?_ (mr.trans ((mr1_m k3 h7 e5).trans (mr2_lo (by omega) s17))) (fun _ _ => rfl) (l_moth (k := k) (by omega) h g2 t2 s17 t5 s13 hD e5)
            simp (disch := omega) only [ctell, lt, jn, q_lit, q_bnd, q_cl, q_le, q_lt, q_eq, pk_mul, nI_add, q_sub, q_div, q_pos, q_neg, q_T, q_F, q_max0, q_flg1, q_flg0, q_min, q_min2, q_bit, q_some, t6, n1, y1, c7]
          · refine line_bad (e := 5) t2 t7 (by omega) ?_ (mr.trans (mr1_mb k3 s17 h7 (by omega))) mf17 rfl s14 q
            simp (disch := omega) only [ctell, lt, jn, q_lit, q_bnd, q_cl, q_le, q_lt, q_eq, pk_mul, nI_add, q_sub, q_div, q_pos, q_neg, q_T, q_F, q_max0, q_flg1, q_flg0, q_min, q_min2, q_bit, q_some, t6, n1, y1, c7]
        · obtain ⟨b1, b2, b3, b4, b5⟩ := bits6 mo x1 ra x2
          have mr := mr.trans (mr1_h (by omega))
          rcases (by omega : k = 5 ∨ k = 6 ∨ k = 7) with rfl | rfl | rfl
          · refine line_of hqp ?_ (mr.trans (mr2_lo (by omega) s17)) (fun _ _ => rfl) (l_camph h g2 t2 s17 t5 s13 hD)
            simp (disch := omega) only [ctell, lt, jn, q_lit, q_bnd, q_cl, q_le, q_lt, q_eq, pk_mul, nI_add, q_sub, q_div, q_pos, q_neg, q_T, q_F, q_max0, q_flg1, q_flg0, q_min, q_min2, q_bit, q_some, t6, n1, y1]
          · have hsh : S 8 0 ||| (nI 1 <<< (nI 6 &&& nI 31)) = nI (64 + 128 * ra) := by rw [h8, q_shl (by omega), q_or, b4]
            have hbt : (S 8 0 >>> (nI 6 &&& nI 31)) &&& nI 1 = nI (decide (mo = 1)).toNat := by rw [h8, q_bit (by omega), b2]
            by_cases em : mo = 1
            · rw [decide_eq_true em] at hbt
              have x3' : T 9 0 = nI 1 := by rw [x3, em]
              refine line_bad (e := 4) t2 t7 (by omega) ?_ (mr.trans (mr2_told (by omega) s17 hbt)) (mf17.trans mf8) rfl s14 q
              simp (disch := omega) only [ctell, lt, jn, q_lit, q_bnd, q_cl, q_le, q_lt, q_eq, pk_mul, nI_add, q_sub, q_div, q_pos, q_neg, q_T, q_F, q_max0, q_flg1, q_flg0, q_min, q_min2, q_bit, q_some, t6, n1, y1, x3']
            · rw [decide_eq_false em] at hbt
              have em0 : mo = 0 := by omega
              subst em0
              have mr := mr.trans (mr2_hi (by omega) s17 hbt)
              rw [hsh] at mr
              refine line_of hqp ?_ mr mf8 (l_moon (ra := ra) (N := N) (B := B) (cam := cam) h g2 t2 s17 t5 s13 rfl ⟨hW, hn4, hC, hM, ⟨h6, h7⟩, ⟨hc, h9, h10⟩, ⟨x1, x2, x3, x4, rfl⟩, hz⟩)
              simp (disch := omega) only [ctell, lt, jn, q_lit, q_bnd, q_cl, q_le, q_lt, q_eq, pk_mul, nI_add, q_sub, q_div, q_pos, q_neg, q_T, q_F, q_max0, q_flg1, q_flg0, q_min, q_min2, q_bit, q_some, t6, n1, y1, x3]
          · have hsh : S 8 0 ||| (nI 1 <<< (nI 7 &&& nI 31)) = nI (64 * mo + 128) := by rw [h8, q_shl (by omega), q_or, b5]
            have hbt : (S 8 0 >>> (nI 7 &&& nI 31)) &&& nI 1 = nI (decide (ra = 1)).toNat := by rw [h8, q_bit (by omega), b3]
            by_cases em : ra = 1
            · rw [decide_eq_true em] at hbt
              have x4' : T 10 0 = nI 1 := by rw [x4, em]
              refine line_bad (e := 4) t2 t7 (by omega) ?_ (mr.trans (mr2_told (by omega) s17 hbt)) (mf17.trans mf8) rfl s14 q
              simp (disch := omega) only [ctell, lt, jn, q_lit, q_bnd, q_cl, q_le, q_lt, q_eq, pk_mul, nI_add, q_sub, q_div, q_pos, q_neg, q_T, q_F, q_max0, q_flg1, q_flg0, q_min, q_min2, q_bit, q_some, t6, n1, y1, x4']
            · rw [decide_eq_false em] at hbt
              have em0 : ra = 0 := by omega
              subst em0
              have mr := mr.trans (mr2_hi (by omega) s17 hbt)
              rw [hsh] at mr
              refine line_of hqp ?_ mr mf8 (l_rate (mo := mo) (N := N) (B := B) (cam := cam) h g2 t2 s17 t5 s13 rfl ⟨hW, hn4, hC, hM, ⟨h6, h7⟩, ⟨hc, h9, h10⟩, ⟨x1, x2, x3, x4, rfl⟩, hz⟩)
              simp (disch := omega) only [ctell, lt, jn, q_lit, q_bnd, q_cl, q_le, q_lt, q_eq, pk_mul, nI_add, q_sub, q_div, q_pos, q_neg, q_T, q_F, q_max0, q_flg1, q_flg0, q_min, q_min2, q_bit, q_some, t6, n1, y1, x4]
    · refine no ((mread_n s15 n2).trans ((mr0_no s17).trans (mr1_bad (e := 2) rfl (by omega)))) ?_
      simp (disch := omega) only [ctell, lt, jn, q_lit, q_bnd, q_cl, q_le, q_lt, q_eq, pk_mul, nI_add, q_sub, q_div, q_pos, q_neg, q_T, q_F, q_max0, q_flg1, q_flg0, q_min, q_min2, q_bit, q_some, t6, n1]
  · refine no ((mread_x s15 (by omega)).trans ((mr0_no s17).trans (mr1_bad (e := 2) rfl (by omega)))) ?_
    simp (disch := omega) only [ctell, lt, jn, q_lit, q_bnd, q_cl, q_le, q_lt, q_eq, pk_mul, nI_add, q_sub, q_div, q_pos, q_neg, q_T, q_F, q_max0, q_flg1, q_flg0, q_min, q_min2, q_bit, q_some, t6, e1]
