/-! the law: each of its cases, and the walk -/
def OKL (A : (M3 × M2 → Option (Int32 × (M3 × M2))) → Option (Int32 × (M3 × M2))) : Prop := ∃ X' S', (∀ j, A j = j (X', S')) ∧ R X' S'
theorem ok_id {X : M3} {S : M2} (h : R X S) : OKL (fun j => j (X, S)) := ⟨X, S, fun _ => rfl, h⟩
theorem ok_if {c : Prop} {d : Decidable c} {A B : (M3 × M2 → Option (Int32 × (M3 × M2))) → Option (Int32 × (M3 × M2))} (hA : OKL A) (hB : OKL B) : OKL (fun j => if c then A j else B j) := by
  by_cases e : c
  · obtain ⟨X, S, h1, h2⟩ := hA
    exact ⟨X, S, fun j => by show (if c then A j else B j) = _; rw [if_pos e]; exact h1 j, h2⟩
  · obtain ⟨X, S, h1, h2⟩ := hB
    exact ⟨X, S, fun j => by show (if c then A j else B j) = _; rw [if_neg e]; exact h1 j, h2⟩
theorem lg_self (a : Int64) : lg_cmp a a = nI 0 := (lg_cmp_eq a a).mpr rfl
def lw0 (Ln : Nat) (xs : Nat → Int32) (v1 : Int32) (X2 : M3) (S3 : M2) (j4 : M3 × M2 → Option (Int32 × (M3 × M2))) : Option (Int32 × (M3 × M2)) :=
  bnd (v1 + (1 : Int32)) Ln <|
  (fX4_feed (xs (v1 + (1 : Int32)).toNatClampNeg) X2).bind fun q6 =>
  lt (q6.2) fun X7 =>
  bnd (v1 + (1 : Int32)) Ln <|
  (fX5_feed (xs (v1 + (1 : Int32)).toNatClampNeg) S3).bind fun q8 =>
  lt (q8.2) fun S9 =>
  if q6.1 = q8.1 then
    j4 (X7, S9)
  else
    some ((0 : Int32), (X7, S9))
theorem lw0_ok {Ln v : Nat} {xs : Nat → Int32} {X : M3} {S : M2} (h : R X S) (hv : v + 4 < Ln) (hL : Ln ≤ 320) : OKL (lw0 Ln xs (nI v) X S) := by
  obtain ⟨a, X', S', h1, h2, h3⟩ := k_feed h (xs (v + 1))
  refine ⟨X', S', fun j => ?_, h3⟩
  simp (disch := omega) only [lw0, q_ltn, q_lit, nI_add, q_bnd, q_cl, q_some, h1, h2, lg_self, if_true]
def lw1 (Ln : Nat) (xs : Nat → Int32) (v1 : Int32) (X2 : M3) (S3 : M2) (j4 : M3 × M2 → Option (Int32 × (M3 × M2))) : Option (Int32 × (M3 × M2)) :=
  bnd (v1 + (1 : Int32)) Ln <|
  (fX4_end (xs (v1 + (1 : Int32)).toNatClampNeg) X2).bind fun q12 =>
  lt (q12.2) fun X13 =>
  bnd (v1 + (1 : Int32)) Ln <|
  (fX5_end (xs (v1 + (1 : Int32)).toNatClampNeg) S3).bind fun q14 =>
  lt (q14.2) fun S15 =>
  if q12.1 = q14.1 then
    j4 (X13, S15)
  else
    some ((0 : Int32), (X13, S15))
theorem lw1_ok {Ln v : Nat} {xs : Nat → Int32} {X : M3} {S : M2} (h : R X S) (hv : v + 4 < Ln) (hL : Ln ≤ 320) : OKL (lw1 Ln xs (nI v) X S) := by
  obtain ⟨a, X', S', h1, h2, h3⟩ := k_end h (xs (v + 1))
  refine ⟨X', S', fun j => ?_, h3⟩
  simp (disch := omega) only [lw1, q_ltn, q_lit, nI_add, q_bnd, q_cl, q_some, h1, h2, lg_self, if_true]
def lw2 (Ln : Nat) (xs : Nat → Int32) (v1 : Int32) (X2 : M3) (S3 : M2) (j4 : M3 × M2 → Option (Int32 × (M3 × M2))) : Option (Int32 × (M3 × M2)) :=
  (fX4_text  X2).bind fun q18 =>
  lt (q18.2) fun X19 =>
  (fX5_text  S3).bind fun q20 =>
  lt (q20.2) fun S21 =>
  if q18.1 = q20.1 then
    j4 (X19, S21)
  else
    some ((0 : Int32), (X19, S21))
theorem lw2_ok {Ln v : Nat} {xs : Nat → Int32} {X : M3} {S : M2} (h : R X S) (hv : v + 4 < Ln) (hL : Ln ≤ 320) : OKL (lw2 Ln xs (nI v) X S) := by
  obtain ⟨a, X', S', h1, h2, h3⟩ := k_text h 
  refine ⟨X', S', fun j => ?_, h3⟩
  simp (disch := omega) only [lw2, q_ltn, q_lit, nI_add, q_bnd, q_cl, q_some, h1, h2, lg_self, if_true]
def lw3 (Ln : Nat) (xs : Nat → Int32) (v1 : Int32) (X2 : M3) (S3 : M2) (j4 : M3 × M2 → Option (Int32 × (M3 × M2))) : Option (Int32 × (M3 × M2)) :=
  (fX4_fault  X2).bind fun r24 =>
  (fX5_fault  S3).bind fun r25 =>
  if r24 = r25 then
    j4 (X2, S3)
  else
    some ((0 : Int32), (X2, S3))
theorem lw3_ok {Ln v : Nat} {xs : Nat → Int32} {X : M3} {S : M2} (h : R X S) (hv : v + 4 < Ln) (hL : Ln ≤ 320) : OKL (lw3 Ln xs (nI v) X S) := by
  obtain ⟨a, h1, h2⟩ := k_fault h 
  refine ⟨X, S, fun j => ?_, h⟩
  simp (disch := omega) only [lw3, q_ltn, q_lit, nI_add, q_bnd, q_cl, q_some, h1, h2, lg_self, if_true]
def lw4 (Ln : Nat) (xs : Nat → Int32) (v1 : Int32) (X2 : M3) (S3 : M2) (j4 : M3 × M2 → Option (Int32 × (M3 × M2))) : Option (Int32 × (M3 × M2)) :=
  bnd (v1 + (1 : Int32)) Ln <|
  (fX4_rule (xs (v1 + (1 : Int32)).toNatClampNeg) X2).bind fun r28 =>
  bnd (v1 + (1 : Int32)) Ln <|
  (fX5_rule (xs (v1 + (1 : Int32)).toNatClampNeg) S3).bind fun q29 =>
  lt (q29.2) fun S30 =>
  if r28 = q29.1 then
    j4 (X2, S30)
  else
    some ((0 : Int32), (X2, S30))
theorem lw4_ok {Ln v : Nat} {xs : Nat → Int32} {X : M3} {S : M2} (h : R X S) (hv : v + 4 < Ln) (hL : Ln ≤ 320) : OKL (lw4 Ln xs (nI v) X S) := by
  obtain ⟨a, S', h1, h2, h3⟩ := k_rule h (xs (v + 1))
  refine ⟨X, S', fun j => ?_, h3⟩
  simp (disch := omega) only [lw4, q_ltn, q_lit, nI_add, q_bnd, q_cl, q_some, h1, h2, lg_self, if_true]
def lw5 (Ln : Nat) (xs : Nat → Int32) (v1 : Int32) (X2 : M3) (S3 : M2) (j4 : M3 × M2 → Option (Int32 × (M3 × M2))) : Option (Int32 × (M3 × M2)) :=
  bnd (v1 + (1 : Int32)) Ln <|
  bnd (v1 + (2 : Int32)) Ln <|
  (fX4_bolt (xs (v1 + (1 : Int32)).toNatClampNeg) (xs (v1 + (2 : Int32)).toNatClampNeg) X2).bind fun r33 =>
  bnd (v1 + (1 : Int32)) Ln <|
  bnd (v1 + (2 : Int32)) Ln <|
  (fX5_bolt (xs (v1 + (1 : Int32)).toNatClampNeg) (xs (v1 + (2 : Int32)).toNatClampNeg) S3).bind fun r34 =>
  if r33 = r34 then
    j4 (X2, S3)
  else
    some ((0 : Int32), (X2, S3))
theorem lw5_ok {Ln v : Nat} {xs : Nat → Int32} {X : M3} {S : M2} (h : R X S) (hv : v + 4 < Ln) (hL : Ln ≤ 320) : OKL (lw5 Ln xs (nI v) X S) := by
  obtain ⟨a, h1, h2⟩ := k_bolt h (xs (v + 1)) (xs (v + 2))
  refine ⟨X, S, fun j => ?_, h⟩
  simp (disch := omega) only [lw5, q_ltn, q_lit, nI_add, q_bnd, q_cl, q_some, h1, h2, lg_self, if_true]
def lw6 (Ln : Nat) (xs : Nat → Int32) (v1 : Int32) (X2 : M3) (S3 : M2) (j4 : M3 × M2 → Option (Int32 × (M3 × M2))) : Option (Int32 × (M3 × M2)) :=
  bnd (v1 + (1 : Int32)) Ln <|
  bnd (v1 + (2 : Int32)) Ln <|
  (fX4_moth (xs (v1 + (1 : Int32)).toNatClampNeg) (xs (v1 + (2 : Int32)).toNatClampNeg) X2).bind fun r37 =>
  bnd (v1 + (1 : Int32)) Ln <|
  bnd (v1 + (2 : Int32)) Ln <|
  (fX5_moth (xs (v1 + (1 : Int32)).toNatClampNeg) (xs (v1 + (2 : Int32)).toNatClampNeg) S3).bind fun q38 =>
  lt (q38.2) fun S39 =>
  if r37 = q38.1 then
    j4 (X2, S39)
  else
    some ((0 : Int32), (X2, S39))
theorem lw6_ok {Ln v : Nat} {xs : Nat → Int32} {X : M3} {S : M2} (h : R X S) (hv : v + 4 < Ln) (hL : Ln ≤ 320) : OKL (lw6 Ln xs (nI v) X S) := by
  obtain ⟨a, S', h1, h2, h3⟩ := k_moth h (xs (v + 1)) (xs (v + 2))
  refine ⟨X, S', fun j => ?_, h3⟩
  simp (disch := omega) only [lw6, q_ltn, q_lit, nI_add, q_bnd, q_cl, q_some, h1, h2, lg_self, if_true]
def lw7 (Ln : Nat) (xs : Nat → Int32) (v1 : Int32) (X2 : M3) (S3 : M2) (j4 : M3 × M2 → Option (Int32 × (M3 × M2))) : Option (Int32 × (M3 × M2)) :=
  bnd (v1 + (1 : Int32)) Ln <|
  bnd (v1 + (2 : Int32)) Ln <|
  (fX4_bale (xs (v1 + (1 : Int32)).toNatClampNeg) (xs (v1 + (2 : Int32)).toNatClampNeg) X2).bind fun r42 =>
  bnd (v1 + (1 : Int32)) Ln <|
  bnd (v1 + (2 : Int32)) Ln <|
  (fX5_bale (xs (v1 + (1 : Int32)).toNatClampNeg) (xs (v1 + (2 : Int32)).toNatClampNeg) S3).bind fun q43 =>
  lt (q43.2) fun S44 =>
  if r42 = q43.1 then
    j4 (X2, S44)
  else
    some ((0 : Int32), (X2, S44))
theorem lw7_ok {Ln v : Nat} {xs : Nat → Int32} {X : M3} {S : M2} (h : R X S) (hv : v + 4 < Ln) (hL : Ln ≤ 320) : OKL (lw7 Ln xs (nI v) X S) := by
  obtain ⟨a, S', h1, h2, h3⟩ := k_bale h (xs (v + 1)) (xs (v + 2))
  refine ⟨X, S', fun j => ?_, h3⟩
  simp (disch := omega) only [lw7, q_ltn, q_lit, nI_add, q_bnd, q_cl, q_some, h1, h2, lg_self, if_true]
def lw8 (Ln : Nat) (xs : Nat → Int32) (v1 : Int32) (X2 : M3) (S3 : M2) (j4 : M3 × M2 → Option (Int32 × (M3 × M2))) : Option (Int32 × (M3 × M2)) :=
  bnd (v1 + (1 : Int32)) Ln <|
  bnd (v1 + (2 : Int32)) Ln <|
  (fX4_fold (xs (v1 + (1 : Int32)).toNatClampNeg) (xs (v1 + (2 : Int32)).toNatClampNeg) X2).bind fun q47 =>
  lt (q47.2) fun X48 =>
  bnd (v1 + (1 : Int32)) Ln <|
  bnd (v1 + (2 : Int32)) Ln <|
  (fX5_fold (xs (v1 + (1 : Int32)).toNatClampNeg) (xs (v1 + (2 : Int32)).toNatClampNeg) S3).bind fun q49 =>
  lt (q49.2) fun S50 =>
  if q47.1 = q49.1 then
    j4 (X48, S50)
  else
    some ((0 : Int32), (X48, S50))
theorem lw8_ok {Ln v : Nat} {xs : Nat → Int32} {X : M3} {S : M2} (h : R X S) (hv : v + 4 < Ln) (hL : Ln ≤ 320) : OKL (lw8 Ln xs (nI v) X S) := by
  obtain ⟨a, X', S', h1, h2, h3⟩ := k_fold h (xs (v + 1)) (xs (v + 2))
  refine ⟨X', S', fun j => ?_, h3⟩
  simp (disch := omega) only [lw8, q_ltn, q_lit, nI_add, q_bnd, q_cl, q_some, h1, h2, lg_self, if_true]
def lw9 (Ln : Nat) (xs : Nat → Int32) (v1 : Int32) (X2 : M3) (S3 : M2) (j4 : M3 × M2 → Option (Int32 × (M3 × M2))) : Option (Int32 × (M3 × M2)) :=
  bnd (v1 + (1 : Int32)) Ln <|
  bnd (v1 + (2 : Int32)) Ln <|
  (fX4_under (xs (v1 + (1 : Int32)).toNatClampNeg) (xs (v1 + (2 : Int32)).toNatClampNeg) X2).bind fun q53 =>
  lt (q53.2) fun X54 =>
  bnd (v1 + (1 : Int32)) Ln <|
  bnd (v1 + (2 : Int32)) Ln <|
  (fX5_under (xs (v1 + (1 : Int32)).toNatClampNeg) (xs (v1 + (2 : Int32)).toNatClampNeg) S3).bind fun q55 =>
  lt (q55.2) fun S56 =>
  if q53.1 = q55.1 then
    j4 (X54, S56)
  else
    some ((0 : Int32), (X54, S56))
theorem lw9_ok {Ln v : Nat} {xs : Nat → Int32} {X : M3} {S : M2} (h : R X S) (hv : v + 4 < Ln) (hL : Ln ≤ 320) : OKL (lw9 Ln xs (nI v) X S) := by
  obtain ⟨a, X', S', h1, h2, h3⟩ := k_under h (xs (v + 1)) (xs (v + 2))
  refine ⟨X', S', fun j => ?_, h3⟩
  simp (disch := omega) only [lw9, q_ltn, q_lit, nI_add, q_bnd, q_cl, q_some, h1, h2, lg_self, if_true]
def lw10 (Ln : Nat) (xs : Nat → Int32) (v1 : Int32) (X2 : M3) (S3 : M2) (j4 : M3 × M2 → Option (Int32 × (M3 × M2))) : Option (Int32 × (M3 × M2)) :=
  bnd (v1 + (1 : Int32)) Ln <|
  bnd (v1 + (2 : Int32)) Ln <|
  (fX4_swap (xs (v1 + (1 : Int32)).toNatClampNeg) (xs (v1 + (2 : Int32)).toNatClampNeg) X2).bind fun q59 =>
  lt (q59.2) fun X60 =>
  bnd (v1 + (1 : Int32)) Ln <|
  bnd (v1 + (2 : Int32)) Ln <|
  (fX5_swap (xs (v1 + (1 : Int32)).toNatClampNeg) (xs (v1 + (2 : Int32)).toNatClampNeg) S3).bind fun q61 =>
  lt (q61.2) fun S62 =>
  if q59.1 = q61.1 then
    j4 (X60, S62)
  else
    some ((0 : Int32), (X60, S62))
theorem lw10_ok {Ln v : Nat} {xs : Nat → Int32} {X : M3} {S : M2} (h : R X S) (hv : v + 4 < Ln) (hL : Ln ≤ 320) : OKL (lw10 Ln xs (nI v) X S) := by
  obtain ⟨a, X', S', h1, h2, h3⟩ := k_swap h (xs (v + 1)) (xs (v + 2))
  refine ⟨X', S', fun j => ?_, h3⟩
  simp (disch := omega) only [lw10, q_ltn, q_lit, nI_add, q_bnd, q_cl, q_some, h1, h2, lg_self, if_true]
def lw11 (Ln : Nat) (xs : Nat → Int32) (v1 : Int32) (X2 : M3) (S3 : M2) (j4 : M3 × M2 → Option (Int32 × (M3 × M2))) : Option (Int32 × (M3 × M2)) :=
  bnd (v1 + (1 : Int32)) Ln <|
  bnd (v1 + (2 : Int32)) Ln <|
  jn (α := Option (Int32 × (M3 × M2))) (β := Int32) (fun j65 =>
    if (xs (v1 + (2 : Int32)).toNatClampNeg) = 0 then
      j65 (0 : Int32)
    else
      j65 (1 : Int32)) (fun p67 => 
    (fX4_camphor (xs (v1 + (1 : Int32)).toNatClampNeg) p67 X2).bind fun q68 =>
    lt (q68.2) fun X69 =>
    bnd (v1 + (1 : Int32)) Ln <|
    bnd (v1 + (2 : Int32)) Ln <|
    jn (α := Option (Int32 × (M3 × M2))) (β := Int32) (fun j70 =>
      if (xs (v1 + (2 : Int32)).toNatClampNeg) = 0 then
        j70 (0 : Int32)
      else
        j70 (1 : Int32)) (fun p72 => 
      (fX5_camphor (xs (v1 + (1 : Int32)).toNatClampNeg) p72 S3).bind fun q73 =>
      lt (q73.2) fun S74 =>
      if q68.1 = q73.1 then
        j4 (X69, S74)
      else
        some ((0 : Int32), (X69, S74))))
theorem lw11_ok {Ln v : Nat} {xs : Nat → Int32} {X : M3} {S : M2} (h : R X S) (hv : v + 4 < Ln) (hL : Ln ≤ 320) : OKL (lw11 Ln xs (nI v) X S) := by
  by_cases e : xs (v + 2) = nI 0
  · obtain ⟨a, X', S', h1, h2, h3⟩ := k_camphor h (xs (v + 1)) false
    have h1' : fX4_camphor (xs (v + 1)) (nI 0) X = some (a, X') := h1
    have h2' : fX5_camphor (xs (v + 1)) (nI 0) S = some (a, S') := h2
    refine ⟨X', S', fun j => ?_, h3⟩
    simp (disch := omega) only [lw11, q_ltn, jn, q_lit, nI_add, q_bnd, q_cl, e, q_some, h1', h2', q_T, if_true]
  · obtain ⟨a, X', S', h1, h2, h3⟩ := k_camphor h (xs (v + 1)) true
    have h1' : fX4_camphor (xs (v + 1)) (nI 1) X = some (a, X') := h1
    have h2' : fX5_camphor (xs (v + 1)) (nI 1) S = some (a, S') := h2
    refine ⟨X', S', fun j => ?_, h3⟩
    simp (disch := omega) only [lw11, q_ltn, jn, q_lit, nI_add, q_bnd, q_cl, e, q_some, h1', h2', q_T, q_F, if_true, if_false]
def lw12 (Ln : Nat) (xs : Nat → Int32) (v1 : Int32) (X2 : M3) (S3 : M2) (j4 : M3 × M2 → Option (Int32 × (M3 × M2))) : Option (Int32 × (M3 × M2)) :=
  bnd (v1 + (1 : Int32)) Ln <|
  bnd (v1 + (2 : Int32)) Ln <|
  (fX4_patch (xs (v1 + (1 : Int32)).toNatClampNeg) (xs (v1 + (2 : Int32)).toNatClampNeg) X2).bind fun q77 =>
  lt (q77.2) fun X78 =>
  bnd (v1 + (1 : Int32)) Ln <|
  bnd (v1 + (2 : Int32)) Ln <|
  (fX5_patch (xs (v1 + (1 : Int32)).toNatClampNeg) (xs (v1 + (2 : Int32)).toNatClampNeg) S3).bind fun q79 =>
  lt (q79.2) fun S80 =>
  if q77.1 = q79.1 then
    j4 (X78, S80)
  else
    some ((0 : Int32), (X78, S80))
theorem lw12_ok {Ln v : Nat} {xs : Nat → Int32} {X : M3} {S : M2} (h : R X S) (hv : v + 4 < Ln) (hL : Ln ≤ 320) : OKL (lw12 Ln xs (nI v) X S) := by
  obtain ⟨a, X', S', h1, h2, h3⟩ := k_patch h (xs (v + 1)) (xs (v + 2))
  refine ⟨X', S', fun j => ?_, h3⟩
  simp (disch := omega) only [lw12, q_ltn, q_lit, nI_add, q_bnd, q_cl, q_some, h1, h2, lg_self, if_true]
def lw13 (Ln : Nat) (xs : Nat → Int32) (v1 : Int32) (X2 : M3) (S3 : M2) (j4 : M3 × M2 → Option (Int32 × (M3 × M2))) : Option (Int32 × (M3 × M2)) :=
  bnd (v1 + (1 : Int32)) Ln <|
  (fX4_prick (xs (v1 + (1 : Int32)).toNatClampNeg) X2).bind fun q83 =>
  lt (q83.2) fun X84 =>
  bnd (v1 + (1 : Int32)) Ln <|
  (fX5_prick (xs (v1 + (1 : Int32)).toNatClampNeg) S3).bind fun q85 =>
  lt (q85.2) fun S86 =>
  if q83.1 = q85.1 then
    j4 (X84, S86)
  else
    some ((0 : Int32), (X84, S86))
theorem lw13_ok {Ln v : Nat} {xs : Nat → Int32} {X : M3} {S : M2} (h : R X S) (hv : v + 4 < Ln) (hL : Ln ≤ 320) : OKL (lw13 Ln xs (nI v) X S) := by
  obtain ⟨a, X', S', h1, h2, h3⟩ := k_prick h (xs (v + 1))
  refine ⟨X', S', fun j => ?_, h3⟩
  simp (disch := omega) only [lw13, q_ltn, q_lit, nI_add, q_bnd, q_cl, q_some, h1, h2, lg_self, if_true]
def lw14 (Ln : Nat) (xs : Nat → Int32) (v1 : Int32) (X2 : M3) (S3 : M2) (j4 : M3 × M2 → Option (Int32 × (M3 × M2))) : Option (Int32 × (M3 × M2)) :=
  bnd (v1 + (1 : Int32)) Ln <|
  bnd (v1 + (2 : Int32)) Ln <|
  bnd (v1 + (3 : Int32)) Ln <|
  (fX4_alter (xs (v1 + (1 : Int32)).toNatClampNeg) (xs (v1 + (2 : Int32)).toNatClampNeg) (xs (v1 + (3 : Int32)).toNatClampNeg) X2).bind fun q89 =>
  lt (q89.2) fun X90 =>
  bnd (v1 + (1 : Int32)) Ln <|
  bnd (v1 + (2 : Int32)) Ln <|
  bnd (v1 + (3 : Int32)) Ln <|
  (fX5_alter (xs (v1 + (1 : Int32)).toNatClampNeg) (xs (v1 + (2 : Int32)).toNatClampNeg) (xs (v1 + (3 : Int32)).toNatClampNeg) S3).bind fun q91 =>
  lt (q91.2) fun S92 =>
  if q89.1 = q91.1 then
    j4 (X90, S92)
  else
    some ((0 : Int32), (X90, S92))
theorem lw14_ok {Ln v : Nat} {xs : Nat → Int32} {X : M3} {S : M2} (h : R X S) (hv : v + 4 < Ln) (hL : Ln ≤ 320) : OKL (lw14 Ln xs (nI v) X S) := by
  obtain ⟨a, X', S', h1, h2, h3⟩ := k_alter h (xs (v + 1)) (xs (v + 2)) (xs (v + 3))
  refine ⟨X', S', fun j => ?_, h3⟩
  simp (disch := omega) only [lw14, q_ltn, q_lit, nI_add, q_bnd, q_cl, q_some, h1, h2, lg_self, if_true]
def lw15 (Ln : Nat) (xs : Nat → Int32) (v1 : Int32) (X2 : M3) (S3 : M2) (j4 : M3 × M2 → Option (Int32 × (M3 × M2))) : Option (Int32 × (M3 × M2)) :=
  bnd (v1 + (1 : Int32)) Ln <|
  bnd (v1 + (2 : Int32)) Ln <|
  (fX4_set (xs (v1 + (1 : Int32)).toNatClampNeg) (xs (v1 + (2 : Int32)).toNatClampNeg) X2).bind fun q95 =>
  lt (q95.2) fun X96 =>
  bnd (v1 + (1 : Int32)) Ln <|
  bnd (v1 + (2 : Int32)) Ln <|
  (fX5_set (xs (v1 + (1 : Int32)).toNatClampNeg) (xs (v1 + (2 : Int32)).toNatClampNeg) S3).bind fun q97 =>
  lt (q97.2) fun S98 =>
  if q95.1 = q97.1 then
    j4 (X96, S98)
  else
    some ((0 : Int32), (X96, S98))
theorem lw15_ok {Ln v : Nat} {xs : Nat → Int32} {X : M3} {S : M2} (h : R X S) (hv : v + 4 < Ln) (hL : Ln ≤ 320) : OKL (lw15 Ln xs (nI v) X S) := by
  obtain ⟨a, X', S', h1, h2, h3⟩ := k_set h (xs (v + 1)) (xs (v + 2))
  refine ⟨X', S', fun j => ?_, h3⟩
  simp (disch := omega) only [lw15, q_ltn, q_lit, nI_add, q_bnd, q_cl, q_some, h1, h2, lg_self, if_true]
def lw16 (Ln : Nat) (xs : Nat → Int32) (v1 : Int32) (X2 : M3) (S3 : M2) (j4 : M3 × M2 → Option (Int32 × (M3 × M2))) : Option (Int32 × (M3 × M2)) :=
  bnd (v1 + (1 : Int32)) Ln <|
  (fX4_go (xs (v1 + (1 : Int32)).toNatClampNeg) X2).bind fun q101 =>
  lt (q101.2) fun X102 =>
  bnd (v1 + (1 : Int32)) Ln <|
  (fX5_go (xs (v1 + (1 : Int32)).toNatClampNeg) S3).bind fun q103 =>
  lt (q103.2) fun S104 =>
  if q101.1 = q103.1 then
    j4 (X102, S104)
  else
    some ((0 : Int32), (X102, S104))
theorem lw16_ok {Ln v : Nat} {xs : Nat → Int32} {X : M3} {S : M2} (h : R X S) (hv : v + 4 < Ln) (hL : Ln ≤ 320) : OKL (lw16 Ln xs (nI v) X S) := by
  obtain ⟨a, X', S', h1, h2, h3⟩ := k_go h (xs (v + 1))
  refine ⟨X', S', fun j => ?_, h3⟩
  simp (disch := omega) only [lw16, q_ltn, q_lit, nI_add, q_bnd, q_cl, q_some, h1, h2, lg_self, if_true]
def lw17 (Ln : Nat) (xs : Nat → Int32) (v1 : Int32) (X2 : M3) (S3 : M2) (j4 : M3 × M2 → Option (Int32 × (M3 × M2))) : Option (Int32 × (M3 × M2)) :=
  bnd (v1 + (1 : Int32)) Ln <|
  bnd (v1 + (2 : Int32)) Ln <|
  (fX4_ahead (xs (v1 + (1 : Int32)).toNatClampNeg) (xs (v1 + (2 : Int32)).toNatClampNeg) X2).bind fun q107 =>
  lt (q107.2) fun X108 =>
  bnd (v1 + (1 : Int32)) Ln <|
  bnd (v1 + (2 : Int32)) Ln <|
  (fX5_ahead (xs (v1 + (1 : Int32)).toNatClampNeg) (xs (v1 + (2 : Int32)).toNatClampNeg) S3).bind fun q109 =>
  lt (q109.2) fun S110 =>
  if q107.1 = q109.1 then
    j4 (X108, S110)
  else
    some ((0 : Int32), (X108, S110))
theorem lw17_ok {Ln v : Nat} {xs : Nat → Int32} {X : M3} {S : M2} (h : R X S) (hv : v + 4 < Ln) (hL : Ln ≤ 320) : OKL (lw17 Ln xs (nI v) X S) := by
  obtain ⟨a, X', S', h1, h2, h3⟩ := k_ahead h (xs (v + 1)) (xs (v + 2))
  refine ⟨X', S', fun j => ?_, h3⟩
  simp (disch := omega) only [lw17, q_ltn, q_lit, nI_add, q_bnd, q_cl, q_some, h1, h2, lg_self, if_true]
def lw18 (Ln : Nat) (xs : Nat → Int32) (v1 : Int32) (X2 : M3) (S3 : M2) (j4 : M3 × M2 → Option (Int32 × (M3 × M2))) : Option (Int32 × (M3 × M2)) :=
  bnd (v1 + (1 : Int32)) Ln <|
  (fX4_when (xs (v1 + (1 : Int32)).toNatClampNeg) X2).bind fun q113 =>
  lt (q113.2) fun X114 =>
  bnd (v1 + (1 : Int32)) Ln <|
  (fX5_when (xs (v1 + (1 : Int32)).toNatClampNeg) S3).bind fun q115 =>
  lt (q115.2) fun S116 =>
  if q113.1 = q115.1 then
    j4 (X114, S116)
  else
    some ((0 : Int32), (X114, S116))
theorem lw18_ok {Ln v : Nat} {xs : Nat → Int32} {X : M3} {S : M2} (h : R X S) (hv : v + 4 < Ln) (hL : Ln ≤ 320) : OKL (lw18 Ln xs (nI v) X S) := by
  obtain ⟨a, X', S', h1, h2, h3⟩ := k_when h (xs (v + 1))
  refine ⟨X', S', fun j => ?_, h3⟩
  simp (disch := omega) only [lw18, q_ltn, q_lit, nI_add, q_bnd, q_cl, q_some, h1, h2, lg_self, if_true]
def lw19 (Ln : Nat) (xs : Nat → Int32) (v1 : Int32) (X2 : M3) (S3 : M2) (j4 : M3 × M2 → Option (Int32 × (M3 × M2))) : Option (Int32 × (M3 × M2)) :=
  bnd (v1 + (1 : Int32)) Ln <|
  (fX4_eats (xs (v1 + (1 : Int32)).toNatClampNeg) X2).bind fun q119 =>
  lt (q119.2) fun X120 =>
  bnd (v1 + (1 : Int32)) Ln <|
  (fX5_eats (xs (v1 + (1 : Int32)).toNatClampNeg) S3).bind fun q121 =>
  lt (q121.2) fun S122 =>
  if q119.1 = q121.1 then
    j4 (X120, S122)
  else
    some ((0 : Int32), (X120, S122))
theorem lw19_ok {Ln v : Nat} {xs : Nat → Int32} {X : M3} {S : M2} (h : R X S) (hv : v + 4 < Ln) (hL : Ln ≤ 320) : OKL (lw19 Ln xs (nI v) X S) := by
  obtain ⟨a, X', S', h1, h2, h3⟩ := k_eats h (xs (v + 1))
  refine ⟨X', S', fun j => ?_, h3⟩
  simp (disch := omega) only [lw19, q_ltn, q_lit, nI_add, q_bnd, q_cl, q_some, h1, h2, lg_self, if_true]
def lw20 (Ln : Nat) (xs : Nat → Int32) (v1 : Int32) (X2 : M3) (S3 : M2) (j4 : M3 × M2 → Option (Int32 × (M3 × M2))) : Option (Int32 × (M3 × M2)) :=
  bnd (v1 + (1 : Int32)) Ln <|
  (fX4_duty (xs (v1 + (1 : Int32)).toNatClampNeg) X2).bind fun q125 =>
  lt (q125.2) fun X126 =>
  bnd (v1 + (1 : Int32)) Ln <|
  (fX5_duty (xs (v1 + (1 : Int32)).toNatClampNeg) S3).bind fun q127 =>
  lt (q127.2) fun S128 =>
  if q125.1 = q127.1 then
    j4 (X126, S128)
  else
    some ((0 : Int32), (X126, S128))
theorem lw20_ok {Ln v : Nat} {xs : Nat → Int32} {X : M3} {S : M2} (h : R X S) (hv : v + 4 < Ln) (hL : Ln ≤ 320) : OKL (lw20 Ln xs (nI v) X S) := by
  obtain ⟨a, X', S', h1, h2, h3⟩ := k_duty h (xs (v + 1))
  refine ⟨X', S', fun j => ?_, h3⟩
  simp (disch := omega) only [lw20, q_ltn, q_lit, nI_add, q_bnd, q_cl, q_some, h1, h2, lg_self, if_true]
def lw21 (Ln : Nat) (xs : Nat → Int32) (v1 : Int32) (X2 : M3) (S3 : M2) (j4 : M3 × M2 → Option (Int32 × (M3 × M2))) : Option (Int32 × (M3 × M2)) :=
  bnd (v1 + (1 : Int32)) Ln <|
  (fX4_best (xs (v1 + (1 : Int32)).toNatClampNeg) X2).bind fun q131 =>
  lt (q131.2) fun X132 =>
  bnd (v1 + (1 : Int32)) Ln <|
  (fX5_best (xs (v1 + (1 : Int32)).toNatClampNeg) S3).bind fun q133 =>
  lt (q133.2) fun S134 =>
  if q131.1 = q133.1 then
    j4 (X132, S134)
  else
    some ((0 : Int32), (X132, S134))
theorem lw21_ok {Ln v : Nat} {xs : Nat → Int32} {X : M3} {S : M2} (h : R X S) (hv : v + 4 < Ln) (hL : Ln ≤ 320) : OKL (lw21 Ln xs (nI v) X S) := by
  obtain ⟨a, X', S', h1, h2, h3⟩ := k_best h (xs (v + 1))
  refine ⟨X', S', fun j => ?_, h3⟩
  simp (disch := omega) only [lw21, q_ltn, q_lit, nI_add, q_bnd, q_cl, q_some, h1, h2, lg_self, if_true]
def lw22 (Ln : Nat) (xs : Nat → Int32) (v1 : Int32) (X2 : M3) (S3 : M2) (j4 : M3 × M2 → Option (Int32 × (M3 × M2))) : Option (Int32 × (M3 × M2)) :=
  bnd (v1 + (1 : Int32)) Ln <|
  (fX4_guard (xs (v1 + (1 : Int32)).toNatClampNeg) X2).bind fun q137 =>
  lt (q137.2) fun X138 =>
  bnd (v1 + (1 : Int32)) Ln <|
  (fX5_guard (xs (v1 + (1 : Int32)).toNatClampNeg) S3).bind fun q139 =>
  lt (q139.2) fun S140 =>
  if q137.1 = q139.1 then
    j4 (X138, S140)
  else
    some ((0 : Int32), (X138, S140))
theorem lw22_ok {Ln v : Nat} {xs : Nat → Int32} {X : M3} {S : M2} (h : R X S) (hv : v + 4 < Ln) (hL : Ln ≤ 320) : OKL (lw22 Ln xs (nI v) X S) := by
  obtain ⟨a, X', S', h1, h2, h3⟩ := k_guard h (xs (v + 1))
  refine ⟨X', S', fun j => ?_, h3⟩
  simp (disch := omega) only [lw22, q_ltn, q_lit, nI_add, q_bnd, q_cl, q_some, h1, h2, lg_self, if_true]
def lw23 (Ln : Nat) (xs : Nat → Int32) (v1 : Int32) (X2 : M3) (S3 : M2) (j4 : M3 × M2 → Option (Int32 × (M3 × M2))) : Option (Int32 × (M3 × M2)) :=
  bnd (v1 + (1 : Int32)) Ln <|
  bnd (v1 + (2 : Int32)) Ln <|
  (fX4_send (xs (v1 + (1 : Int32)).toNatClampNeg) (xs (v1 + (2 : Int32)).toNatClampNeg) X2).bind fun q143 =>
  lt (q143.2) fun X144 =>
  bnd (v1 + (1 : Int32)) Ln <|
  bnd (v1 + (2 : Int32)) Ln <|
  (fX5_send (xs (v1 + (1 : Int32)).toNatClampNeg) (xs (v1 + (2 : Int32)).toNatClampNeg) S3).bind fun q145 =>
  lt (q145.2) fun S146 =>
  if q143.1 = q145.1 then
    j4 (X144, S146)
  else
    some ((0 : Int32), (X144, S146))
theorem lw23_ok {Ln v : Nat} {xs : Nat → Int32} {X : M3} {S : M2} (h : R X S) (hv : v + 4 < Ln) (hL : Ln ≤ 320) : OKL (lw23 Ln xs (nI v) X S) := by
  obtain ⟨a, X', S', h1, h2, h3⟩ := k_send h (xs (v + 1)) (xs (v + 2))
  refine ⟨X', S', fun j => ?_, h3⟩
  simp (disch := omega) only [lw23, q_ltn, q_lit, nI_add, q_bnd, q_cl, q_some, h1, h2, lg_self, if_true]
def lw24 (Ln : Nat) (xs : Nat → Int32) (v1 : Int32) (X2 : M3) (S3 : M2) (j4 : M3 × M2 → Option (Int32 × (M3 × M2))) : Option (Int32 × (M3 × M2)) :=
  bnd (v1 + (1 : Int32)) Ln <|
  (fX4_raise (xs (v1 + (1 : Int32)).toNatClampNeg) X2).bind fun q149 =>
  lt (q149.2) fun X150 =>
  bnd (v1 + (1 : Int32)) Ln <|
  (fX5_raise (xs (v1 + (1 : Int32)).toNatClampNeg) S3).bind fun q151 =>
  lt (q151.2) fun S152 =>
  if q149.1 = q151.1 then
    j4 (X150, S152)
  else
    some ((0 : Int32), (X150, S152))
theorem lw24_ok {Ln v : Nat} {xs : Nat → Int32} {X : M3} {S : M2} (h : R X S) (hv : v + 4 < Ln) (hL : Ln ≤ 320) : OKL (lw24 Ln xs (nI v) X S) := by
  obtain ⟨a, X', S', h1, h2, h3⟩ := k_raise h (xs (v + 1))
  refine ⟨X', S', fun j => ?_, h3⟩
  simp (disch := omega) only [lw24, q_ltn, q_lit, nI_add, q_bnd, q_cl, q_some, h1, h2, lg_self, if_true]
def lw25 (Ln : Nat) (xs : Nat → Int32) (v1 : Int32) (X2 : M3) (S3 : M2) (j4 : M3 × M2 → Option (Int32 × (M3 × M2))) : Option (Int32 × (M3 × M2)) :=
  bnd (v1 + (1 : Int32)) Ln <|
  bnd (v1 + (2 : Int32)) Ln <|
  (fX4_mean (xs (v1 + (1 : Int32)).toNatClampNeg) (xs (v1 + (2 : Int32)).toNatClampNeg) X2).bind fun q155 =>
  lt (q155.2) fun X156 =>
  bnd (v1 + (1 : Int32)) Ln <|
  bnd (v1 + (2 : Int32)) Ln <|
  (fX5_mean (xs (v1 + (1 : Int32)).toNatClampNeg) (xs (v1 + (2 : Int32)).toNatClampNeg) S3).bind fun q157 =>
  lt (q157.2) fun S158 =>
  if (lg_cmp q155.1 q157.1) = 0 then
    j4 (X156, S158)
  else
    some ((0 : Int32), (X156, S158))
theorem lw25_ok {Ln v : Nat} {xs : Nat → Int32} {X : M3} {S : M2} (h : R X S) (hv : v + 4 < Ln) (hL : Ln ≤ 320) : OKL (lw25 Ln xs (nI v) X S) := by
  obtain ⟨a, X', S', h1, h2, h3⟩ := k_mean h (xs (v + 1)) (xs (v + 2))
  refine ⟨X', S', fun j => ?_, h3⟩
  simp (disch := omega) only [lw25, q_ltn, q_lit, nI_add, q_bnd, q_cl, q_some, h1, h2, lg_self, if_true]
def lw26 (Ln : Nat) (xs : Nat → Int32) (v1 : Int32) (X2 : M3) (S3 : M2) (j4 : M3 × M2 → Option (Int32 × (M3 × M2))) : Option (Int32 × (M3 × M2)) :=
  bnd (v1 + (1 : Int32)) Ln <|
  bnd (v1 + (2 : Int32)) Ln <|
  bnd (v1 + (3 : Int32)) Ln <|
  (fX4_luck (xs (v1 + (1 : Int32)).toNatClampNeg) (xs (v1 + (2 : Int32)).toNatClampNeg) (xs (v1 + (3 : Int32)).toNatClampNeg) X2).bind fun q161 =>
  lt (q161.2) fun X162 =>
  bnd (v1 + (1 : Int32)) Ln <|
  bnd (v1 + (2 : Int32)) Ln <|
  bnd (v1 + (3 : Int32)) Ln <|
  (fX5_luck (xs (v1 + (1 : Int32)).toNatClampNeg) (xs (v1 + (2 : Int32)).toNatClampNeg) (xs (v1 + (3 : Int32)).toNatClampNeg) S3).bind fun q163 =>
  lt (q163.2) fun S164 =>
  if (lg_cmp q161.1 q163.1) = 0 then
    j4 (X162, S164)
  else
    some ((0 : Int32), (X162, S164))
theorem lw26_ok {Ln v : Nat} {xs : Nat → Int32} {X : M3} {S : M2} (h : R X S) (hv : v + 4 < Ln) (hL : Ln ≤ 320) : OKL (lw26 Ln xs (nI v) X S) := by
  obtain ⟨a, X', S', h1, h2, h3⟩ := k_luck h (xs (v + 1)) (xs (v + 2)) (xs (v + 3))
  refine ⟨X', S', fun j => ?_, h3⟩
  simp (disch := omega) only [lw26, q_ltn, q_lit, nI_add, q_bnd, q_cl, q_some, h1, h2, lg_self, if_true]
def lw27 (Ln : Nat) (xs : Nat → Int32) (v1 : Int32) (X2 : M3) (S3 : M2) (j4 : M3 × M2 → Option (Int32 × (M3 × M2))) : Option (Int32 × (M3 × M2)) :=
  bnd (v1 + (1 : Int32)) Ln <|
  bnd (v1 + (2 : Int32)) Ln <|
  (fX4_see (xs (v1 + (1 : Int32)).toNatClampNeg) (xs (v1 + (2 : Int32)).toNatClampNeg) X2).bind fun q167 =>
  lt (q167.2) fun X168 =>
  bnd (v1 + (1 : Int32)) Ln <|
  bnd (v1 + (2 : Int32)) Ln <|
  (fX5_see (xs (v1 + (1 : Int32)).toNatClampNeg) (xs (v1 + (2 : Int32)).toNatClampNeg) S3).bind fun q169 =>
  lt (q169.2) fun S170 =>
  if q167.1 = q169.1 then
    j4 (X168, S170)
  else
    some ((0 : Int32), (X168, S170))
theorem lw27_ok {Ln v : Nat} {xs : Nat → Int32} {X : M3} {S : M2} (h : R X S) (hv : v + 4 < Ln) (hL : Ln ≤ 320) : OKL (lw27 Ln xs (nI v) X S) := by
  obtain ⟨a, X', S', h1, h2, h3⟩ := k_see h (xs (v + 1)) (xs (v + 2))
  refine ⟨X', S', fun j => ?_, h3⟩
  simp (disch := omega) only [lw27, q_ltn, q_lit, nI_add, q_bnd, q_cl, q_some, h1, h2, lg_self, if_true]
def lw28 (Ln : Nat) (xs : Nat → Int32) (v1 : Int32) (X2 : M3) (S3 : M2) (j4 : M3 × M2 → Option (Int32 × (M3 × M2))) : Option (Int32 × (M3 × M2)) :=
  bnd (v1 + (1 : Int32)) Ln <|
  (fX4_forget (xs (v1 + (1 : Int32)).toNatClampNeg) X2).bind fun q173 =>
  lt (q173.2) fun X174 =>
  bnd (v1 + (1 : Int32)) Ln <|
  (fX5_forget (xs (v1 + (1 : Int32)).toNatClampNeg) S3).bind fun q175 =>
  lt (q175.2) fun S176 =>
  if q173.1 = q175.1 then
    j4 (X174, S176)
  else
    some ((0 : Int32), (X174, S176))
theorem lw28_ok {Ln v : Nat} {xs : Nat → Int32} {X : M3} {S : M2} (h : R X S) (hv : v + 4 < Ln) (hL : Ln ≤ 320) : OKL (lw28 Ln xs (nI v) X S) := by
  obtain ⟨a, X', S', h1, h2, h3⟩ := k_forget h (xs (v + 1))
  refine ⟨X', S', fun j => ?_, h3⟩
  simp (disch := omega) only [lw28, q_ltn, q_lit, nI_add, q_bnd, q_cl, q_some, h1, h2, lg_self, if_true]
def lw29 (Ln : Nat) (xs : Nat → Int32) (v1 : Int32) (X2 : M3) (S3 : M2) (j4 : M3 × M2 → Option (Int32 × (M3 × M2))) : Option (Int32 × (M3 × M2)) :=
  bnd (v1 + (1 : Int32)) Ln <|
  (fX4_tastes (xs (v1 + (1 : Int32)).toNatClampNeg) X2).bind fun q179 =>
  lt (q179.2) fun X180 =>
  bnd (v1 + (1 : Int32)) Ln <|
  (fX5_tastes (xs (v1 + (1 : Int32)).toNatClampNeg) S3).bind fun q181 =>
  lt (q181.2) fun S182 =>
  if q179.1 = q181.1 then
    j4 (X180, S182)
  else
    some ((0 : Int32), (X180, S182))
theorem lw29_ok {Ln v : Nat} {xs : Nat → Int32} {X : M3} {S : M2} (h : R X S) (hv : v + 4 < Ln) (hL : Ln ≤ 320) : OKL (lw29 Ln xs (nI v) X S) := by
  obtain ⟨a, X', S', h1, h2, h3⟩ := k_tastes h (xs (v + 1))
  refine ⟨X', S', fun j => ?_, h3⟩
  simp (disch := omega) only [lw29, q_ltn, q_lit, nI_add, q_bnd, q_cl, q_some, h1, h2, lg_self, if_true]
def lw30 (Ln : Nat) (xs : Nat → Int32) (v1 : Int32) (X2 : M3) (S3 : M2) (j4 : M3 × M2 → Option (Int32 × (M3 × M2))) : Option (Int32 × (M3 × M2)) :=
  (fX4_bought  X2).bind fun q185 =>
  lt (q185.2) fun X186 =>
  (fX5_bought  S3).bind fun q187 =>
  lt (q187.2) fun S188 =>
  if q185.1 = q187.1 then
    j4 (X186, S188)
  else
    some ((0 : Int32), (X186, S188))
theorem lw30_ok {Ln v : Nat} {xs : Nat → Int32} {X : M3} {S : M2} (h : R X S) (hv : v + 4 < Ln) (hL : Ln ≤ 320) : OKL (lw30 Ln xs (nI v) X S) := by
  obtain ⟨a, X', S', h1, h2, h3⟩ := k_bought h 
  refine ⟨X', S', fun j => ?_, h3⟩
  simp (disch := omega) only [lw30, q_ltn, q_lit, nI_add, q_bnd, q_cl, q_some, h1, h2, lg_self, if_true]
def lw31 (Ln : Nat) (xs : Nat → Int32) (v1 : Int32) (X2 : M3) (S3 : M2) (j4 : M3 × M2 → Option (Int32 × (M3 × M2))) : Option (Int32 × (M3 × M2)) :=
  bnd (v1 + (1 : Int32)) Ln <|
  (fX4_pricked (xs (v1 + (1 : Int32)).toNatClampNeg) X2).bind fun q191 =>
  lt (q191.2) fun X192 =>
  bnd (v1 + (1 : Int32)) Ln <|
  (fX5_pricked (xs (v1 + (1 : Int32)).toNatClampNeg) S3).bind fun q193 =>
  lt (q193.2) fun S194 =>
  if q191.1 = q193.1 then
    j4 (X192, S194)
  else
    some ((0 : Int32), (X192, S194))
theorem lw31_ok {Ln v : Nat} {xs : Nat → Int32} {X : M3} {S : M2} (h : R X S) (hv : v + 4 < Ln) (hL : Ln ≤ 320) : OKL (lw31 Ln xs (nI v) X S) := by
  obtain ⟨a, X', S', h1, h2, h3⟩ := k_pricked h (xs (v + 1))
  refine ⟨X', S', fun j => ?_, h3⟩
  simp (disch := omega) only [lw31, q_ltn, q_lit, nI_add, q_bnd, q_cl, q_some, h1, h2, lg_self, if_true]
def lw32 (Ln : Nat) (xs : Nat → Int32) (v1 : Int32) (X2 : M3) (S3 : M2) (j4 : M3 × M2 → Option (Int32 × (M3 × M2))) : Option (Int32 × (M3 × M2)) :=
  bnd (v1 + (1 : Int32)) Ln <|
  (fX4_lain (xs (v1 + (1 : Int32)).toNatClampNeg) X2).bind fun q197 =>
  lt (q197.2) fun X198 =>
  bnd (v1 + (1 : Int32)) Ln <|
  (fX5_lain (xs (v1 + (1 : Int32)).toNatClampNeg) S3).bind fun q199 =>
  lt (q199.2) fun S200 =>
  if q197.1 = q199.1 then
    j4 (X198, S200)
  else
    some ((0 : Int32), (X198, S200))
theorem lw32_ok {Ln v : Nat} {xs : Nat → Int32} {X : M3} {S : M2} (h : R X S) (hv : v + 4 < Ln) (hL : Ln ≤ 320) : OKL (lw32 Ln xs (nI v) X S) := by
  obtain ⟨a, X', S', h1, h2, h3⟩ := k_lain h (xs (v + 1))
  refine ⟨X', S', fun j => ?_, h3⟩
  simp (disch := omega) only [lw32, q_ltn, q_lit, nI_add, q_bnd, q_cl, q_some, h1, h2, lg_self, if_true]
def lw33 (Ln : Nat) (xs : Nat → Int32) (v1 : Int32) (X2 : M3) (S3 : M2) (j4 : M3 × M2 → Option (Int32 × (M3 × M2))) : Option (Int32 × (M3 × M2)) :=
  bnd (v1 + (1 : Int32)) Ln <|
  bnd (v1 + (2 : Int32)) Ln <|
  bnd (v1 + (3 : Int32)) Ln <|
  (fX4_drift (xs (v1 + (1 : Int32)).toNatClampNeg) (xs (v1 + (2 : Int32)).toNatClampNeg) (xs (v1 + (3 : Int32)).toNatClampNeg) X2).bind fun q203 =>
  lt (q203.2) fun X204 =>
  bnd (v1 + (1 : Int32)) Ln <|
  bnd (v1 + (2 : Int32)) Ln <|
  bnd (v1 + (3 : Int32)) Ln <|
  (fX5_drift (xs (v1 + (1 : Int32)).toNatClampNeg) (xs (v1 + (2 : Int32)).toNatClampNeg) (xs (v1 + (3 : Int32)).toNatClampNeg) S3).bind fun q205 =>
  lt (q205.2) fun S206 =>
  if q203.1 = q205.1 then
    j4 (X204, S206)
  else
    some ((0 : Int32), (X204, S206))
theorem lw33_ok {Ln v : Nat} {xs : Nat → Int32} {X : M3} {S : M2} (h : R X S) (hv : v + 4 < Ln) (hL : Ln ≤ 320) : OKL (lw33 Ln xs (nI v) X S) := by
  obtain ⟨a, X', S', h1, h2, h3⟩ := k_drift h (xs (v + 1)) (xs (v + 2)) (xs (v + 3))
  refine ⟨X', S', fun j => ?_, h3⟩
  simp (disch := omega) only [lw33, q_ltn, q_lit, nI_add, q_bnd, q_cl, q_some, h1, h2, lg_self, if_true]
def lw34 (Ln : Nat) (xs : Nat → Int32) (v1 : Int32) (X2 : M3) (S3 : M2) (j4 : M3 × M2 → Option (Int32 × (M3 × M2))) : Option (Int32 × (M3 × M2)) :=
  bnd (v1 + (1 : Int32)) Ln <|
  (fX4_keep (xs (v1 + (1 : Int32)).toNatClampNeg) X2).bind fun q209 =>
  lt (q209.2) fun X210 =>
  bnd (v1 + (1 : Int32)) Ln <|
  (fX5_keep (xs (v1 + (1 : Int32)).toNatClampNeg) S3).bind fun q211 =>
  lt (q211.2) fun S212 =>
  if q209.1 = q211.1 then
    j4 (X210, S212)
  else
    some ((0 : Int32), (X210, S212))
theorem lw34_ok {Ln v : Nat} {xs : Nat → Int32} {X : M3} {S : M2} (h : R X S) (hv : v + 4 < Ln) (hL : Ln ≤ 320) : OKL (lw34 Ln xs (nI v) X S) := by
  obtain ⟨a, X', S', h1, h2, h3⟩ := k_keep h (xs (v + 1))
  refine ⟨X', S', fun j => ?_, h3⟩
  simp (disch := omega) only [lw34, q_ltn, q_lit, nI_add, q_bnd, q_cl, q_some, h1, h2, lg_self, if_true]
def lw35 (Ln : Nat) (xs : Nat → Int32) (v1 : Int32) (X2 : M3) (S3 : M2) (j4 : M3 × M2 → Option (Int32 × (M3 × M2))) : Option (Int32 × (M3 × M2)) :=
  bnd (v1 + (1 : Int32)) Ln <|
  (fX4_back (xs (v1 + (1 : Int32)).toNatClampNeg) X2).bind fun q215 =>
  lt (q215.2) fun X216 =>
  bnd (v1 + (1 : Int32)) Ln <|
  (fX5_back (xs (v1 + (1 : Int32)).toNatClampNeg) S3).bind fun q217 =>
  lt (q217.2) fun S218 =>
  if q215.1 = q217.1 then
    j4 (X216, S218)
  else
    some ((0 : Int32), (X216, S218))
theorem lw35_ok {Ln v : Nat} {xs : Nat → Int32} {X : M3} {S : M2} (h : R X S) (hv : v + 4 < Ln) (hL : Ln ≤ 320) : OKL (lw35 Ln xs (nI v) X S) := by
  obtain ⟨a, X', S', h1, h2, h3⟩ := k_back h (xs (v + 1))
  refine ⟨X', S', fun j => ?_, h3⟩
  simp (disch := omega) only [lw35, q_ltn, q_lit, nI_add, q_bnd, q_cl, q_some, h1, h2, lg_self, if_true]
def lw36 (Ln : Nat) (xs : Nat → Int32) (v1 : Int32) (X2 : M3) (S3 : M2) (j4 : M3 × M2 → Option (Int32 × (M3 × M2))) : Option (Int32 × (M3 × M2)) :=
  bnd (v1 + (1 : Int32)) Ln <|
  bnd (v1 + (2 : Int32)) Ln <|
  bnd (v1 + (3 : Int32)) Ln <|
  (fX4_sheet (xs (v1 + (1 : Int32)).toNatClampNeg) (xs (v1 + (2 : Int32)).toNatClampNeg) (xs (v1 + (3 : Int32)).toNatClampNeg) X2).bind fun q221 =>
  lt (q221.2) fun X222 =>
  bnd (v1 + (1 : Int32)) Ln <|
  bnd (v1 + (2 : Int32)) Ln <|
  bnd (v1 + (3 : Int32)) Ln <|
  (fX5_sheet (xs (v1 + (1 : Int32)).toNatClampNeg) (xs (v1 + (2 : Int32)).toNatClampNeg) (xs (v1 + (3 : Int32)).toNatClampNeg) S3).bind fun q223 =>
  lt (q223.2) fun S224 =>
  if q221.1 = q223.1 then
    j4 (X222, S224)
  else
    some ((0 : Int32), (X222, S224))
theorem lw36_ok {Ln v : Nat} {xs : Nat → Int32} {X : M3} {S : M2} (h : R X S) (hv : v + 4 < Ln) (hL : Ln ≤ 320) : OKL (lw36 Ln xs (nI v) X S) := by
  obtain ⟨a, X', S', h1, h2, h3⟩ := k_sheet h (xs (v + 1)) (xs (v + 2)) (xs (v + 3))
  refine ⟨X', S', fun j => ?_, h3⟩
  simp (disch := omega) only [lw36, q_ltn, q_lit, nI_add, q_bnd, q_cl, q_some, h1, h2, lg_self, if_true]
def lw37 (Ln : Nat) (xs : Nat → Int32) (v1 : Int32) (X2 : M3) (S3 : M2) (j4 : M3 × M2 → Option (Int32 × (M3 × M2))) : Option (Int32 × (M3 × M2)) :=
  bnd (v1 + (1 : Int32)) Ln <|
  bnd (v1 + (2 : Int32)) Ln <|
  bnd (v1 + (3 : Int32)) Ln <|
  (fX4_lay (xs (v1 + (1 : Int32)).toNatClampNeg) (xs (v1 + (2 : Int32)).toNatClampNeg) (xs (v1 + (3 : Int32)).toNatClampNeg) X2).bind fun q227 =>
  lt (q227.2) fun X228 =>
  bnd (v1 + (1 : Int32)) Ln <|
  bnd (v1 + (2 : Int32)) Ln <|
  bnd (v1 + (3 : Int32)) Ln <|
  (fX5_lay (xs (v1 + (1 : Int32)).toNatClampNeg) (xs (v1 + (2 : Int32)).toNatClampNeg) (xs (v1 + (3 : Int32)).toNatClampNeg) S3).bind fun q229 =>
  lt (q229.2) fun S230 =>
  if q227.1 = q229.1 then
    j4 (X228, S230)
  else
    some ((0 : Int32), (X228, S230))
theorem lw37_ok {Ln v : Nat} {xs : Nat → Int32} {X : M3} {S : M2} (h : R X S) (hv : v + 4 < Ln) (hL : Ln ≤ 320) : OKL (lw37 Ln xs (nI v) X S) := by
  obtain ⟨a, X', S', h1, h2, h3⟩ := k_lay h (xs (v + 1)) (xs (v + 2)) (xs (v + 3))
  refine ⟨X', S', fun j => ?_, h3⟩
  simp (disch := omega) only [lw37, q_ltn, q_lit, nI_add, q_bnd, q_cl, q_some, h1, h2, lg_self, if_true]
def lw38 (Ln : Nat) (xs : Nat → Int32) (v1 : Int32) (X2 : M3) (S3 : M2) (j4 : M3 × M2 → Option (Int32 × (M3 × M2))) : Option (Int32 × (M3 × M2)) :=
  bnd (v1 + (1 : Int32)) Ln <|
  bnd (v1 + (2 : Int32)) Ln <|
  bnd (v1 + (3 : Int32)) Ln <|
  bnd (v1 + (4 : Int32)) Ln <|
  (fX4_read (xs (v1 + (1 : Int32)).toNatClampNeg) (xs (v1 + (2 : Int32)).toNatClampNeg) (xs (v1 + (3 : Int32)).toNatClampNeg) (xs (v1 + (4 : Int32)).toNatClampNeg) X2).bind fun q233 =>
  lt (q233.2) fun X234 =>
  bnd (v1 + (1 : Int32)) Ln <|
  bnd (v1 + (2 : Int32)) Ln <|
  bnd (v1 + (3 : Int32)) Ln <|
  bnd (v1 + (4 : Int32)) Ln <|
  (fX5_read (xs (v1 + (1 : Int32)).toNatClampNeg) (xs (v1 + (2 : Int32)).toNatClampNeg) (xs (v1 + (3 : Int32)).toNatClampNeg) (xs (v1 + (4 : Int32)).toNatClampNeg) S3).bind fun q235 =>
  lt (q235.2) fun S236 =>
  if q233.1 = q235.1 then
    j4 (X234, S236)
  else
    some ((0 : Int32), (X234, S236))
theorem lw38_ok {Ln v : Nat} {xs : Nat → Int32} {X : M3} {S : M2} (h : R X S) (hv : v + 4 < Ln) (hL : Ln ≤ 320) : OKL (lw38 Ln xs (nI v) X S) := by
  obtain ⟨a, X', S', h1, h2, h3⟩ := k_read h (xs (v + 1)) (xs (v + 2)) (xs (v + 3)) (xs (v + 4))
  refine ⟨X', S', fun j => ?_, h3⟩
  simp (disch := omega) only [lw38, q_ltn, q_lit, nI_add, q_bnd, q_cl, q_some, h1, h2, lg_self, if_true]
def lw39 (Ln : Nat) (xs : Nat → Int32) (v1 : Int32) (X2 : M3) (S3 : M2) (j4 : M3 × M2 → Option (Int32 × (M3 × M2))) : Option (Int32 × (M3 × M2)) :=
  (fX4_torn  X2).bind fun r239 =>
  (fX5_torn  S3).bind fun r240 =>
  if r239 = r240 then
    j4 (X2, S3)
  else
    some ((0 : Int32), (X2, S3))
theorem lw39_ok {Ln v : Nat} {xs : Nat → Int32} {X : M3} {S : M2} (h : R X S) (hv : v + 4 < Ln) (hL : Ln ≤ 320) : OKL (lw39 Ln xs (nI v) X S) := by
  obtain ⟨a, h1, h2⟩ := k_torn h 
  refine ⟨X, S, fun j => ?_, h⟩
  simp (disch := omega) only [lw39, q_ltn, q_lit, nI_add, q_bnd, q_cl, q_some, h1, h2, lg_self, if_true]
def lw40 (Ln : Nat) (xs : Nat → Int32) (v1 : Int32) (X2 : M3) (S3 : M2) (j4 : M3 × M2 → Option (Int32 × (M3 × M2))) : Option (Int32 × (M3 × M2)) :=
  bnd (v1 + (1 : Int32)) Ln <|
  (fX4_count (xs (v1 + (1 : Int32)).toNatClampNeg) X2).bind fun r243 =>
  bnd (v1 + (1 : Int32)) Ln <|
  (fX5_count (xs (v1 + (1 : Int32)).toNatClampNeg) S3).bind fun q244 =>
  lt (q244.2) fun S245 =>
  if r243 = q244.1 then
    j4 (X2, S245)
  else
    some ((0 : Int32), (X2, S245))
theorem lw40_ok {Ln v : Nat} {xs : Nat → Int32} {X : M3} {S : M2} (h : R X S) (hv : v + 4 < Ln) (hL : Ln ≤ 320) : OKL (lw40 Ln xs (nI v) X S) := by
  obtain ⟨a, S', h1, h2, h3⟩ := k_count h (xs (v + 1))
  refine ⟨X, S', fun j => ?_, h3⟩
  simp (disch := omega) only [lw40, q_ltn, q_lit, nI_add, q_bnd, q_cl, q_some, h1, h2, lg_self, if_true]
def lwa (Ln : Nat) (xs : Nat → Int32) (v1 : Int32) (X2 : M3) (S3 : M2) (j4 : M3 × M2 → Option (Int32 × (M3 × M2))) : Option (Int32 × (M3 × M2)) :=
  if ((xs v1.toNatClampNeg) &&& (63 : Int32)) = 0 then lw0 Ln xs v1 X2 S3 j4 else
  if ((xs v1.toNatClampNeg) &&& (63 : Int32)) = 1 then lw1 Ln xs v1 X2 S3 j4 else
  if ((xs v1.toNatClampNeg) &&& (63 : Int32)) = 2 then lw2 Ln xs v1 X2 S3 j4 else
  if ((xs v1.toNatClampNeg) &&& (63 : Int32)) = 3 then lw3 Ln xs v1 X2 S3 j4 else
  if ((xs v1.toNatClampNeg) &&& (63 : Int32)) = 4 then lw4 Ln xs v1 X2 S3 j4 else
  if ((xs v1.toNatClampNeg) &&& (63 : Int32)) = 5 then lw5 Ln xs v1 X2 S3 j4 else
  if ((xs v1.toNatClampNeg) &&& (63 : Int32)) = 6 then lw6 Ln xs v1 X2 S3 j4 else
  if ((xs v1.toNatClampNeg) &&& (63 : Int32)) = 7 then lw7 Ln xs v1 X2 S3 j4 else
  if ((xs v1.toNatClampNeg) &&& (63 : Int32)) = 8 then lw8 Ln xs v1 X2 S3 j4 else
  if ((xs v1.toNatClampNeg) &&& (63 : Int32)) = 9 then lw9 Ln xs v1 X2 S3 j4 else
  if ((xs v1.toNatClampNeg) &&& (63 : Int32)) = 10 then lw10 Ln xs v1 X2 S3 j4 else
  if ((xs v1.toNatClampNeg) &&& (63 : Int32)) = 11 then lw11 Ln xs v1 X2 S3 j4 else
  if ((xs v1.toNatClampNeg) &&& (63 : Int32)) = 12 then lw12 Ln xs v1 X2 S3 j4 else
  if ((xs v1.toNatClampNeg) &&& (63 : Int32)) = 13 then lw13 Ln xs v1 X2 S3 j4 else
  if ((xs v1.toNatClampNeg) &&& (63 : Int32)) = 14 then lw14 Ln xs v1 X2 S3 j4 else
  if ((xs v1.toNatClampNeg) &&& (63 : Int32)) = 15 then lw15 Ln xs v1 X2 S3 j4 else
  if ((xs v1.toNatClampNeg) &&& (63 : Int32)) = 16 then lw16 Ln xs v1 X2 S3 j4 else
  if ((xs v1.toNatClampNeg) &&& (63 : Int32)) = 17 then lw17 Ln xs v1 X2 S3 j4 else
  if ((xs v1.toNatClampNeg) &&& (63 : Int32)) = 18 then lw18 Ln xs v1 X2 S3 j4 else
  if ((xs v1.toNatClampNeg) &&& (63 : Int32)) = 19 then lw19 Ln xs v1 X2 S3 j4 else
  if ((xs v1.toNatClampNeg) &&& (63 : Int32)) = 20 then lw20 Ln xs v1 X2 S3 j4 else
  if ((xs v1.toNatClampNeg) &&& (63 : Int32)) = 21 then lw21 Ln xs v1 X2 S3 j4 else
  if ((xs v1.toNatClampNeg) &&& (63 : Int32)) = 22 then lw22 Ln xs v1 X2 S3 j4 else
  if ((xs v1.toNatClampNeg) &&& (63 : Int32)) = 23 then lw23 Ln xs v1 X2 S3 j4 else
  if ((xs v1.toNatClampNeg) &&& (63 : Int32)) = 24 then lw24 Ln xs v1 X2 S3 j4 else
  if ((xs v1.toNatClampNeg) &&& (63 : Int32)) = 25 then lw25 Ln xs v1 X2 S3 j4 else
  if ((xs v1.toNatClampNeg) &&& (63 : Int32)) = 26 then lw26 Ln xs v1 X2 S3 j4 else
  if ((xs v1.toNatClampNeg) &&& (63 : Int32)) = 27 then lw27 Ln xs v1 X2 S3 j4 else
  if ((xs v1.toNatClampNeg) &&& (63 : Int32)) = 28 then lw28 Ln xs v1 X2 S3 j4 else
  if ((xs v1.toNatClampNeg) &&& (63 : Int32)) = 29 then lw29 Ln xs v1 X2 S3 j4 else
  if ((xs v1.toNatClampNeg) &&& (63 : Int32)) = 30 then lw30 Ln xs v1 X2 S3 j4 else
  if ((xs v1.toNatClampNeg) &&& (63 : Int32)) = 31 then lw31 Ln xs v1 X2 S3 j4 else
  if ((xs v1.toNatClampNeg) &&& (63 : Int32)) = 32 then lw32 Ln xs v1 X2 S3 j4 else
  if ((xs v1.toNatClampNeg) &&& (63 : Int32)) = 33 then lw33 Ln xs v1 X2 S3 j4 else
  if ((xs v1.toNatClampNeg) &&& (63 : Int32)) = 34 then lw34 Ln xs v1 X2 S3 j4 else
  if ((xs v1.toNatClampNeg) &&& (63 : Int32)) = 35 then lw35 Ln xs v1 X2 S3 j4 else
  if ((xs v1.toNatClampNeg) &&& (63 : Int32)) = 36 then lw36 Ln xs v1 X2 S3 j4 else
  if ((xs v1.toNatClampNeg) &&& (63 : Int32)) = 37 then lw37 Ln xs v1 X2 S3 j4 else
  if ((xs v1.toNatClampNeg) &&& (63 : Int32)) = 38 then lw38 Ln xs v1 X2 S3 j4 else
  if ((xs v1.toNatClampNeg) &&& (63 : Int32)) = 39 then lw39 Ln xs v1 X2 S3 j4 else
  if ((xs v1.toNatClampNeg) &&& (63 : Int32)) = 40 then lw40 Ln xs v1 X2 S3 j4 else
  j4 (X2, S3)
theorem lwa_ok {Ln v : Nat} {xs : Nat → Int32} {X : M3} {S : M2} (h : R X S) (hv : v + 4 < Ln) (hL : Ln ≤ 320) : OKL (lwa Ln xs (nI v) X S) :=
  ok_if (lw0_ok h hv hL) (ok_if (lw1_ok h hv hL) (ok_if (lw2_ok h hv hL) (ok_if (lw3_ok h hv hL) (ok_if (lw4_ok h hv hL) (ok_if (lw5_ok h hv hL) (ok_if (lw6_ok h hv hL) (ok_if (lw7_ok h hv hL) (ok_if (lw8_ok h hv hL) (ok_if (lw9_ok h hv hL) (ok_if (lw10_ok h hv hL) (ok_if (lw11_ok h hv hL) (ok_if (lw12_ok h hv hL) (ok_if (lw13_ok h hv hL) (ok_if (lw14_ok h hv hL) (ok_if (lw15_ok h hv hL) (ok_if (lw16_ok h hv hL) (ok_if (lw17_ok h hv hL) (ok_if (lw18_ok h hv hL) (ok_if (lw19_ok h hv hL) (ok_if (lw20_ok h hv hL) (ok_if (lw21_ok h hv hL) (ok_if (lw22_ok h hv hL) (ok_if (lw23_ok h hv hL) (ok_if (lw24_ok h hv hL) (ok_if (lw25_ok h hv hL) (ok_if (lw26_ok h hv hL) (ok_if (lw27_ok h hv hL) (ok_if (lw28_ok h hv hL) (ok_if (lw29_ok h hv hL) (ok_if (lw30_ok h hv hL) (ok_if (lw31_ok h hv hL) (ok_if (lw32_ok h hv hL) (ok_if (lw33_ok h hv hL) (ok_if (lw34_ok h hv hL) (ok_if (lw35_ok h hv hL) (ok_if (lw36_ok h hv hL) (ok_if (lw37_ok h hv hL) (ok_if (lw38_ok h hv hL) (ok_if (lw39_ok h hv hL) (ok_if (lw40_ok h hv hL) (ok_id h)))))))))))))))))))))))))))))))))))))))))
theorem law_eq (Ln : Nat) (xs : Nat → Int32) (X : M3) (S : M2) (kk : (M3 × M2) → Option (Int32 × (M3 × M2))) (f : Nat) (v1 : Int32) (X2 : M3) (S3 : M2) : fL_law_L18 Ln xs X S kk (f + 1) v1 X2 S3 = if ((nI Ln) - (5 : Int32)) < v1 then kk (X2, S3) else bnd v1 Ln <| jn (α := Option (Int32 × (M3 × M2))) (β := M3 × M2) (fun j4 => lwa Ln xs v1 X2 S3 j4) (fun p247 => lt (v1 + (5 : Int32)) fun x248 => fL_law_L18 Ln xs X S kk f x248 p247.1 p247.2) := rfl
theorem law_L {Ln : Nat} {xs : Nat → Int32} {X0 : M3} {S0 : M2} (hL : Ln ≤ 320) : ∀ (f v : Nat) (X : M3) (S : M2), R X S → v ≤ 330 → 330 < v + 5 * f → ∃ qf, fL_law_L18 Ln xs X0 S0 (fun p250 => some ((1 : Int32), (p250.1, p250.2))) f (nI v) X S = some (1, qf)
  | 0, v, X, S, h, hv, hf => absurd hf (by omega)
  | f + 1, v, X, S, h, hv, hf => by
    rw [law_eq]
    have hc : (nI Ln - (5 : Int32) < nI v) = (Ln < v + 5) := by
      show (nI Ln - nI 5 < nI v) = (Ln < v + 5)
      rw [Int32.lt_iff_toInt_lt, pk_sub_toInt (by omega) (by omega), nI_toInt (by omega)]
      exact propext ⟨fun _ => by omega, fun _ => by omega⟩
    by_cases e : Ln < v + 5
    · rw [if_pos (by rw [hc]; exact e)]
      exact ⟨_, rfl⟩
    · rw [if_neg (by rw [hc]; exact e), q_bnd (by omega), q_jnn]
      obtain ⟨X', S', h1, h2⟩ := lwa_ok (xs := xs) h (show v + 4 < Ln by omega) hL
      rw [h1, q_ltn]
      show ∃ qf, fL_law_L18 Ln xs X0 S0 (fun p250 => some ((1 : Int32), (p250.1, p250.2))) f (nI v + (5 : Int32)) X' S' = some (1, qf)
      rw [show nI v + (5 : Int32) = nI (v + 5) from nI_add v 5]
      exact law_L hL f (v + 5) X' S' h2 (by omega) (by omega)
/-- class and model at their start -/
theorem R_0 : R s0_X4 s1_X5 := by
  refine ⟨⟨N0, B0, ⟨wf0, by decide, ⟨⟨rfl, rfl, rfl, rfl, rfl, rfl, rfl⟩, fun b hb => absurd hb (Nat.not_lt_zero _), fun b hb => absurd hb (Nat.not_lt_zero _), fun b hb => absurd hb (Nat.not_lt_zero _), fun k hk => ⟨by rcases wb_cases hk with rfl | rfl | rfl <;> rfl, fun i b hb => absurd hb (by rw [B0, List.getElem?_nil]; exact fun h => nomatch h)⟩⟩, ⟨⟨?_, ?_, ?_, ?_⟩, fun b hb => absurd hb (Nat.not_lt_zero _), fun b hb => absurd hb (Nat.not_lt_zero _), fun b hb => absurd hb (Nat.not_lt_zero _), fun k hk i b hb => absurd hb (by rw [B0, List.getElem?_nil]; exact fun h => nomatch h)⟩, ?_, ?_⟩, 0, by decide, rfl, fun k hk => ⟨?_, fun hb => absurd hb (by rw [Nat.zero_testBit]; decide)⟩⟩, ⟨⟨0, by decide, rfl, ?_, fun i hi => absurd hi (Nat.not_lt_zero i)⟩, ?_⟩, fun k hk => Or.inl ⟨?_, ?_⟩, ?_⟩
  · show s1_X5 0 46 = nI 0
    decide +kernel
  · show s1_X5 0 47 = nI 1
    decide +kernel
  · show s1_X5 0 48 = nI 0
    decide +kernel
  · show s1_X5 0 49 = nI 0
    decide +kernel
  · show s1_X5 3 0 = nI 0
    decide +kernel
  · show s1_X5 4 0 = nI 0
    decide +kernel
  · rw [Nat.zero_testBit]
    rcases (by omega : k = 0 ∨ k = 1) with rfl | rfl
    · show s1_X5 2 0 = nI 0
      decide +kernel
    · show s1_X5 2 1 = nI 0
      decide +kernel
  · show s1_X5 12 0 = nI 0
    decide +kernel
  · show nI 0 = s1_X5 17 0
    decide +kernel
  · rcases (by omega : k = 0 ∨ k = 1 ∨ k = 2 ∨ k = 3) with rfl | rfl | rfl | rfl <;> rfl
  · rcases (by omega : k = 0 ∨ k = 1 ∨ k = 2 ∨ k = 3) with rfl | rfl | rfl | rfl <;> decide +kernel
  · show nI 0 = s1_X5 23 0
    decide +kernel
/-- the pure law answers 1 on every script -/
theorem law_ok (L : Nat) (hL : L ≤ 320) (xs : Nat → Int32) : ∃ qf, fL_law L xs s0_X4 s1_X5 = some (1, qf) := law_L hL 400 0 s0_X4 s1_X5 R_0 (by omega) (by omega)
