abbrev r_X0 : vw_C := (RX0, TX0, 6)
def fs_X0 (t : Nat) (a : Nat → Nat) (S : M2) : List Value := [.ref t, .ref (a 1), .ref (a 2), .int (S 3 0), .int (S 4 0), .int (S 5 0)]
def sc_X0 : List Nat := [3, 4, 5]
def ar_X0 : List (Nat × Nat × FieldType) := [(1, 5, .int), (2, 5, .int)]
theorem jc_X0 : jcl r_X0 tyX0 := ⟨fun w hw => jj_m (by revert w hw; decide +kernel) (by revert w hw; decide +kernel), tyX0_ok, nmX0⟩
abbrev r_X1 : vw_C := (RX1, TX1, 18)
def fs_X1 (a : Nat → Nat) (S : M2) : List Value := [.int (S 0 0), .ref (a 1), .ref (a 2), .ref (a 3), .int (S 4 0), .ref (a 5), .ref (a 6), .int (S 7 0), .ref (a 8), .ref (a 9), .ref (a 10), .ref (a 11), .int (S 12 0), .int (S 13 0), .int (S 14 0), .int (S 15 0), .ref (a 16), .ref (a 17)]
def sc_X1 : List Nat := [0, 4, 7, 12, 13, 14, 15]
def ar_X1 : List (Nat × Nat × FieldType) := [(1, 5, .int), (2, 5, .int), (3, 5, .int), (5, 15, .int), (6, 3, .int), (8, 4, .int), (9, 4, .int), (10, 4, .int), (11, 4, .int), (16, 6, .int), (17, 6, .int)]
theorem jc_X1 : jcl r_X1 tyX1 := ⟨fun w hw => jj_m (by revert w hw; decide +kernel) (by revert w hw; decide +kernel), tyX1_ok, nmX1⟩
abbrev r_X2 : vw_C := (RX2, TX2, 4)
def fs_X2 (a : Nat → Nat) (S : M2) : List Value := [.int (S 0 0), .int (S 1 0), .int (S 2 0), .ref (a 3)]
def sc_X2 : List Nat := [0, 1, 2]
def ar_X2 : List (Nat × Nat × FieldType) := [(3, 40, .int)]
theorem jc_X2 : jcl r_X2 tyX2 := ⟨fun w hw => jj_m (by revert w hw; decide +kernel) (by revert w hw; decide +kernel), tyX2_ok, nmX2⟩
abbrev r_X3 : vw_C := (RX3, TX3, 11)
def fs_X3 (a : Nat → Nat) (S : M2) : List Value := [.ref (a 0), .int (S 1 0), .int (S 2 0), .int (S 3 0), .ref (a 4), .int (S 5 0), .int (S 6 0), .int (S 7 0), .int (S 8 0), .int (S 9 0), .int (S 10 0)]
def sc_X3 : List Nat := [1, 2, 3, 5, 6, 7, 8, 9, 10]
def ar_X3 : List (Nat × Nat × FieldType) := [(0, 160, .int), (4, 3, .int)]
theorem jc_X3 : jcl r_X3 tyX3 := ⟨fun w hw => jj_m (by revert w hw; decide +kernel) (by revert w hw; decide +kernel), tyX3_ok, nmX3⟩
abbrev r_X4 : vw_C := (RX4, TX4, 8)
def fs_X4 (ob : Nat → Nat) (a : Nat → Nat) (S : M2) : List Value := [.ref (ob 1), .ref (ob 2), .ref (ob 3), .ref (a 3), .ref (a 4), .ref (ob 10), .int (S 6 0), .int (S 7 0)]
def sc_X4 : List Nat := [6, 7]
def ar_X4 : List (Nat × Nat × FieldType) := []
theorem jc_X4 : jcl r_X4 tyX4 := ⟨fun w hw => jj_m (by revert w hw; decide +kernel) (by revert w hw; decide +kernel), tyX4_ok, nmX4⟩
abbrev r_X5 : vw_C := (RX5, TX5, 25)
def fs_X5 (a : Nat → Nat) (S : M2) : List Value := [.ref (a 0), .ref (a 1), .ref (a 2), .int (S 3 0), .int (S 4 0), .ref (a 5), .int (S 6 0), .int (S 7 0), .int (S 8 0), .int (S 9 0), .int (S 10 0), .ref (a 11), .int (S 12 0), .int (S 13 0), .int (S 14 0), .int (S 15 0), .int (S 16 0), .int (S 17 0), .int (S 18 0), .ref (a 19), .ref (a 20), .ref (a 21), .ref (a 22), .int (S 23 0), .ref (a 24)]
def sc_X5 : List Nat := [3, 4, 6, 7, 8, 9, 10, 12, 13, 14, 15, 16, 17, 18, 23]
def ar_X5 : List (Nat × Nat × FieldType) := [(0, 186, .int), (1, 62, .int), (2, 2, .boolean), (5, 62, .int), (11, 160, .int), (19, 5, .int), (20, 4, .int), (21, 4, .int), (22, 160, .int), (24, 62, .int)]
theorem jc_X5 : jcl r_X5 tyX5 := ⟨fun w hw => jj_m (by revert w hw; decide +kernel) (by revert w hw; decide +kernel), tyX5_ok, nmX5⟩
abbrev vX1 (V : JV M2) (b : Nat) (a : Nat → Nat) : Prop := vOb V (fun S => S) (fun _ S => S) b a r_X1 fs_X1 sc_X1 ar_X1
abbrev vX2 (V : JV M2) (b : Nat) (a : Nat → Nat) : Prop := vOb V (fun S => S) (fun _ S => S) b a r_X2 fs_X2 sc_X2 ar_X2
abbrev vX3 (V : JV M2) (b : Nat) (a : Nat → Nat) : Prop := vOb V (fun S => S) (fun _ S => S) b a r_X3 fs_X3 sc_X3 ar_X3
abbrev vX5 (V : JV M2) (b : Nat) (a : Nat → Nat) : Prop := vOb V (fun S => S) (fun _ S => S) b a r_X5 fs_X5 sc_X5 ar_X5
abbrev rX1 {σ : Type} (V : JV σ) (b : Nat) (a : Nat → Nat) (N : M2) : Prop := rOb V b a r_X1 fs_X1 ar_X1 N
abbrev v1X3 (V : JV (M2 × M2)) (b : Nat) (a : Nat → Nat) : Prop := vOb V (fun X => X.1) (fun X T => (T, X.2)) b a r_X3 fs_X3 sc_X3 ar_X3
abbrev v1X0 (V : JV (M2 × M2)) (b : Nat) (a : Nat → Nat) (t : Nat) : Prop := vOb V (fun X => X.1) (fun X T => (T, X.2)) b a r_X0 (fs_X0 t) sc_X0 ar_X0
abbrev v2X1 (V : JV (M2 × M2)) (b : Nat) (a : Nat → Nat) : Prop := vOb V (fun X => X.2) (fun X S => (X.1, S)) b a r_X1 fs_X1 sc_X1 ar_X1
def isSh (k : Nat) : Prop := k = 2 ∨ k = 3 ∨ k = 4 ∨ k = 5 ∨ k = 11
def isSt (k : Nat) : Prop := k = 6 ∨ k = 7 ∨ k = 8 ∨ k = 9
abbrev M3 : Type := Nat → M2
/-- the whole object: block 0 itself, 1 the tape, 2 now, 3 trial, 4 and 5 the images, 6 to 9 the sheets, 10 the search, 11 its shed -/
def vX4 (V : JV M3) (ob : Nat → Nat) (aa : Nat → Nat → Nat) : Prop :=
  vOb V (fun X => X 0) (fun X S => va_up X 0 S) (ob 0) (aa 0) r_X4 (fs_X4 ob) sc_X4 ar_X4 ∧
  vOb V (fun X => X 1) (fun X S => va_up X 1 S) (ob 1) (aa 1) r_X3 fs_X3 sc_X3 ar_X3 ∧
  (∀ k, isSh k → vOb V (fun X => X k) (fun X S => va_up X k S) (ob k) (aa k) r_X1 fs_X1 sc_X1 ar_X1) ∧
  (∀ k, isSt k → vOb V (fun X => X k) (fun X S => va_up X k S) (ob k) (aa k) r_X2 fs_X2 sc_X2 ar_X2) ∧
  vOb V (fun X => X 10) (fun X S => va_up X 10 S) (ob 10) (aa 10) r_X0 (fs_X0 (ob 11)) sc_X0 ar_X0 ∧
  (∀ X, jQ V X (aa 0 3) 2 "MothCustoms$Shed" (fun j => some (ob (4 + j)))) ∧
  (∀ X, jQ V X (aa 0 4) 4 "MothCustoms$Sheet" (fun j => some (ob (6 + j))))
section V4
variable {V : JV M3} {ob : Nat → Nat} {aa : Nat → Nat → Nat}
theorem sh2 : isSh 2 := Or.inl rfl
theorem sh3 : isSh 3 := Or.inr (Or.inl rfl)
theorem sh11 : isSh 11 := Or.inr (Or.inr (Or.inr (Or.inr rfl)))
theorem shI {i : Int32} (h : ¬ (i < 0 ∨ 2 ≤ i.toNatClampNeg)) : isSh (4 + i.toNatClampNeg) := by
  have h2 : ¬ 2 ≤ i.toNatClampNeg := fun q => h (Or.inr q)
  unfold isSh
  omega
theorem stI {i : Int32} (h : ¬ (i < 0 ∨ 4 ≤ i.toNatClampNeg)) : isSt (6 + i.toNatClampNeg) := by
  have h2 : ¬ 4 ≤ i.toNatClampNeg := fun q => h (Or.inr q)
  unfold isSt
  omega
theorem shI2 {i : Int32} : 2 ≠ 4 + i.toNatClampNeg := by omega
theorem shI2' {i : Int32} : 4 + i.toNatClampNeg ≠ 2 := by omega
theorem st6 : isSt 6 := Or.inl rfl
theorem vX4.rt (h : vX4 V ob aa) : vOb V (fun X => X 0) (fun X S => va_up X 0 S) (ob 0) (aa 0) r_X4 (fs_X4 ob) sc_X4 ar_X4 := h.1
theorem vX4.tp (h : vX4 V ob aa) : vOb V (fun X => X 1) (fun X S => va_up X 1 S) (ob 1) (aa 1) r_X3 fs_X3 sc_X3 ar_X3 := h.2.1
theorem vX4.sh (h : vX4 V ob aa) {k : Nat} (hk : isSh k) : vOb V (fun X => X k) (fun X S => va_up X k S) (ob k) (aa k) r_X1 fs_X1 sc_X1 ar_X1 := h.2.2.1 k hk
theorem vX4.st (h : vX4 V ob aa) {k : Nat} (hk : isSt k) : vOb V (fun X => X k) (fun X S => va_up X k S) (ob k) (aa k) r_X2 fs_X2 sc_X2 ar_X2 := h.2.2.2.1 k hk
theorem vX4.sr (h : vX4 V ob aa) : vOb V (fun X => X 10) (fun X S => va_up X 10 S) (ob 10) (aa 10) r_X0 (fs_X0 (ob 11)) sc_X0 ar_X0 := h.2.2.2.2.1
theorem vX4.im (h : vX4 V ob aa) (X : M3) : jQ V X (aa 0 3) 2 "MothCustoms$Shed" (fun j => some (ob (4 + j))) := h.2.2.2.2.2.1 X
theorem vX4.ss (h : vX4 V ob aa) (X : M3) : jQ V X (aa 0 4) 4 "MothCustoms$Sheet" (fun j => some (ob (6 + j))) := h.2.2.2.2.2.2 X
theorem vX4.shS (h : vX4 V ob aa) (X : M3) {k : Nat} (hk : isSh k) : vX1 (jj_sub V (fun S => va_up X k S)) (ob k) (aa k) := (h.sh hk).sub (fun S => va_up_self X k S) (fun S S' => va_up_up X k S S')
theorem vX4.shR (h : vX4 V ob aa) (X : M3) (k : Nat) {k2 : Nat} (hk : isSh k2) (hne : k2 ≠ k) : rX1 (jj_sub V (fun S => va_up X k S)) (ob k2) (aa k2) (X k2) := (h.sh hk).read (fun S => va_up_ne X S hne)
theorem vX4.stS (h : vX4 V ob aa) (X : M3) {k : Nat} (hk : isSt k) : vX2 (jj_sub V (fun S => va_up X k S)) (ob k) (aa k) := (h.st hk).sub (fun S => va_up_self X k S) (fun S S' => va_up_up X k S S')
theorem vX4.tpS (h : vX4 V ob aa) (X : M3) : vX3 (jj_sub V (fun S => va_up X 1 S)) (ob 1) (aa 1) := h.tp.sub (fun S => va_up_self X 1 S) (fun S S' => va_up_up X 1 S S')
theorem e2_1 {X : M3} {j k : Nat} (h : j ≠ k) (p : M2 × M2) : va_up (va_up X j p.1) k p.2 j = p.1 := by rw [va_up_ne _ _ h, va_up_self]
theorem e2_2 {X : M3} {j k : Nat} (h : j ≠ k) (p : M2 × M2) (S : M2) : va_up (va_up (va_up X j p.1) k p.2) j S = va_up (va_up X j S) k p.2 := by rw [va_up_comm _ (Ne.symm h), va_up_up]
theorem vX4.tp1 (h : vX4 V ob aa) (X : M3) : v1X3 (jj_sub V (fun p : M2 × M2 => va_up (va_up X 1 p.1) 3 p.2)) (ob 1) (aa 1) := h.tp.sub (fun p => e2_1 (by decide) p) (fun p S => e2_2 (by decide) p S)
theorem vX4.tp2 (h : vX4 V ob aa) (X : M3) : v2X1 (jj_sub V (fun p : M2 × M2 => va_up (va_up X 1 p.1) 3 p.2)) (ob 3) (aa 3) := (h.sh sh3).sub (fun p => va_up_self _ 3 _) (fun p S => va_up_up _ 3 _ S)
theorem vX4.sr1 (h : vX4 V ob aa) (X : M3) : v1X0 (jj_sub V (fun p : M2 × M2 => va_up (va_up X 10 p.1) 11 p.2)) (ob 10) (aa 10) (ob 11) := h.sr.sub (fun p => e2_1 (by decide) p) (fun p S => e2_2 (by decide) p S)
theorem vX4.sr2 (h : vX4 V ob aa) (X : M3) : v2X1 (jj_sub V (fun p : M2 × M2 => va_up (va_up X 10 p.1) 11 p.2)) (ob 11) (aa 11) := (h.sh sh11).sub (fun p => va_up_self _ 11 _) (fun p S => va_up_up _ 11 _ S)
theorem vX4.sr3 (h : vX4 V ob aa) (X : M3) : rX1 (jj_sub V (fun p : M2 × M2 => va_up (va_up X 10 p.1) 11 p.2)) (ob 2) (aa 2) (X 2) := (h.sh sh2).read (fun p => by rw [va_up_ne _ _ (by decide), va_up_ne _ _ (by decide)])
end V4
section VP
variable {V : JV (M2 × M2)} {b : Nat} {a : Nat → Nat} {t : Nat} {N : M2}
theorem v1X3s (h : v1X3 V b a) (S : M2) : vX3 (jj_sub V (fun T => (T, S))) b a := h.sub (fun _ => rfl) (fun _ _ => rfl)
theorem v2X1s (h : v2X1 V b a) (T : M2) : vX1 (jj_sub V (fun S => (T, S))) b a := h.sub (fun _ => rfl) (fun _ _ => rfl)
theorem rX1s (h : rX1 V b a N) (T : M2) : rX1 (jj_sub V (fun S => (T, S))) b a N := h.sub
end VP
