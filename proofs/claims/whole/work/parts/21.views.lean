section VV
variable {σ : Type} {D : va_G} {cl : List vw_C} {t1 t2 : List (ClassId × FieldType)} {K Z : Nat → Nat} {get : σ → M2} {put : σ → M2 → σ} {o : Nat} {a : Nat → Nat} {r : vw_C} {fs : (Nat → Nat) → M2 → List Value} {sc : List Nat} {ar : List (Nat × Nat × FieldType)} {A C : σ → va_W}
theorem vOb.pull {W0 : M2 → va_W} (h : vOb (D, cl, t1, W0, K, Z) (fun S => S) (fun _ S => S) o a r fs sc ar) (hg : ∀ X S, get (put X S) = S) : vOb (D, cl, t1, fun X : σ => W0 (get X), K, Z) get put o a r fs sc ar := by
  obtain ⟨⟨q, ci, h1, h2⟩, h3⟩ := h
  refine ⟨⟨q, ci, h1, fun X => ⟨(h2 (get X)).1, fun k hk v => ?_⟩⟩, fun x hx => ?_⟩
  · show (W0 (get X)).set q _ = W0 (get (put X _))
    rw [hg]
    exact (h2 (get X)).2 k hk v
  · obtain ⟨q, t, cA, g1, g2⟩ := h3 x hx
    refine ⟨q, t, cA, g1, fun X => ⟨(g2 (get X)).1, fun f => ?_⟩⟩
    show (W0 (get X)).set q _ = W0 (get (put X _))
    rw [hg]
    exact (g2 (get X)).2 f
theorem vw_left (h : vOb (D, cl, t1, A, K, Z) get put o a r fs sc ar) (hC : ∀ X S, C (put X S) = C X) : vOb (D, cl, t1 ++ t2, fun X => A X ++ C X, K, Z) get put o a r fs sc ar := by
  obtain ⟨⟨q, ci, h1, h2⟩, h3⟩ := h
  refine ⟨⟨q, ci, h1, fun X => ⟨?_, fun k hk v => ?_⟩⟩, fun x hx => ?_⟩
  · have z := (h2 X).1
    show (A X ++ C X)[q]? = _
    rw [List.getElem?_append_left (List.getElem?_eq_some_iff.mp z).1]
    exact z
  · have z := (h2 X).1
    have w := (h2 X).2 k hk v
    show (A X ++ C X).set q _ = A _ ++ C _
    rw [hC, List.set_append_left _ _ (List.getElem?_eq_some_iff.mp z).1]
    exact congrArg (· ++ C X) w
  · obtain ⟨q, t, cA, g1, g2⟩ := h3 x hx
    refine ⟨q, t, cA, ?_, fun X => ⟨?_, fun f => ?_⟩⟩
    · show (t1 ++ t2)[t]? = _
      rw [List.getElem?_append_left (List.getElem?_eq_some_iff.mp g1).1]
      exact g1
    · have z := (g2 X).1
      show (A X ++ C X)[q]? = _
      rw [List.getElem?_append_left (List.getElem?_eq_some_iff.mp z).1]
      exact z
    · have z := (g2 X).1
      have w := (g2 X).2 f
      show (A X ++ C X).set q _ = A _ ++ C _
      rw [hC, List.set_append_left _ _ (List.getElem?_eq_some_iff.mp z).1]
      exact congrArg (· ++ C X) w
theorem vw_right (n : Nat) (h : vOb (D, cl, t2, C, K, Z) get put o a r fs sc ar) (hA : ∀ X S, A (put X S) = A X) (hn : ∀ X, (A X).length = n) : vOb (D, cl, t1 ++ t2, fun X => A X ++ C X, K, Z) get put o a r fs sc ar := by
  have hg : ∀ (X : σ) (q : Nat), (A X ++ C X)[n + q]? = (C X)[q]? := fun X q => by
    rw [List.getElem?_append_right (by rw [hn X]; omega), hn X, Nat.add_sub_cancel_left]
  have hs : ∀ (X : σ) (q : Nat) (x : Nat × va_E), (A X ++ C X).set (n + q) x = A X ++ (C X).set q x := fun X q x => by
    rw [List.set_append_right _ _ (by rw [hn X]; omega), hn X, Nat.add_sub_cancel_left]
  obtain ⟨⟨q, ci, h1, h2⟩, h3⟩ := h
  refine ⟨⟨n + q, ci, h1, fun X => ⟨?_, fun k hk v => ?_⟩⟩, fun x hx => ?_⟩
  · exact (hg X q).trans (h2 X).1
  · show (A X ++ C X).set (n + q) _ = A _ ++ C _
    rw [hs, hA]
    exact congrArg (A X ++ ·) ((h2 X).2 k hk v)
  · obtain ⟨q, t, cA, g1, g2⟩ := h3 x hx
    refine ⟨n + q, t1.length + t, cA, ?_, fun X => ⟨?_, fun f => ?_⟩⟩
    · show (t1 ++ t2)[t1.length + t]? = _
      rw [List.getElem?_append_right (by omega), Nat.add_sub_cancel_left]
      exact g1
    · exact (hg X q).trans (g2 X).1
    · show (A X ++ C X).set (n + q) _ = A _ ++ C _
      rw [hs, hA]
      exact congrArg (A X ++ ·) ((g2 X).2 f)
end VV
set_option maxHeartbeats 8000000 in
set_option maxRecDepth 100000 in
theorem bv_X1 {σ : Type} {get : σ → M2} {put : σ → M2 → σ} (hg : ∀ X S, get (put X S) = S) (D : va_G) (K Z : Nat → Nat) (o : Nat) (x : (Nat → Nat) × (Nat → ClassId)) : vOb (D, vwCl, bt_X1 x, fun X : σ => bw_X1 o x (get X), K, Z) get put o x.1 r_X1 fs_X1 sc_X1 ar_X1 := by
  have h : vOb (D, vwCl, bt_X1 x, fun S => bw_X1 o x S, K, Z) (fun S => S) (fun _ S => S) o x.1 r_X1 fs_X1 sc_X1 ar_X1 :=
    ⟨⟨0, 1, rfl, fun X => ⟨rfl, fun k hk v => by
      simp only [sc_X1, List.mem_cons, List.not_mem_nil, or_false] at hk
      rcases hk with rfl | rfl | rfl | rfl | rfl | rfl | rfl <;> rfl⟩⟩, fun x hx => by
      simp only [ar_X1, List.mem_cons, List.not_mem_nil, or_false] at hx
      rcases hx with rfl | rfl | rfl | rfl | rfl | rfl | rfl | rfl | rfl | rfl | rfl
      · exact ⟨1, 0, x.2 1, rfl, fun X => ⟨rfl, fun f => rfl⟩⟩
      · exact ⟨2, 1, x.2 2, rfl, fun X => ⟨rfl, fun f => rfl⟩⟩
      · exact ⟨3, 2, x.2 3, rfl, fun X => ⟨rfl, fun f => rfl⟩⟩
      · exact ⟨4, 3, x.2 5, rfl, fun X => ⟨rfl, fun f => rfl⟩⟩
      · exact ⟨5, 4, x.2 6, rfl, fun X => ⟨rfl, fun f => rfl⟩⟩
      · exact ⟨6, 5, x.2 8, rfl, fun X => ⟨rfl, fun f => rfl⟩⟩
      · exact ⟨7, 6, x.2 9, rfl, fun X => ⟨rfl, fun f => rfl⟩⟩
      · exact ⟨8, 7, x.2 10, rfl, fun X => ⟨rfl, fun f => rfl⟩⟩
      · exact ⟨9, 8, x.2 11, rfl, fun X => ⟨rfl, fun f => rfl⟩⟩
      · exact ⟨10, 9, x.2 16, rfl, fun X => ⟨rfl, fun f => rfl⟩⟩
      · exact ⟨11, 10, x.2 17, rfl, fun X => ⟨rfl, fun f => rfl⟩⟩⟩
  exact vOb.pull h hg
set_option maxHeartbeats 8000000 in
set_option maxRecDepth 100000 in
theorem bv_X2 {σ : Type} {get : σ → M2} {put : σ → M2 → σ} (hg : ∀ X S, get (put X S) = S) (D : va_G) (K Z : Nat → Nat) (o : Nat) (x : (Nat → Nat) × (Nat → ClassId)) : vOb (D, vwCl, bt_X2 x, fun X : σ => bw_X2 o x (get X), K, Z) get put o x.1 r_X2 fs_X2 sc_X2 ar_X2 := by
  have h : vOb (D, vwCl, bt_X2 x, fun S => bw_X2 o x S, K, Z) (fun S => S) (fun _ S => S) o x.1 r_X2 fs_X2 sc_X2 ar_X2 :=
    ⟨⟨0, 2, rfl, fun X => ⟨rfl, fun k hk v => by
      simp only [sc_X2, List.mem_cons, List.not_mem_nil, or_false] at hk
      rcases hk with rfl | rfl | rfl <;> rfl⟩⟩, fun x hx => by
      simp only [ar_X2, List.mem_cons, List.not_mem_nil, or_false] at hx
      rcases hx with rfl
      · exact ⟨1, 0, x.2 3, rfl, fun X => ⟨rfl, fun f => rfl⟩⟩⟩
  exact vOb.pull h hg
set_option maxHeartbeats 8000000 in
set_option maxRecDepth 100000 in
theorem bv_X3 {σ : Type} {get : σ → M2} {put : σ → M2 → σ} (hg : ∀ X S, get (put X S) = S) (D : va_G) (K Z : Nat → Nat) (o : Nat) (x : (Nat → Nat) × (Nat → ClassId)) : vOb (D, vwCl, bt_X3 x, fun X : σ => bw_X3 o x (get X), K, Z) get put o x.1 r_X3 fs_X3 sc_X3 ar_X3 := by
  have h : vOb (D, vwCl, bt_X3 x, fun S => bw_X3 o x S, K, Z) (fun S => S) (fun _ S => S) o x.1 r_X3 fs_X3 sc_X3 ar_X3 :=
    ⟨⟨0, 3, rfl, fun X => ⟨rfl, fun k hk v => by
      simp only [sc_X3, List.mem_cons, List.not_mem_nil, or_false] at hk
      rcases hk with rfl | rfl | rfl | rfl | rfl | rfl | rfl | rfl | rfl <;> rfl⟩⟩, fun x hx => by
      simp only [ar_X3, List.mem_cons, List.not_mem_nil, or_false] at hx
      rcases hx with rfl | rfl
      · exact ⟨1, 0, x.2 0, rfl, fun X => ⟨rfl, fun f => rfl⟩⟩
      · exact ⟨2, 1, x.2 4, rfl, fun X => ⟨rfl, fun f => rfl⟩⟩⟩
  exact vOb.pull h hg
abbrev VL (D : va_G) (K Z : Nat → Nat) (h0 hm : Nat) (y : B4) (z : (Nat → Nat) × (Nat → ClassId)) : JV (M3 × M2) := (D, vwCl, bt_X4 y ++ bt_X5 z, fun X : M3 × M2 => bw_X4 h0 y X.1 ++ bw_X5 hm z X.2, K, Z)
def sg0 (y : B4) (X : M3) : va_W := bw_X3 (y.1 1) (y.2 1) (X 1)
def st0_ (y : B4) : List (ClassId × FieldType) := bt_X3 (y.2 1)
def sg1 (y : B4) (X : M3) : va_W := bw_X1 (y.1 2) (y.2 2) (X 2)
def st1_ (y : B4) : List (ClassId × FieldType) := bt_X1 (y.2 2)
def sg2 (y : B4) (X : M3) : va_W := bw_X1 (y.1 3) (y.2 3) (X 3)
def st2_ (y : B4) : List (ClassId × FieldType) := bt_X1 (y.2 3)
def sg3 (y : B4) (X : M3) : va_W := [((y.2 0).1 3, .inl ((y.2 0).2 3, 2, .inr (.inr (.inr (.inr (fun j => some (y.1 (4 + j))))))))]
def st3_ (y : B4) : List (ClassId × FieldType) := [((y.2 0).2 3, .object "MothCustoms$Shed")]
def sg4 (y : B4) (X : M3) : va_W := bw_X1 (y.1 4) (y.2 4) (X 4)
def st4_ (y : B4) : List (ClassId × FieldType) := bt_X1 (y.2 4)
def sg5 (y : B4) (X : M3) : va_W := bw_X1 (y.1 5) (y.2 5) (X 5)
def st5_ (y : B4) : List (ClassId × FieldType) := bt_X1 (y.2 5)
def sg6 (y : B4) (X : M3) : va_W := [((y.2 0).1 4, .inl ((y.2 0).2 4, 4, .inr (.inr (.inr (.inr (fun j => some (y.1 (6 + j))))))))]
def st6_ (y : B4) : List (ClassId × FieldType) := [((y.2 0).2 4, .object "MothCustoms$Sheet")]
def sg7 (y : B4) (X : M3) : va_W := bw_X2 (y.1 6) (y.2 6) (X 6)
def st7_ (y : B4) : List (ClassId × FieldType) := bt_X2 (y.2 6)
def sg8 (y : B4) (X : M3) : va_W := bw_X2 (y.1 7) (y.2 7) (X 7)
def st8_ (y : B4) : List (ClassId × FieldType) := bt_X2 (y.2 7)
def sg9 (y : B4) (X : M3) : va_W := bw_X2 (y.1 8) (y.2 8) (X 8)
def st9_ (y : B4) : List (ClassId × FieldType) := bt_X2 (y.2 8)
def sg10 (y : B4) (X : M3) : va_W := bw_X2 (y.1 9) (y.2 9) (X 9)
def st10_ (y : B4) : List (ClassId × FieldType) := bt_X2 (y.2 9)
def sg11 (y : B4) (X : M3) : va_W := bw_X0 (y.1 10) (y.1 11, y.2 11, y.2 10) (X 10) (X 11)
def st11_ (y : B4) : List (ClassId × FieldType) := bt_X0 (y.1 11, y.2 11, y.2 10)
def rs0 (y : B4) (X : M3) : va_W := sg0 y X
def ts0 (y : B4) : List (ClassId × FieldType) := st0_ y
def rs1 (y : B4) (X : M3) : va_W := rs0 y X ++ sg1 y X
def ts1 (y : B4) : List (ClassId × FieldType) := ts0 y ++ st1_ y
def rs2 (y : B4) (X : M3) : va_W := rs1 y X ++ sg2 y X
def ts2 (y : B4) : List (ClassId × FieldType) := ts1 y ++ st2_ y
def rs3 (y : B4) (X : M3) : va_W := rs2 y X ++ sg3 y X
def ts3 (y : B4) : List (ClassId × FieldType) := ts2 y ++ st3_ y
def rs4 (y : B4) (X : M3) : va_W := rs3 y X ++ sg4 y X
def ts4 (y : B4) : List (ClassId × FieldType) := ts3 y ++ st4_ y
def rs5 (y : B4) (X : M3) : va_W := rs4 y X ++ sg5 y X
def ts5 (y : B4) : List (ClassId × FieldType) := ts4 y ++ st5_ y
def rs6 (y : B4) (X : M3) : va_W := rs5 y X ++ sg6 y X
def ts6 (y : B4) : List (ClassId × FieldType) := ts5 y ++ st6_ y
def rs7 (y : B4) (X : M3) : va_W := rs6 y X ++ sg7 y X
def ts7 (y : B4) : List (ClassId × FieldType) := ts6 y ++ st7_ y
def rs8 (y : B4) (X : M3) : va_W := rs7 y X ++ sg8 y X
def ts8 (y : B4) : List (ClassId × FieldType) := ts7 y ++ st8_ y
def rs9 (y : B4) (X : M3) : va_W := rs8 y X ++ sg9 y X
def ts9 (y : B4) : List (ClassId × FieldType) := ts8 y ++ st9_ y
def rs10 (y : B4) (X : M3) : va_W := rs9 y X ++ sg10 y X
def ts10 (y : B4) : List (ClassId × FieldType) := ts9 y ++ st10_ y
def rs11 (y : B4) (X : M3) : va_W := rs10 y X ++ sg11 y X
def ts11 (y : B4) : List (ClassId × FieldType) := ts10 y ++ st11_ y
theorem bw_X4_eq (h0 : Nat) (y : B4) (X : M3) : bw_X4 h0 y X = [(h0, .inr (4, fs_X4 y.1 (y.2 0).1 (X 0)))] ++ rs11 y X := rfl
theorem bt_X4_eq (y : B4) : bt_X4 y = [] ++ ts11 y := rfl
set_option maxHeartbeats 8000000 in
set_option maxRecDepth 100000 in
theorem vs_1_0 (D : va_G) (K Z : Nat → Nat) (y : B4) : vOb (D, vwCl, st0_ y, fun X : M3 => sg0 y X, K, Z) (fun X => X 1) (fun X S => va_up X 1 S) (y.1 1) (y.2 1).1 r_X3 fs_X3 sc_X3 ar_X3 := bv_X3 (get := fun X : M3 => X 1) (put := fun X S => va_up X 1 S) (fun X S => va_up_self X 1 S) D K Z (y.1 1) (y.2 1)
set_option maxHeartbeats 8000000 in
set_option maxRecDepth 100000 in
theorem vs_1_r0 (D : va_G) (K Z : Nat → Nat) (y : B4) : vOb (D, vwCl, ts0 y, fun X : M3 => rs0 y X, K, Z) (fun X => X 1) (fun X S => va_up X 1 S) (y.1 1) (y.2 1).1 r_X3 fs_X3 sc_X3 ar_X3 := vs_1_0 D K Z y
set_option maxHeartbeats 8000000 in
set_option maxRecDepth 100000 in
theorem vs_1_r1 (D : va_G) (K Z : Nat → Nat) (y : B4) : vOb (D, vwCl, ts1 y, fun X : M3 => rs1 y X, K, Z) (fun X => X 1) (fun X S => va_up X 1 S) (y.1 1) (y.2 1).1 r_X3 fs_X3 sc_X3 ar_X3 :=
  vw_left (t1 := ts0 y) (t2 := st1_ y) (A := fun X => rs0 y X) (C := fun X => sg1 y X) (vs_1_r0 D K Z y) (by intro X S; simp [sg1, va_up])
set_option maxHeartbeats 8000000 in
set_option maxRecDepth 100000 in
theorem vs_1_r2 (D : va_G) (K Z : Nat → Nat) (y : B4) : vOb (D, vwCl, ts2 y, fun X : M3 => rs2 y X, K, Z) (fun X => X 1) (fun X S => va_up X 1 S) (y.1 1) (y.2 1).1 r_X3 fs_X3 sc_X3 ar_X3 :=
  vw_left (t1 := ts1 y) (t2 := st2_ y) (A := fun X => rs1 y X) (C := fun X => sg2 y X) (vs_1_r1 D K Z y) (by intro X S; simp [sg2, va_up])
set_option maxHeartbeats 8000000 in
set_option maxRecDepth 100000 in
theorem vs_1_r3 (D : va_G) (K Z : Nat → Nat) (y : B4) : vOb (D, vwCl, ts3 y, fun X : M3 => rs3 y X, K, Z) (fun X => X 1) (fun X S => va_up X 1 S) (y.1 1) (y.2 1).1 r_X3 fs_X3 sc_X3 ar_X3 :=
  vw_left (t1 := ts2 y) (t2 := st3_ y) (A := fun X => rs2 y X) (C := fun X => sg3 y X) (vs_1_r2 D K Z y) (by intro X S; simp [sg3, va_up])
set_option maxHeartbeats 8000000 in
set_option maxRecDepth 100000 in
theorem vs_1_r4 (D : va_G) (K Z : Nat → Nat) (y : B4) : vOb (D, vwCl, ts4 y, fun X : M3 => rs4 y X, K, Z) (fun X => X 1) (fun X S => va_up X 1 S) (y.1 1) (y.2 1).1 r_X3 fs_X3 sc_X3 ar_X3 :=
  vw_left (t1 := ts3 y) (t2 := st4_ y) (A := fun X => rs3 y X) (C := fun X => sg4 y X) (vs_1_r3 D K Z y) (by intro X S; simp [sg4, va_up])
set_option maxHeartbeats 8000000 in
set_option maxRecDepth 100000 in
theorem vs_1_r5 (D : va_G) (K Z : Nat → Nat) (y : B4) : vOb (D, vwCl, ts5 y, fun X : M3 => rs5 y X, K, Z) (fun X => X 1) (fun X S => va_up X 1 S) (y.1 1) (y.2 1).1 r_X3 fs_X3 sc_X3 ar_X3 :=
  vw_left (t1 := ts4 y) (t2 := st5_ y) (A := fun X => rs4 y X) (C := fun X => sg5 y X) (vs_1_r4 D K Z y) (by intro X S; simp [sg5, va_up])
set_option maxHeartbeats 8000000 in
set_option maxRecDepth 100000 in
theorem vs_1_r6 (D : va_G) (K Z : Nat → Nat) (y : B4) : vOb (D, vwCl, ts6 y, fun X : M3 => rs6 y X, K, Z) (fun X => X 1) (fun X S => va_up X 1 S) (y.1 1) (y.2 1).1 r_X3 fs_X3 sc_X3 ar_X3 :=
  vw_left (t1 := ts5 y) (t2 := st6_ y) (A := fun X => rs5 y X) (C := fun X => sg6 y X) (vs_1_r5 D K Z y) (by intro X S; simp [sg6, va_up])
set_option maxHeartbeats 8000000 in
set_option maxRecDepth 100000 in
theorem vs_1_r7 (D : va_G) (K Z : Nat → Nat) (y : B4) : vOb (D, vwCl, ts7 y, fun X : M3 => rs7 y X, K, Z) (fun X => X 1) (fun X S => va_up X 1 S) (y.1 1) (y.2 1).1 r_X3 fs_X3 sc_X3 ar_X3 :=
  vw_left (t1 := ts6 y) (t2 := st7_ y) (A := fun X => rs6 y X) (C := fun X => sg7 y X) (vs_1_r6 D K Z y) (by intro X S; simp [sg7, va_up])
set_option maxHeartbeats 8000000 in
set_option maxRecDepth 100000 in
theorem vs_1_r8 (D : va_G) (K Z : Nat → Nat) (y : B4) : vOb (D, vwCl, ts8 y, fun X : M3 => rs8 y X, K, Z) (fun X => X 1) (fun X S => va_up X 1 S) (y.1 1) (y.2 1).1 r_X3 fs_X3 sc_X3 ar_X3 :=
  vw_left (t1 := ts7 y) (t2 := st8_ y) (A := fun X => rs7 y X) (C := fun X => sg8 y X) (vs_1_r7 D K Z y) (by intro X S; simp [sg8, va_up])
set_option maxHeartbeats 8000000 in
set_option maxRecDepth 100000 in
theorem vs_1_r9 (D : va_G) (K Z : Nat → Nat) (y : B4) : vOb (D, vwCl, ts9 y, fun X : M3 => rs9 y X, K, Z) (fun X => X 1) (fun X S => va_up X 1 S) (y.1 1) (y.2 1).1 r_X3 fs_X3 sc_X3 ar_X3 :=
  vw_left (t1 := ts8 y) (t2 := st9_ y) (A := fun X => rs8 y X) (C := fun X => sg9 y X) (vs_1_r8 D K Z y) (by intro X S; simp [sg9, va_up])
set_option maxHeartbeats 8000000 in
set_option maxRecDepth 100000 in
theorem vs_1_r10 (D : va_G) (K Z : Nat → Nat) (y : B4) : vOb (D, vwCl, ts10 y, fun X : M3 => rs10 y X, K, Z) (fun X => X 1) (fun X S => va_up X 1 S) (y.1 1) (y.2 1).1 r_X3 fs_X3 sc_X3 ar_X3 :=
  vw_left (t1 := ts9 y) (t2 := st10_ y) (A := fun X => rs9 y X) (C := fun X => sg10 y X) (vs_1_r9 D K Z y) (by intro X S; simp [sg10, va_up])
set_option maxHeartbeats 8000000 in
set_option maxRecDepth 100000 in
theorem vs_1_r11 (D : va_G) (K Z : Nat → Nat) (y : B4) : vOb (D, vwCl, ts11 y, fun X : M3 => rs11 y X, K, Z) (fun X => X 1) (fun X S => va_up X 1 S) (y.1 1) (y.2 1).1 r_X3 fs_X3 sc_X3 ar_X3 :=
  vw_left (t1 := ts10 y) (t2 := st11_ y) (A := fun X => rs10 y X) (C := fun X => sg11 y X) (vs_1_r10 D K Z y) (by intro X S; simp [sg11, va_up])
set_option maxHeartbeats 8000000 in
set_option maxRecDepth 100000 in
theorem vs_1_x (h0 : Nat) (D : va_G) (K Z : Nat → Nat) (y : B4) : vOb (D, vwCl, [] ++ ts11 y, fun X : M3 => [(h0, .inr (4, fs_X4 y.1 (y.2 0).1 (X 0)))] ++ rs11 y X, K, Z) (fun X => X 1) (fun X S => va_up X 1 S) (y.1 1) (y.2 1).1 r_X3 fs_X3 sc_X3 ar_X3 := by
  have h := vw_right (t1 := []) (t2 := ts11 y) (A := fun X : M3 => [(h0, .inr (4, fs_X4 y.1 (y.2 0).1 (X 0)))]) (C := fun X => rs11 y X) 1 (vs_1_r11 D K Z y) (by intro X S; simp [va_up]) (fun _ => rfl)
  exact h
set_option maxHeartbeats 8000000 in
set_option maxRecDepth 100000 in
theorem bl_1 (D : va_G) (K Z : Nat → Nat) (h0 hm : Nat) (y : B4) (z : (Nat → Nat) × (Nat → ClassId)) (S : M2) : vOb (jj_sub (VL D K Z h0 hm y z) (fun X => (X, S))) (fun X => X 1) (fun X S => va_up X 1 S) (y.1 1) (y.2 1).1 r_X3 fs_X3 sc_X3 ar_X3 := by
  have h := vw_left (t2 := bt_X5 z) (C := fun _ : M3 => bw_X5 hm z S) (vs_1_x h0 D K Z y) (fun _ _ => rfl)
  exact h
set_option maxHeartbeats 8000000 in
set_option maxRecDepth 100000 in
theorem vs_2_0 (D : va_G) (K Z : Nat → Nat) (y : B4) : vOb (D, vwCl, st1_ y, fun X : M3 => sg1 y X, K, Z) (fun X => X 2) (fun X S => va_up X 2 S) (y.1 2) (y.2 2).1 r_X1 fs_X1 sc_X1 ar_X1 := bv_X1 (get := fun X : M3 => X 2) (put := fun X S => va_up X 2 S) (fun X S => va_up_self X 2 S) D K Z (y.1 2) (y.2 2)
set_option maxHeartbeats 8000000 in
set_option maxRecDepth 100000 in
theorem vs_2_r1 (D : va_G) (K Z : Nat → Nat) (y : B4) : vOb (D, vwCl, ts1 y, fun X : M3 => rs1 y X, K, Z) (fun X => X 2) (fun X S => va_up X 2 S) (y.1 2) (y.2 2).1 r_X1 fs_X1 sc_X1 ar_X1 :=
  vw_right (t1 := ts0 y) (t2 := st1_ y) (A := fun X => rs0 y X) (C := fun X => sg1 y X) 3 (vs_2_0 D K Z y) (by intro X S; simp [rs0, sg0, va_up]) (by intro X; simp [rs0, sg0, bw_X3, bw_X1, bw_X2])
set_option maxHeartbeats 8000000 in
set_option maxRecDepth 100000 in
theorem vs_2_r2 (D : va_G) (K Z : Nat → Nat) (y : B4) : vOb (D, vwCl, ts2 y, fun X : M3 => rs2 y X, K, Z) (fun X => X 2) (fun X S => va_up X 2 S) (y.1 2) (y.2 2).1 r_X1 fs_X1 sc_X1 ar_X1 :=
  vw_left (t1 := ts1 y) (t2 := st2_ y) (A := fun X => rs1 y X) (C := fun X => sg2 y X) (vs_2_r1 D K Z y) (by intro X S; simp [sg2, va_up])
set_option maxHeartbeats 8000000 in
set_option maxRecDepth 100000 in
theorem vs_2_r3 (D : va_G) (K Z : Nat → Nat) (y : B4) : vOb (D, vwCl, ts3 y, fun X : M3 => rs3 y X, K, Z) (fun X => X 2) (fun X S => va_up X 2 S) (y.1 2) (y.2 2).1 r_X1 fs_X1 sc_X1 ar_X1 :=
  vw_left (t1 := ts2 y) (t2 := st3_ y) (A := fun X => rs2 y X) (C := fun X => sg3 y X) (vs_2_r2 D K Z y) (by intro X S; simp [sg3, va_up])
set_option maxHeartbeats 8000000 in
set_option maxRecDepth 100000 in
theorem vs_2_r4 (D : va_G) (K Z : Nat → Nat) (y : B4) : vOb (D, vwCl, ts4 y, fun X : M3 => rs4 y X, K, Z) (fun X => X 2) (fun X S => va_up X 2 S) (y.1 2) (y.2 2).1 r_X1 fs_X1 sc_X1 ar_X1 :=
  vw_left (t1 := ts3 y) (t2 := st4_ y) (A := fun X => rs3 y X) (C := fun X => sg4 y X) (vs_2_r3 D K Z y) (by intro X S; simp [sg4, va_up])
set_option maxHeartbeats 8000000 in
set_option maxRecDepth 100000 in
theorem vs_2_r5 (D : va_G) (K Z : Nat → Nat) (y : B4) : vOb (D, vwCl, ts5 y, fun X : M3 => rs5 y X, K, Z) (fun X => X 2) (fun X S => va_up X 2 S) (y.1 2) (y.2 2).1 r_X1 fs_X1 sc_X1 ar_X1 :=
  vw_left (t1 := ts4 y) (t2 := st5_ y) (A := fun X => rs4 y X) (C := fun X => sg5 y X) (vs_2_r4 D K Z y) (by intro X S; simp [sg5, va_up])
set_option maxHeartbeats 8000000 in
set_option maxRecDepth 100000 in
theorem vs_2_r6 (D : va_G) (K Z : Nat → Nat) (y : B4) : vOb (D, vwCl, ts6 y, fun X : M3 => rs6 y X, K, Z) (fun X => X 2) (fun X S => va_up X 2 S) (y.1 2) (y.2 2).1 r_X1 fs_X1 sc_X1 ar_X1 :=
  vw_left (t1 := ts5 y) (t2 := st6_ y) (A := fun X => rs5 y X) (C := fun X => sg6 y X) (vs_2_r5 D K Z y) (by intro X S; simp [sg6, va_up])
set_option maxHeartbeats 8000000 in
set_option maxRecDepth 100000 in
theorem vs_2_r7 (D : va_G) (K Z : Nat → Nat) (y : B4) : vOb (D, vwCl, ts7 y, fun X : M3 => rs7 y X, K, Z) (fun X => X 2) (fun X S => va_up X 2 S) (y.1 2) (y.2 2).1 r_X1 fs_X1 sc_X1 ar_X1 :=
  vw_left (t1 := ts6 y) (t2 := st7_ y) (A := fun X => rs6 y X) (C := fun X => sg7 y X) (vs_2_r6 D K Z y) (by intro X S; simp [sg7, va_up])
set_option maxHeartbeats 8000000 in
set_option maxRecDepth 100000 in
theorem vs_2_r8 (D : va_G) (K Z : Nat → Nat) (y : B4) : vOb (D, vwCl, ts8 y, fun X : M3 => rs8 y X, K, Z) (fun X => X 2) (fun X S => va_up X 2 S) (y.1 2) (y.2 2).1 r_X1 fs_X1 sc_X1 ar_X1 :=
  vw_left (t1 := ts7 y) (t2 := st8_ y) (A := fun X => rs7 y X) (C := fun X => sg8 y X) (vs_2_r7 D K Z y) (by intro X S; simp [sg8, va_up])
set_option maxHeartbeats 8000000 in
set_option maxRecDepth 100000 in
theorem vs_2_r9 (D : va_G) (K Z : Nat → Nat) (y : B4) : vOb (D, vwCl, ts9 y, fun X : M3 => rs9 y X, K, Z) (fun X => X 2) (fun X S => va_up X 2 S) (y.1 2) (y.2 2).1 r_X1 fs_X1 sc_X1 ar_X1 :=
  vw_left (t1 := ts8 y) (t2 := st9_ y) (A := fun X => rs8 y X) (C := fun X => sg9 y X) (vs_2_r8 D K Z y) (by intro X S; simp [sg9, va_up])
set_option maxHeartbeats 8000000 in
set_option maxRecDepth 100000 in
theorem vs_2_r10 (D : va_G) (K Z : Nat → Nat) (y : B4) : vOb (D, vwCl, ts10 y, fun X : M3 => rs10 y X, K, Z) (fun X => X 2) (fun X S => va_up X 2 S) (y.1 2) (y.2 2).1 r_X1 fs_X1 sc_X1 ar_X1 :=
  vw_left (t1 := ts9 y) (t2 := st10_ y) (A := fun X => rs9 y X) (C := fun X => sg10 y X) (vs_2_r9 D K Z y) (by intro X S; simp [sg10, va_up])
set_option maxHeartbeats 8000000 in
set_option maxRecDepth 100000 in
theorem vs_2_r11 (D : va_G) (K Z : Nat → Nat) (y : B4) : vOb (D, vwCl, ts11 y, fun X : M3 => rs11 y X, K, Z) (fun X => X 2) (fun X S => va_up X 2 S) (y.1 2) (y.2 2).1 r_X1 fs_X1 sc_X1 ar_X1 :=
  vw_left (t1 := ts10 y) (t2 := st11_ y) (A := fun X => rs10 y X) (C := fun X => sg11 y X) (vs_2_r10 D K Z y) (by intro X S; simp [sg11, va_up])
set_option maxHeartbeats 8000000 in
set_option maxRecDepth 100000 in
theorem vs_2_x (h0 : Nat) (D : va_G) (K Z : Nat → Nat) (y : B4) : vOb (D, vwCl, [] ++ ts11 y, fun X : M3 => [(h0, .inr (4, fs_X4 y.1 (y.2 0).1 (X 0)))] ++ rs11 y X, K, Z) (fun X => X 2) (fun X S => va_up X 2 S) (y.1 2) (y.2 2).1 r_X1 fs_X1 sc_X1 ar_X1 := by
  have h := vw_right (t1 := []) (t2 := ts11 y) (A := fun X : M3 => [(h0, .inr (4, fs_X4 y.1 (y.2 0).1 (X 0)))]) (C := fun X => rs11 y X) 1 (vs_2_r11 D K Z y) (by intro X S; simp [va_up]) (fun _ => rfl)
  exact h
set_option maxHeartbeats 8000000 in
set_option maxRecDepth 100000 in
theorem bl_2 (D : va_G) (K Z : Nat → Nat) (h0 hm : Nat) (y : B4) (z : (Nat → Nat) × (Nat → ClassId)) (S : M2) : vOb (jj_sub (VL D K Z h0 hm y z) (fun X => (X, S))) (fun X => X 2) (fun X S => va_up X 2 S) (y.1 2) (y.2 2).1 r_X1 fs_X1 sc_X1 ar_X1 := by
  have h := vw_left (t2 := bt_X5 z) (C := fun _ : M3 => bw_X5 hm z S) (vs_2_x h0 D K Z y) (fun _ _ => rfl)
  exact h
set_option maxHeartbeats 8000000 in
set_option maxRecDepth 100000 in
theorem vs_3_0 (D : va_G) (K Z : Nat → Nat) (y : B4) : vOb (D, vwCl, st2_ y, fun X : M3 => sg2 y X, K, Z) (fun X => X 3) (fun X S => va_up X 3 S) (y.1 3) (y.2 3).1 r_X1 fs_X1 sc_X1 ar_X1 := bv_X1 (get := fun X : M3 => X 3) (put := fun X S => va_up X 3 S) (fun X S => va_up_self X 3 S) D K Z (y.1 3) (y.2 3)
set_option maxHeartbeats 8000000 in
set_option maxRecDepth 100000 in
theorem vs_3_r2 (D : va_G) (K Z : Nat → Nat) (y : B4) : vOb (D, vwCl, ts2 y, fun X : M3 => rs2 y X, K, Z) (fun X => X 3) (fun X S => va_up X 3 S) (y.1 3) (y.2 3).1 r_X1 fs_X1 sc_X1 ar_X1 :=
  vw_right (t1 := ts1 y) (t2 := st2_ y) (A := fun X => rs1 y X) (C := fun X => sg2 y X) 15 (vs_3_0 D K Z y) (by intro X S; simp [rs0, rs1, sg0, sg1, va_up]) (by intro X; simp [rs0, rs1, sg0, sg1, bw_X3, bw_X1, bw_X2])
set_option maxHeartbeats 8000000 in
set_option maxRecDepth 100000 in
theorem vs_3_r3 (D : va_G) (K Z : Nat → Nat) (y : B4) : vOb (D, vwCl, ts3 y, fun X : M3 => rs3 y X, K, Z) (fun X => X 3) (fun X S => va_up X 3 S) (y.1 3) (y.2 3).1 r_X1 fs_X1 sc_X1 ar_X1 :=
  vw_left (t1 := ts2 y) (t2 := st3_ y) (A := fun X => rs2 y X) (C := fun X => sg3 y X) (vs_3_r2 D K Z y) (by intro X S; simp [sg3, va_up])
set_option maxHeartbeats 8000000 in
set_option maxRecDepth 100000 in
theorem vs_3_r4 (D : va_G) (K Z : Nat → Nat) (y : B4) : vOb (D, vwCl, ts4 y, fun X : M3 => rs4 y X, K, Z) (fun X => X 3) (fun X S => va_up X 3 S) (y.1 3) (y.2 3).1 r_X1 fs_X1 sc_X1 ar_X1 :=
  vw_left (t1 := ts3 y) (t2 := st4_ y) (A := fun X => rs3 y X) (C := fun X => sg4 y X) (vs_3_r3 D K Z y) (by intro X S; simp [sg4, va_up])
set_option maxHeartbeats 8000000 in
set_option maxRecDepth 100000 in
theorem vs_3_r5 (D : va_G) (K Z : Nat → Nat) (y : B4) : vOb (D, vwCl, ts5 y, fun X : M3 => rs5 y X, K, Z) (fun X => X 3) (fun X S => va_up X 3 S) (y.1 3) (y.2 3).1 r_X1 fs_X1 sc_X1 ar_X1 :=
  vw_left (t1 := ts4 y) (t2 := st5_ y) (A := fun X => rs4 y X) (C := fun X => sg5 y X) (vs_3_r4 D K Z y) (by intro X S; simp [sg5, va_up])
set_option maxHeartbeats 8000000 in
set_option maxRecDepth 100000 in
theorem vs_3_r6 (D : va_G) (K Z : Nat → Nat) (y : B4) : vOb (D, vwCl, ts6 y, fun X : M3 => rs6 y X, K, Z) (fun X => X 3) (fun X S => va_up X 3 S) (y.1 3) (y.2 3).1 r_X1 fs_X1 sc_X1 ar_X1 :=
  vw_left (t1 := ts5 y) (t2 := st6_ y) (A := fun X => rs5 y X) (C := fun X => sg6 y X) (vs_3_r5 D K Z y) (by intro X S; simp [sg6, va_up])
set_option maxHeartbeats 8000000 in
set_option maxRecDepth 100000 in
theorem vs_3_r7 (D : va_G) (K Z : Nat → Nat) (y : B4) : vOb (D, vwCl, ts7 y, fun X : M3 => rs7 y X, K, Z) (fun X => X 3) (fun X S => va_up X 3 S) (y.1 3) (y.2 3).1 r_X1 fs_X1 sc_X1 ar_X1 :=
  vw_left (t1 := ts6 y) (t2 := st7_ y) (A := fun X => rs6 y X) (C := fun X => sg7 y X) (vs_3_r6 D K Z y) (by intro X S; simp [sg7, va_up])
set_option maxHeartbeats 8000000 in
set_option maxRecDepth 100000 in
theorem vs_3_r8 (D : va_G) (K Z : Nat → Nat) (y : B4) : vOb (D, vwCl, ts8 y, fun X : M3 => rs8 y X, K, Z) (fun X => X 3) (fun X S => va_up X 3 S) (y.1 3) (y.2 3).1 r_X1 fs_X1 sc_X1 ar_X1 :=
  vw_left (t1 := ts7 y) (t2 := st8_ y) (A := fun X => rs7 y X) (C := fun X => sg8 y X) (vs_3_r7 D K Z y) (by intro X S; simp [sg8, va_up])
set_option maxHeartbeats 8000000 in
set_option maxRecDepth 100000 in
theorem vs_3_r9 (D : va_G) (K Z : Nat → Nat) (y : B4) : vOb (D, vwCl, ts9 y, fun X : M3 => rs9 y X, K, Z) (fun X => X 3) (fun X S => va_up X 3 S) (y.1 3) (y.2 3).1 r_X1 fs_X1 sc_X1 ar_X1 :=
  vw_left (t1 := ts8 y) (t2 := st9_ y) (A := fun X => rs8 y X) (C := fun X => sg9 y X) (vs_3_r8 D K Z y) (by intro X S; simp [sg9, va_up])
set_option maxHeartbeats 8000000 in
set_option maxRecDepth 100000 in
theorem vs_3_r10 (D : va_G) (K Z : Nat → Nat) (y : B4) : vOb (D, vwCl, ts10 y, fun X : M3 => rs10 y X, K, Z) (fun X => X 3) (fun X S => va_up X 3 S) (y.1 3) (y.2 3).1 r_X1 fs_X1 sc_X1 ar_X1 :=
  vw_left (t1 := ts9 y) (t2 := st10_ y) (A := fun X => rs9 y X) (C := fun X => sg10 y X) (vs_3_r9 D K Z y) (by intro X S; simp [sg10, va_up])
set_option maxHeartbeats 8000000 in
set_option maxRecDepth 100000 in
theorem vs_3_r11 (D : va_G) (K Z : Nat → Nat) (y : B4) : vOb (D, vwCl, ts11 y, fun X : M3 => rs11 y X, K, Z) (fun X => X 3) (fun X S => va_up X 3 S) (y.1 3) (y.2 3).1 r_X1 fs_X1 sc_X1 ar_X1 :=
  vw_left (t1 := ts10 y) (t2 := st11_ y) (A := fun X => rs10 y X) (C := fun X => sg11 y X) (vs_3_r10 D K Z y) (by intro X S; simp [sg11, va_up])
set_option maxHeartbeats 8000000 in
set_option maxRecDepth 100000 in
theorem vs_3_x (h0 : Nat) (D : va_G) (K Z : Nat → Nat) (y : B4) : vOb (D, vwCl, [] ++ ts11 y, fun X : M3 => [(h0, .inr (4, fs_X4 y.1 (y.2 0).1 (X 0)))] ++ rs11 y X, K, Z) (fun X => X 3) (fun X S => va_up X 3 S) (y.1 3) (y.2 3).1 r_X1 fs_X1 sc_X1 ar_X1 := by
  have h := vw_right (t1 := []) (t2 := ts11 y) (A := fun X : M3 => [(h0, .inr (4, fs_X4 y.1 (y.2 0).1 (X 0)))]) (C := fun X => rs11 y X) 1 (vs_3_r11 D K Z y) (by intro X S; simp [va_up]) (fun _ => rfl)
  exact h
set_option maxHeartbeats 8000000 in
set_option maxRecDepth 100000 in
theorem bl_3 (D : va_G) (K Z : Nat → Nat) (h0 hm : Nat) (y : B4) (z : (Nat → Nat) × (Nat → ClassId)) (S : M2) : vOb (jj_sub (VL D K Z h0 hm y z) (fun X => (X, S))) (fun X => X 3) (fun X S => va_up X 3 S) (y.1 3) (y.2 3).1 r_X1 fs_X1 sc_X1 ar_X1 := by
  have h := vw_left (t2 := bt_X5 z) (C := fun _ : M3 => bw_X5 hm z S) (vs_3_x h0 D K Z y) (fun _ _ => rfl)
  exact h
set_option maxHeartbeats 8000000 in
set_option maxRecDepth 100000 in
theorem vs_4_0 (D : va_G) (K Z : Nat → Nat) (y : B4) : vOb (D, vwCl, st4_ y, fun X : M3 => sg4 y X, K, Z) (fun X => X 4) (fun X S => va_up X 4 S) (y.1 4) (y.2 4).1 r_X1 fs_X1 sc_X1 ar_X1 := bv_X1 (get := fun X : M3 => X 4) (put := fun X S => va_up X 4 S) (fun X S => va_up_self X 4 S) D K Z (y.1 4) (y.2 4)
set_option maxHeartbeats 8000000 in
set_option maxRecDepth 100000 in
theorem vs_4_r4 (D : va_G) (K Z : Nat → Nat) (y : B4) : vOb (D, vwCl, ts4 y, fun X : M3 => rs4 y X, K, Z) (fun X => X 4) (fun X S => va_up X 4 S) (y.1 4) (y.2 4).1 r_X1 fs_X1 sc_X1 ar_X1 :=
  vw_right (t1 := ts3 y) (t2 := st4_ y) (A := fun X => rs3 y X) (C := fun X => sg4 y X) 28 (vs_4_0 D K Z y) (by intro X S; simp [rs0, rs1, rs2, rs3, sg0, sg1, sg2, sg3, va_up]) (by intro X; simp [rs0, rs1, rs2, rs3, sg0, sg1, sg2, sg3, bw_X3, bw_X1, bw_X2])
set_option maxHeartbeats 8000000 in
set_option maxRecDepth 100000 in
theorem vs_4_r5 (D : va_G) (K Z : Nat → Nat) (y : B4) : vOb (D, vwCl, ts5 y, fun X : M3 => rs5 y X, K, Z) (fun X => X 4) (fun X S => va_up X 4 S) (y.1 4) (y.2 4).1 r_X1 fs_X1 sc_X1 ar_X1 :=
  vw_left (t1 := ts4 y) (t2 := st5_ y) (A := fun X => rs4 y X) (C := fun X => sg5 y X) (vs_4_r4 D K Z y) (by intro X S; simp [sg5, va_up])
set_option maxHeartbeats 8000000 in
set_option maxRecDepth 100000 in
theorem vs_4_r6 (D : va_G) (K Z : Nat → Nat) (y : B4) : vOb (D, vwCl, ts6 y, fun X : M3 => rs6 y X, K, Z) (fun X => X 4) (fun X S => va_up X 4 S) (y.1 4) (y.2 4).1 r_X1 fs_X1 sc_X1 ar_X1 :=
  vw_left (t1 := ts5 y) (t2 := st6_ y) (A := fun X => rs5 y X) (C := fun X => sg6 y X) (vs_4_r5 D K Z y) (by intro X S; simp [sg6, va_up])
set_option maxHeartbeats 8000000 in
set_option maxRecDepth 100000 in
theorem vs_4_r7 (D : va_G) (K Z : Nat → Nat) (y : B4) : vOb (D, vwCl, ts7 y, fun X : M3 => rs7 y X, K, Z) (fun X => X 4) (fun X S => va_up X 4 S) (y.1 4) (y.2 4).1 r_X1 fs_X1 sc_X1 ar_X1 :=
  vw_left (t1 := ts6 y) (t2 := st7_ y) (A := fun X => rs6 y X) (C := fun X => sg7 y X) (vs_4_r6 D K Z y) (by intro X S; simp [sg7, va_up])
set_option maxHeartbeats 8000000 in
set_option maxRecDepth 100000 in
theorem vs_4_r8 (D : va_G) (K Z : Nat → Nat) (y : B4) : vOb (D, vwCl, ts8 y, fun X : M3 => rs8 y X, K, Z) (fun X => X 4) (fun X S => va_up X 4 S) (y.1 4) (y.2 4).1 r_X1 fs_X1 sc_X1 ar_X1 :=
  vw_left (t1 := ts7 y) (t2 := st8_ y) (A := fun X => rs7 y X) (C := fun X => sg8 y X) (vs_4_r7 D K Z y) (by intro X S; simp [sg8, va_up])
set_option maxHeartbeats 8000000 in
set_option maxRecDepth 100000 in
theorem vs_4_r9 (D : va_G) (K Z : Nat → Nat) (y : B4) : vOb (D, vwCl, ts9 y, fun X : M3 => rs9 y X, K, Z) (fun X => X 4) (fun X S => va_up X 4 S) (y.1 4) (y.2 4).1 r_X1 fs_X1 sc_X1 ar_X1 :=
  vw_left (t1 := ts8 y) (t2 := st9_ y) (A := fun X => rs8 y X) (C := fun X => sg9 y X) (vs_4_r8 D K Z y) (by intro X S; simp [sg9, va_up])
set_option maxHeartbeats 8000000 in
set_option maxRecDepth 100000 in
theorem vs_4_r10 (D : va_G) (K Z : Nat → Nat) (y : B4) : vOb (D, vwCl, ts10 y, fun X : M3 => rs10 y X, K, Z) (fun X => X 4) (fun X S => va_up X 4 S) (y.1 4) (y.2 4).1 r_X1 fs_X1 sc_X1 ar_X1 :=
  vw_left (t1 := ts9 y) (t2 := st10_ y) (A := fun X => rs9 y X) (C := fun X => sg10 y X) (vs_4_r9 D K Z y) (by intro X S; simp [sg10, va_up])
set_option maxHeartbeats 8000000 in
set_option maxRecDepth 100000 in
theorem vs_4_r11 (D : va_G) (K Z : Nat → Nat) (y : B4) : vOb (D, vwCl, ts11 y, fun X : M3 => rs11 y X, K, Z) (fun X => X 4) (fun X S => va_up X 4 S) (y.1 4) (y.2 4).1 r_X1 fs_X1 sc_X1 ar_X1 :=
  vw_left (t1 := ts10 y) (t2 := st11_ y) (A := fun X => rs10 y X) (C := fun X => sg11 y X) (vs_4_r10 D K Z y) (by intro X S; simp [sg11, va_up])
set_option maxHeartbeats 8000000 in
set_option maxRecDepth 100000 in
theorem vs_4_x (h0 : Nat) (D : va_G) (K Z : Nat → Nat) (y : B4) : vOb (D, vwCl, [] ++ ts11 y, fun X : M3 => [(h0, .inr (4, fs_X4 y.1 (y.2 0).1 (X 0)))] ++ rs11 y X, K, Z) (fun X => X 4) (fun X S => va_up X 4 S) (y.1 4) (y.2 4).1 r_X1 fs_X1 sc_X1 ar_X1 := by
  have h := vw_right (t1 := []) (t2 := ts11 y) (A := fun X : M3 => [(h0, .inr (4, fs_X4 y.1 (y.2 0).1 (X 0)))]) (C := fun X => rs11 y X) 1 (vs_4_r11 D K Z y) (by intro X S; simp [va_up]) (fun _ => rfl)
  exact h
set_option maxHeartbeats 8000000 in
set_option maxRecDepth 100000 in
theorem bl_4 (D : va_G) (K Z : Nat → Nat) (h0 hm : Nat) (y : B4) (z : (Nat → Nat) × (Nat → ClassId)) (S : M2) : vOb (jj_sub (VL D K Z h0 hm y z) (fun X => (X, S))) (fun X => X 4) (fun X S => va_up X 4 S) (y.1 4) (y.2 4).1 r_X1 fs_X1 sc_X1 ar_X1 := by
  have h := vw_left (t2 := bt_X5 z) (C := fun _ : M3 => bw_X5 hm z S) (vs_4_x h0 D K Z y) (fun _ _ => rfl)
  exact h
set_option maxHeartbeats 8000000 in
set_option maxRecDepth 100000 in
theorem vs_5_0 (D : va_G) (K Z : Nat → Nat) (y : B4) : vOb (D, vwCl, st5_ y, fun X : M3 => sg5 y X, K, Z) (fun X => X 5) (fun X S => va_up X 5 S) (y.1 5) (y.2 5).1 r_X1 fs_X1 sc_X1 ar_X1 := bv_X1 (get := fun X : M3 => X 5) (put := fun X S => va_up X 5 S) (fun X S => va_up_self X 5 S) D K Z (y.1 5) (y.2 5)
set_option maxHeartbeats 8000000 in
set_option maxRecDepth 100000 in
theorem vs_5_r5 (D : va_G) (K Z : Nat → Nat) (y : B4) : vOb (D, vwCl, ts5 y, fun X : M3 => rs5 y X, K, Z) (fun X => X 5) (fun X S => va_up X 5 S) (y.1 5) (y.2 5).1 r_X1 fs_X1 sc_X1 ar_X1 :=
  vw_right (t1 := ts4 y) (t2 := st5_ y) (A := fun X => rs4 y X) (C := fun X => sg5 y X) 40 (vs_5_0 D K Z y) (by intro X S; simp [rs0, rs1, rs2, rs3, rs4, sg0, sg1, sg2, sg3, sg4, va_up]) (by intro X; simp [rs0, rs1, rs2, rs3, rs4, sg0, sg1, sg2, sg3, sg4, bw_X3, bw_X1, bw_X2])
set_option maxHeartbeats 8000000 in
set_option maxRecDepth 100000 in
theorem vs_5_r6 (D : va_G) (K Z : Nat → Nat) (y : B4) : vOb (D, vwCl, ts6 y, fun X : M3 => rs6 y X, K, Z) (fun X => X 5) (fun X S => va_up X 5 S) (y.1 5) (y.2 5).1 r_X1 fs_X1 sc_X1 ar_X1 :=
  vw_left (t1 := ts5 y) (t2 := st6_ y) (A := fun X => rs5 y X) (C := fun X => sg6 y X) (vs_5_r5 D K Z y) (by intro X S; simp [sg6, va_up])
set_option maxHeartbeats 8000000 in
set_option maxRecDepth 100000 in
theorem vs_5_r7 (D : va_G) (K Z : Nat → Nat) (y : B4) : vOb (D, vwCl, ts7 y, fun X : M3 => rs7 y X, K, Z) (fun X => X 5) (fun X S => va_up X 5 S) (y.1 5) (y.2 5).1 r_X1 fs_X1 sc_X1 ar_X1 :=
  vw_left (t1 := ts6 y) (t2 := st7_ y) (A := fun X => rs6 y X) (C := fun X => sg7 y X) (vs_5_r6 D K Z y) (by intro X S; simp [sg7, va_up])
set_option maxHeartbeats 8000000 in
set_option maxRecDepth 100000 in
theorem vs_5_r8 (D : va_G) (K Z : Nat → Nat) (y : B4) : vOb (D, vwCl, ts8 y, fun X : M3 => rs8 y X, K, Z) (fun X => X 5) (fun X S => va_up X 5 S) (y.1 5) (y.2 5).1 r_X1 fs_X1 sc_X1 ar_X1 :=
  vw_left (t1 := ts7 y) (t2 := st8_ y) (A := fun X => rs7 y X) (C := fun X => sg8 y X) (vs_5_r7 D K Z y) (by intro X S; simp [sg8, va_up])
set_option maxHeartbeats 8000000 in
set_option maxRecDepth 100000 in
theorem vs_5_r9 (D : va_G) (K Z : Nat → Nat) (y : B4) : vOb (D, vwCl, ts9 y, fun X : M3 => rs9 y X, K, Z) (fun X => X 5) (fun X S => va_up X 5 S) (y.1 5) (y.2 5).1 r_X1 fs_X1 sc_X1 ar_X1 :=
  vw_left (t1 := ts8 y) (t2 := st9_ y) (A := fun X => rs8 y X) (C := fun X => sg9 y X) (vs_5_r8 D K Z y) (by intro X S; simp [sg9, va_up])
set_option maxHeartbeats 8000000 in
set_option maxRecDepth 100000 in
theorem vs_5_r10 (D : va_G) (K Z : Nat → Nat) (y : B4) : vOb (D, vwCl, ts10 y, fun X : M3 => rs10 y X, K, Z) (fun X => X 5) (fun X S => va_up X 5 S) (y.1 5) (y.2 5).1 r_X1 fs_X1 sc_X1 ar_X1 :=
  vw_left (t1 := ts9 y) (t2 := st10_ y) (A := fun X => rs9 y X) (C := fun X => sg10 y X) (vs_5_r9 D K Z y) (by intro X S; simp [sg10, va_up])
set_option maxHeartbeats 8000000 in
set_option maxRecDepth 100000 in
theorem vs_5_r11 (D : va_G) (K Z : Nat → Nat) (y : B4) : vOb (D, vwCl, ts11 y, fun X : M3 => rs11 y X, K, Z) (fun X => X 5) (fun X S => va_up X 5 S) (y.1 5) (y.2 5).1 r_X1 fs_X1 sc_X1 ar_X1 :=
  vw_left (t1 := ts10 y) (t2 := st11_ y) (A := fun X => rs10 y X) (C := fun X => sg11 y X) (vs_5_r10 D K Z y) (by intro X S; simp [sg11, va_up])
set_option maxHeartbeats 8000000 in
set_option maxRecDepth 100000 in
theorem vs_5_x (h0 : Nat) (D : va_G) (K Z : Nat → Nat) (y : B4) : vOb (D, vwCl, [] ++ ts11 y, fun X : M3 => [(h0, .inr (4, fs_X4 y.1 (y.2 0).1 (X 0)))] ++ rs11 y X, K, Z) (fun X => X 5) (fun X S => va_up X 5 S) (y.1 5) (y.2 5).1 r_X1 fs_X1 sc_X1 ar_X1 := by
  have h := vw_right (t1 := []) (t2 := ts11 y) (A := fun X : M3 => [(h0, .inr (4, fs_X4 y.1 (y.2 0).1 (X 0)))]) (C := fun X => rs11 y X) 1 (vs_5_r11 D K Z y) (by intro X S; simp [va_up]) (fun _ => rfl)
  exact h
set_option maxHeartbeats 8000000 in
set_option maxRecDepth 100000 in
theorem bl_5 (D : va_G) (K Z : Nat → Nat) (h0 hm : Nat) (y : B4) (z : (Nat → Nat) × (Nat → ClassId)) (S : M2) : vOb (jj_sub (VL D K Z h0 hm y z) (fun X => (X, S))) (fun X => X 5) (fun X S => va_up X 5 S) (y.1 5) (y.2 5).1 r_X1 fs_X1 sc_X1 ar_X1 := by
  have h := vw_left (t2 := bt_X5 z) (C := fun _ : M3 => bw_X5 hm z S) (vs_5_x h0 D K Z y) (fun _ _ => rfl)
  exact h
set_option maxHeartbeats 8000000 in
set_option maxRecDepth 100000 in
theorem vs_6_0 (D : va_G) (K Z : Nat → Nat) (y : B4) : vOb (D, vwCl, st7_ y, fun X : M3 => sg7 y X, K, Z) (fun X => X 6) (fun X S => va_up X 6 S) (y.1 6) (y.2 6).1 r_X2 fs_X2 sc_X2 ar_X2 := bv_X2 (get := fun X : M3 => X 6) (put := fun X S => va_up X 6 S) (fun X S => va_up_self X 6 S) D K Z (y.1 6) (y.2 6)
set_option maxHeartbeats 8000000 in
set_option maxRecDepth 100000 in
theorem vs_6_r7 (D : va_G) (K Z : Nat → Nat) (y : B4) : vOb (D, vwCl, ts7 y, fun X : M3 => rs7 y X, K, Z) (fun X => X 6) (fun X S => va_up X 6 S) (y.1 6) (y.2 6).1 r_X2 fs_X2 sc_X2 ar_X2 :=
  vw_right (t1 := ts6 y) (t2 := st7_ y) (A := fun X => rs6 y X) (C := fun X => sg7 y X) 53 (vs_6_0 D K Z y) (by intro X S; simp [rs0, rs1, rs2, rs3, rs4, rs5, rs6, sg0, sg1, sg2, sg3, sg4, sg5, sg6, va_up]) (by intro X; simp [rs0, rs1, rs2, rs3, rs4, rs5, rs6, sg0, sg1, sg2, sg3, sg4, sg5, sg6, bw_X3, bw_X1, bw_X2])
set_option maxHeartbeats 8000000 in
set_option maxRecDepth 100000 in
theorem vs_6_r8 (D : va_G) (K Z : Nat → Nat) (y : B4) : vOb (D, vwCl, ts8 y, fun X : M3 => rs8 y X, K, Z) (fun X => X 6) (fun X S => va_up X 6 S) (y.1 6) (y.2 6).1 r_X2 fs_X2 sc_X2 ar_X2 :=
  vw_left (t1 := ts7 y) (t2 := st8_ y) (A := fun X => rs7 y X) (C := fun X => sg8 y X) (vs_6_r7 D K Z y) (by intro X S; simp [sg8, va_up])
set_option maxHeartbeats 8000000 in
set_option maxRecDepth 100000 in
theorem vs_6_r9 (D : va_G) (K Z : Nat → Nat) (y : B4) : vOb (D, vwCl, ts9 y, fun X : M3 => rs9 y X, K, Z) (fun X => X 6) (fun X S => va_up X 6 S) (y.1 6) (y.2 6).1 r_X2 fs_X2 sc_X2 ar_X2 :=
  vw_left (t1 := ts8 y) (t2 := st9_ y) (A := fun X => rs8 y X) (C := fun X => sg9 y X) (vs_6_r8 D K Z y) (by intro X S; simp [sg9, va_up])
set_option maxHeartbeats 8000000 in
set_option maxRecDepth 100000 in
theorem vs_6_r10 (D : va_G) (K Z : Nat → Nat) (y : B4) : vOb (D, vwCl, ts10 y, fun X : M3 => rs10 y X, K, Z) (fun X => X 6) (fun X S => va_up X 6 S) (y.1 6) (y.2 6).1 r_X2 fs_X2 sc_X2 ar_X2 :=
  vw_left (t1 := ts9 y) (t2 := st10_ y) (A := fun X => rs9 y X) (C := fun X => sg10 y X) (vs_6_r9 D K Z y) (by intro X S; simp [sg10, va_up])
set_option maxHeartbeats 8000000 in
set_option maxRecDepth 100000 in
theorem vs_6_r11 (D : va_G) (K Z : Nat → Nat) (y : B4) : vOb (D, vwCl, ts11 y, fun X : M3 => rs11 y X, K, Z) (fun X => X 6) (fun X S => va_up X 6 S) (y.1 6) (y.2 6).1 r_X2 fs_X2 sc_X2 ar_X2 :=
  vw_left (t1 := ts10 y) (t2 := st11_ y) (A := fun X => rs10 y X) (C := fun X => sg11 y X) (vs_6_r10 D K Z y) (by intro X S; simp [sg11, va_up])
set_option maxHeartbeats 8000000 in
set_option maxRecDepth 100000 in
theorem vs_6_x (h0 : Nat) (D : va_G) (K Z : Nat → Nat) (y : B4) : vOb (D, vwCl, [] ++ ts11 y, fun X : M3 => [(h0, .inr (4, fs_X4 y.1 (y.2 0).1 (X 0)))] ++ rs11 y X, K, Z) (fun X => X 6) (fun X S => va_up X 6 S) (y.1 6) (y.2 6).1 r_X2 fs_X2 sc_X2 ar_X2 := by
  have h := vw_right (t1 := []) (t2 := ts11 y) (A := fun X : M3 => [(h0, .inr (4, fs_X4 y.1 (y.2 0).1 (X 0)))]) (C := fun X => rs11 y X) 1 (vs_6_r11 D K Z y) (by intro X S; simp [va_up]) (fun _ => rfl)
  exact h
set_option maxHeartbeats 8000000 in
set_option maxRecDepth 100000 in
theorem bl_6 (D : va_G) (K Z : Nat → Nat) (h0 hm : Nat) (y : B4) (z : (Nat → Nat) × (Nat → ClassId)) (S : M2) : vOb (jj_sub (VL D K Z h0 hm y z) (fun X => (X, S))) (fun X => X 6) (fun X S => va_up X 6 S) (y.1 6) (y.2 6).1 r_X2 fs_X2 sc_X2 ar_X2 := by
  have h := vw_left (t2 := bt_X5 z) (C := fun _ : M3 => bw_X5 hm z S) (vs_6_x h0 D K Z y) (fun _ _ => rfl)
  exact h
set_option maxHeartbeats 8000000 in
set_option maxRecDepth 100000 in
theorem vs_7_0 (D : va_G) (K Z : Nat → Nat) (y : B4) : vOb (D, vwCl, st8_ y, fun X : M3 => sg8 y X, K, Z) (fun X => X 7) (fun X S => va_up X 7 S) (y.1 7) (y.2 7).1 r_X2 fs_X2 sc_X2 ar_X2 := bv_X2 (get := fun X : M3 => X 7) (put := fun X S => va_up X 7 S) (fun X S => va_up_self X 7 S) D K Z (y.1 7) (y.2 7)
set_option maxHeartbeats 8000000 in
set_option maxRecDepth 100000 in
theorem vs_7_r8 (D : va_G) (K Z : Nat → Nat) (y : B4) : vOb (D, vwCl, ts8 y, fun X : M3 => rs8 y X, K, Z) (fun X => X 7) (fun X S => va_up X 7 S) (y.1 7) (y.2 7).1 r_X2 fs_X2 sc_X2 ar_X2 :=
  vw_right (t1 := ts7 y) (t2 := st8_ y) (A := fun X => rs7 y X) (C := fun X => sg8 y X) 55 (vs_7_0 D K Z y) (by intro X S; simp [rs0, rs1, rs2, rs3, rs4, rs5, rs6, rs7, sg0, sg1, sg2, sg3, sg4, sg5, sg6, sg7, va_up]) (by intro X; simp [rs0, rs1, rs2, rs3, rs4, rs5, rs6, rs7, sg0, sg1, sg2, sg3, sg4, sg5, sg6, sg7, bw_X3, bw_X1, bw_X2])
set_option maxHeartbeats 8000000 in
set_option maxRecDepth 100000 in
theorem vs_7_r9 (D : va_G) (K Z : Nat → Nat) (y : B4) : vOb (D, vwCl, ts9 y, fun X : M3 => rs9 y X, K, Z) (fun X => X 7) (fun X S => va_up X 7 S) (y.1 7) (y.2 7).1 r_X2 fs_X2 sc_X2 ar_X2 :=
  vw_left (t1 := ts8 y) (t2 := st9_ y) (A := fun X => rs8 y X) (C := fun X => sg9 y X) (vs_7_r8 D K Z y) (by intro X S; simp [sg9, va_up])
set_option maxHeartbeats 8000000 in
set_option maxRecDepth 100000 in
theorem vs_7_r10 (D : va_G) (K Z : Nat → Nat) (y : B4) : vOb (D, vwCl, ts10 y, fun X : M3 => rs10 y X, K, Z) (fun X => X 7) (fun X S => va_up X 7 S) (y.1 7) (y.2 7).1 r_X2 fs_X2 sc_X2 ar_X2 :=
  vw_left (t1 := ts9 y) (t2 := st10_ y) (A := fun X => rs9 y X) (C := fun X => sg10 y X) (vs_7_r9 D K Z y) (by intro X S; simp [sg10, va_up])
set_option maxHeartbeats 8000000 in
set_option maxRecDepth 100000 in
theorem vs_7_r11 (D : va_G) (K Z : Nat → Nat) (y : B4) : vOb (D, vwCl, ts11 y, fun X : M3 => rs11 y X, K, Z) (fun X => X 7) (fun X S => va_up X 7 S) (y.1 7) (y.2 7).1 r_X2 fs_X2 sc_X2 ar_X2 :=
  vw_left (t1 := ts10 y) (t2 := st11_ y) (A := fun X => rs10 y X) (C := fun X => sg11 y X) (vs_7_r10 D K Z y) (by intro X S; simp [sg11, va_up])
set_option maxHeartbeats 8000000 in
set_option maxRecDepth 100000 in
theorem vs_7_x (h0 : Nat) (D : va_G) (K Z : Nat → Nat) (y : B4) : vOb (D, vwCl, [] ++ ts11 y, fun X : M3 => [(h0, .inr (4, fs_X4 y.1 (y.2 0).1 (X 0)))] ++ rs11 y X, K, Z) (fun X => X 7) (fun X S => va_up X 7 S) (y.1 7) (y.2 7).1 r_X2 fs_X2 sc_X2 ar_X2 := by
  have h := vw_right (t1 := []) (t2 := ts11 y) (A := fun X : M3 => [(h0, .inr (4, fs_X4 y.1 (y.2 0).1 (X 0)))]) (C := fun X => rs11 y X) 1 (vs_7_r11 D K Z y) (by intro X S; simp [va_up]) (fun _ => rfl)
  exact h
set_option maxHeartbeats 8000000 in
set_option maxRecDepth 100000 in
theorem bl_7 (D : va_G) (K Z : Nat → Nat) (h0 hm : Nat) (y : B4) (z : (Nat → Nat) × (Nat → ClassId)) (S : M2) : vOb (jj_sub (VL D K Z h0 hm y z) (fun X => (X, S))) (fun X => X 7) (fun X S => va_up X 7 S) (y.1 7) (y.2 7).1 r_X2 fs_X2 sc_X2 ar_X2 := by
  have h := vw_left (t2 := bt_X5 z) (C := fun _ : M3 => bw_X5 hm z S) (vs_7_x h0 D K Z y) (fun _ _ => rfl)
  exact h
set_option maxHeartbeats 8000000 in
set_option maxRecDepth 100000 in
theorem vs_8_0 (D : va_G) (K Z : Nat → Nat) (y : B4) : vOb (D, vwCl, st9_ y, fun X : M3 => sg9 y X, K, Z) (fun X => X 8) (fun X S => va_up X 8 S) (y.1 8) (y.2 8).1 r_X2 fs_X2 sc_X2 ar_X2 := bv_X2 (get := fun X : M3 => X 8) (put := fun X S => va_up X 8 S) (fun X S => va_up_self X 8 S) D K Z (y.1 8) (y.2 8)
set_option maxHeartbeats 8000000 in
set_option maxRecDepth 100000 in
theorem vs_8_r9 (D : va_G) (K Z : Nat → Nat) (y : B4) : vOb (D, vwCl, ts9 y, fun X : M3 => rs9 y X, K, Z) (fun X => X 8) (fun X S => va_up X 8 S) (y.1 8) (y.2 8).1 r_X2 fs_X2 sc_X2 ar_X2 :=
  vw_right (t1 := ts8 y) (t2 := st9_ y) (A := fun X => rs8 y X) (C := fun X => sg9 y X) 57 (vs_8_0 D K Z y) (by intro X S; simp [rs0, rs1, rs2, rs3, rs4, rs5, rs6, rs7, rs8, sg0, sg1, sg2, sg3, sg4, sg5, sg6, sg7, sg8, va_up]) (by intro X; simp [rs0, rs1, rs2, rs3, rs4, rs5, rs6, rs7, rs8, sg0, sg1, sg2, sg3, sg4, sg5, sg6, sg7, sg8, bw_X3, bw_X1, bw_X2])
set_option maxHeartbeats 8000000 in
set_option maxRecDepth 100000 in
theorem vs_8_r10 (D : va_G) (K Z : Nat → Nat) (y : B4) : vOb (D, vwCl, ts10 y, fun X : M3 => rs10 y X, K, Z) (fun X => X 8) (fun X S => va_up X 8 S) (y.1 8) (y.2 8).1 r_X2 fs_X2 sc_X2 ar_X2 :=
  vw_left (t1 := ts9 y) (t2 := st10_ y) (A := fun X => rs9 y X) (C := fun X => sg10 y X) (vs_8_r9 D K Z y) (by intro X S; simp [sg10, va_up])
set_option maxHeartbeats 8000000 in
set_option maxRecDepth 100000 in
theorem vs_8_r11 (D : va_G) (K Z : Nat → Nat) (y : B4) : vOb (D, vwCl, ts11 y, fun X : M3 => rs11 y X, K, Z) (fun X => X 8) (fun X S => va_up X 8 S) (y.1 8) (y.2 8).1 r_X2 fs_X2 sc_X2 ar_X2 :=
  vw_left (t1 := ts10 y) (t2 := st11_ y) (A := fun X => rs10 y X) (C := fun X => sg11 y X) (vs_8_r10 D K Z y) (by intro X S; simp [sg11, va_up])
set_option maxHeartbeats 8000000 in
set_option maxRecDepth 100000 in
theorem vs_8_x (h0 : Nat) (D : va_G) (K Z : Nat → Nat) (y : B4) : vOb (D, vwCl, [] ++ ts11 y, fun X : M3 => [(h0, .inr (4, fs_X4 y.1 (y.2 0).1 (X 0)))] ++ rs11 y X, K, Z) (fun X => X 8) (fun X S => va_up X 8 S) (y.1 8) (y.2 8).1 r_X2 fs_X2 sc_X2 ar_X2 := by
  have h := vw_right (t1 := []) (t2 := ts11 y) (A := fun X : M3 => [(h0, .inr (4, fs_X4 y.1 (y.2 0).1 (X 0)))]) (C := fun X => rs11 y X) 1 (vs_8_r11 D K Z y) (by intro X S; simp [va_up]) (fun _ => rfl)
  exact h
set_option maxHeartbeats 8000000 in
set_option maxRecDepth 100000 in
theorem bl_8 (D : va_G) (K Z : Nat → Nat) (h0 hm : Nat) (y : B4) (z : (Nat → Nat) × (Nat → ClassId)) (S : M2) : vOb (jj_sub (VL D K Z h0 hm y z) (fun X => (X, S))) (fun X => X 8) (fun X S => va_up X 8 S) (y.1 8) (y.2 8).1 r_X2 fs_X2 sc_X2 ar_X2 := by
  have h := vw_left (t2 := bt_X5 z) (C := fun _ : M3 => bw_X5 hm z S) (vs_8_x h0 D K Z y) (fun _ _ => rfl)
  exact h
set_option maxHeartbeats 8000000 in
set_option maxRecDepth 100000 in
theorem vs_9_0 (D : va_G) (K Z : Nat → Nat) (y : B4) : vOb (D, vwCl, st10_ y, fun X : M3 => sg10 y X, K, Z) (fun X => X 9) (fun X S => va_up X 9 S) (y.1 9) (y.2 9).1 r_X2 fs_X2 sc_X2 ar_X2 := bv_X2 (get := fun X : M3 => X 9) (put := fun X S => va_up X 9 S) (fun X S => va_up_self X 9 S) D K Z (y.1 9) (y.2 9)
set_option maxHeartbeats 8000000 in
set_option maxRecDepth 100000 in
theorem vs_9_r10 (D : va_G) (K Z : Nat → Nat) (y : B4) : vOb (D, vwCl, ts10 y, fun X : M3 => rs10 y X, K, Z) (fun X => X 9) (fun X S => va_up X 9 S) (y.1 9) (y.2 9).1 r_X2 fs_X2 sc_X2 ar_X2 :=
  vw_right (t1 := ts9 y) (t2 := st10_ y) (A := fun X => rs9 y X) (C := fun X => sg10 y X) 59 (vs_9_0 D K Z y) (by intro X S; simp [rs0, rs1, rs2, rs3, rs4, rs5, rs6, rs7, rs8, rs9, sg0, sg1, sg2, sg3, sg4, sg5, sg6, sg7, sg8, sg9, va_up]) (by intro X; simp [rs0, rs1, rs2, rs3, rs4, rs5, rs6, rs7, rs8, rs9, sg0, sg1, sg2, sg3, sg4, sg5, sg6, sg7, sg8, sg9, bw_X3, bw_X1, bw_X2])
set_option maxHeartbeats 8000000 in
set_option maxRecDepth 100000 in
theorem vs_9_r11 (D : va_G) (K Z : Nat → Nat) (y : B4) : vOb (D, vwCl, ts11 y, fun X : M3 => rs11 y X, K, Z) (fun X => X 9) (fun X S => va_up X 9 S) (y.1 9) (y.2 9).1 r_X2 fs_X2 sc_X2 ar_X2 :=
  vw_left (t1 := ts10 y) (t2 := st11_ y) (A := fun X => rs10 y X) (C := fun X => sg11 y X) (vs_9_r10 D K Z y) (by intro X S; simp [sg11, va_up])
set_option maxHeartbeats 8000000 in
set_option maxRecDepth 100000 in
theorem vs_9_x (h0 : Nat) (D : va_G) (K Z : Nat → Nat) (y : B4) : vOb (D, vwCl, [] ++ ts11 y, fun X : M3 => [(h0, .inr (4, fs_X4 y.1 (y.2 0).1 (X 0)))] ++ rs11 y X, K, Z) (fun X => X 9) (fun X S => va_up X 9 S) (y.1 9) (y.2 9).1 r_X2 fs_X2 sc_X2 ar_X2 := by
  have h := vw_right (t1 := []) (t2 := ts11 y) (A := fun X : M3 => [(h0, .inr (4, fs_X4 y.1 (y.2 0).1 (X 0)))]) (C := fun X => rs11 y X) 1 (vs_9_r11 D K Z y) (by intro X S; simp [va_up]) (fun _ => rfl)
  exact h
set_option maxHeartbeats 8000000 in
set_option maxRecDepth 100000 in
theorem bl_9 (D : va_G) (K Z : Nat → Nat) (h0 hm : Nat) (y : B4) (z : (Nat → Nat) × (Nat → ClassId)) (S : M2) : vOb (jj_sub (VL D K Z h0 hm y z) (fun X => (X, S))) (fun X => X 9) (fun X S => va_up X 9 S) (y.1 9) (y.2 9).1 r_X2 fs_X2 sc_X2 ar_X2 := by
  have h := vw_left (t2 := bt_X5 z) (C := fun _ : M3 => bw_X5 hm z S) (vs_9_x h0 D K Z y) (fun _ _ => rfl)
  exact h
set_option maxHeartbeats 8000000 in
set_option maxRecDepth 100000 in
theorem bv_10 (D : va_G) (K Z : Nat → Nat) (o : Nat) (x : Nat × ((Nat → Nat) × (Nat → ClassId)) × ((Nat → Nat) × (Nat → ClassId))) : vOb (D, vwCl, bt_X0 x, fun X : M3 => bw_X0 o x (X 10) (X 11), K, Z) (fun X => X 10) (fun X S => va_up X 10 S) o x.2.2.1 r_X0 (fs_X0 x.1) sc_X0 ar_X0 :=
  ⟨⟨0, 0, rfl, fun X => ⟨rfl, fun k hk v => by
    simp only [sc_X0, List.mem_cons, List.not_mem_nil, or_false] at hk
    rcases hk with rfl | rfl | rfl <;> rfl⟩⟩, fun x hx => by
    simp only [ar_X0, List.mem_cons, List.not_mem_nil, or_false] at hx
    rcases hx with rfl | rfl
    · exact ⟨13, 11, x.2.2.2 1, rfl, fun X => ⟨rfl, fun f => rfl⟩⟩
    · exact ⟨14, 12, x.2.2.2 2, rfl, fun X => ⟨rfl, fun f => rfl⟩⟩⟩
set_option maxHeartbeats 8000000 in
set_option maxRecDepth 100000 in
theorem bv_11 (D : va_G) (K Z : Nat → Nat) (o : Nat) (x : Nat × ((Nat → Nat) × (Nat → ClassId)) × ((Nat → Nat) × (Nat → ClassId))) : vOb (D, vwCl, bt_X0 x, fun X : M3 => bw_X0 o x (X 10) (X 11), K, Z) (fun X => X 11) (fun X S => va_up X 11 S) x.1 x.2.1.1 r_X1 fs_X1 sc_X1 ar_X1 :=
  ⟨⟨1, 1, rfl, fun X => ⟨rfl, fun k hk v => by
    simp only [sc_X1, List.mem_cons, List.not_mem_nil, or_false] at hk
    rcases hk with rfl | rfl | rfl | rfl | rfl | rfl | rfl <;> rfl⟩⟩, fun x hx => by
    simp only [ar_X1, List.mem_cons, List.not_mem_nil, or_false] at hx
    rcases hx with rfl | rfl | rfl | rfl | rfl | rfl | rfl | rfl | rfl | rfl | rfl
    · exact ⟨2, 0, x.2.1.2 1, rfl, fun X => ⟨rfl, fun f => rfl⟩⟩
    · exact ⟨3, 1, x.2.1.2 2, rfl, fun X => ⟨rfl, fun f => rfl⟩⟩
    · exact ⟨4, 2, x.2.1.2 3, rfl, fun X => ⟨rfl, fun f => rfl⟩⟩
    · exact ⟨5, 3, x.2.1.2 5, rfl, fun X => ⟨rfl, fun f => rfl⟩⟩
    · exact ⟨6, 4, x.2.1.2 6, rfl, fun X => ⟨rfl, fun f => rfl⟩⟩
    · exact ⟨7, 5, x.2.1.2 8, rfl, fun X => ⟨rfl, fun f => rfl⟩⟩
    · exact ⟨8, 6, x.2.1.2 9, rfl, fun X => ⟨rfl, fun f => rfl⟩⟩
    · exact ⟨9, 7, x.2.1.2 10, rfl, fun X => ⟨rfl, fun f => rfl⟩⟩
    · exact ⟨10, 8, x.2.1.2 11, rfl, fun X => ⟨rfl, fun f => rfl⟩⟩
    · exact ⟨11, 9, x.2.1.2 16, rfl, fun X => ⟨rfl, fun f => rfl⟩⟩
    · exact ⟨12, 10, x.2.1.2 17, rfl, fun X => ⟨rfl, fun f => rfl⟩⟩⟩
set_option maxHeartbeats 8000000 in
set_option maxRecDepth 100000 in
theorem vs_10_0 (D : va_G) (K Z : Nat → Nat) (y : B4) : vOb (D, vwCl, st11_ y, fun X : M3 => sg11 y X, K, Z) (fun X => X 10) (fun X S => va_up X 10 S) (y.1 10) (y.2 10).1 r_X0 (fs_X0 (y.1 11)) sc_X0 ar_X0 := bv_10 D K Z (y.1 10) (y.1 11, y.2 11, y.2 10)
set_option maxHeartbeats 8000000 in
set_option maxRecDepth 100000 in
theorem vs_10_r11 (D : va_G) (K Z : Nat → Nat) (y : B4) : vOb (D, vwCl, ts11 y, fun X : M3 => rs11 y X, K, Z) (fun X => X 10) (fun X S => va_up X 10 S) (y.1 10) (y.2 10).1 r_X0 (fs_X0 (y.1 11)) sc_X0 ar_X0 :=
  vw_right (t1 := ts10 y) (t2 := st11_ y) (A := fun X => rs10 y X) (C := fun X => sg11 y X) 61 (vs_10_0 D K Z y) (by intro X S; simp [rs0, rs1, rs2, rs3, rs4, rs5, rs6, rs7, rs8, rs9, rs10, sg0, sg1, sg2, sg3, sg4, sg5, sg6, sg7, sg8, sg9, sg10, va_up]) (by intro X; simp [rs0, rs1, rs2, rs3, rs4, rs5, rs6, rs7, rs8, rs9, rs10, sg0, sg1, sg2, sg3, sg4, sg5, sg6, sg7, sg8, sg9, sg10, bw_X3, bw_X1, bw_X2])
set_option maxHeartbeats 8000000 in
set_option maxRecDepth 100000 in
theorem vs_10_x (h0 : Nat) (D : va_G) (K Z : Nat → Nat) (y : B4) : vOb (D, vwCl, [] ++ ts11 y, fun X : M3 => [(h0, .inr (4, fs_X4 y.1 (y.2 0).1 (X 0)))] ++ rs11 y X, K, Z) (fun X => X 10) (fun X S => va_up X 10 S) (y.1 10) (y.2 10).1 r_X0 (fs_X0 (y.1 11)) sc_X0 ar_X0 := by
  have h := vw_right (t1 := []) (t2 := ts11 y) (A := fun X : M3 => [(h0, .inr (4, fs_X4 y.1 (y.2 0).1 (X 0)))]) (C := fun X => rs11 y X) 1 (vs_10_r11 D K Z y) (by intro X S; simp [va_up]) (fun _ => rfl)
  exact h
set_option maxHeartbeats 8000000 in
set_option maxRecDepth 100000 in
theorem bl_10 (D : va_G) (K Z : Nat → Nat) (h0 hm : Nat) (y : B4) (z : (Nat → Nat) × (Nat → ClassId)) (S : M2) : vOb (jj_sub (VL D K Z h0 hm y z) (fun X => (X, S))) (fun X => X 10) (fun X S => va_up X 10 S) (y.1 10) (y.2 10).1 r_X0 (fs_X0 (y.1 11)) sc_X0 ar_X0 := by
  have h := vw_left (t2 := bt_X5 z) (C := fun _ : M3 => bw_X5 hm z S) (vs_10_x h0 D K Z y) (fun _ _ => rfl)
  exact h
set_option maxHeartbeats 8000000 in
set_option maxRecDepth 100000 in
theorem vs_11_0 (D : va_G) (K Z : Nat → Nat) (y : B4) : vOb (D, vwCl, st11_ y, fun X : M3 => sg11 y X, K, Z) (fun X => X 11) (fun X S => va_up X 11 S) (y.1 11) (y.2 11).1 r_X1 fs_X1 sc_X1 ar_X1 := bv_11 D K Z (y.1 10) (y.1 11, y.2 11, y.2 10)
set_option maxHeartbeats 8000000 in
set_option maxRecDepth 100000 in
theorem vs_11_r11 (D : va_G) (K Z : Nat → Nat) (y : B4) : vOb (D, vwCl, ts11 y, fun X : M3 => rs11 y X, K, Z) (fun X => X 11) (fun X S => va_up X 11 S) (y.1 11) (y.2 11).1 r_X1 fs_X1 sc_X1 ar_X1 :=
  vw_right (t1 := ts10 y) (t2 := st11_ y) (A := fun X => rs10 y X) (C := fun X => sg11 y X) 61 (vs_11_0 D K Z y) (by intro X S; simp [rs0, rs1, rs2, rs3, rs4, rs5, rs6, rs7, rs8, rs9, rs10, sg0, sg1, sg2, sg3, sg4, sg5, sg6, sg7, sg8, sg9, sg10, va_up]) (by intro X; simp [rs0, rs1, rs2, rs3, rs4, rs5, rs6, rs7, rs8, rs9, rs10, sg0, sg1, sg2, sg3, sg4, sg5, sg6, sg7, sg8, sg9, sg10, bw_X3, bw_X1, bw_X2])
set_option maxHeartbeats 8000000 in
set_option maxRecDepth 100000 in
theorem vs_11_x (h0 : Nat) (D : va_G) (K Z : Nat → Nat) (y : B4) : vOb (D, vwCl, [] ++ ts11 y, fun X : M3 => [(h0, .inr (4, fs_X4 y.1 (y.2 0).1 (X 0)))] ++ rs11 y X, K, Z) (fun X => X 11) (fun X S => va_up X 11 S) (y.1 11) (y.2 11).1 r_X1 fs_X1 sc_X1 ar_X1 := by
  have h := vw_right (t1 := []) (t2 := ts11 y) (A := fun X : M3 => [(h0, .inr (4, fs_X4 y.1 (y.2 0).1 (X 0)))]) (C := fun X => rs11 y X) 1 (vs_11_r11 D K Z y) (by intro X S; simp [va_up]) (fun _ => rfl)
  exact h
set_option maxHeartbeats 8000000 in
set_option maxRecDepth 100000 in
theorem bl_11 (D : va_G) (K Z : Nat → Nat) (h0 hm : Nat) (y : B4) (z : (Nat → Nat) × (Nat → ClassId)) (S : M2) : vOb (jj_sub (VL D K Z h0 hm y z) (fun X => (X, S))) (fun X => X 11) (fun X S => va_up X 11 S) (y.1 11) (y.2 11).1 r_X1 fs_X1 sc_X1 ar_X1 := by
  have h := vw_left (t2 := bt_X5 z) (C := fun _ : M3 => bw_X5 hm z S) (vs_11_x h0 D K Z y) (fun _ _ => rfl)
  exact h
set_option maxHeartbeats 8000000 in
set_option maxRecDepth 100000 in
theorem bv_0 (D : va_G) (K Z : Nat → Nat) (h0 : Nat) (y : B4) : vOb (D, vwCl, [], fun X : M3 => [(h0, .inr (4, fs_X4 y.1 (y.2 0).1 (X 0)))], K, Z) (fun X => X 0) (fun X S => va_up X 0 S) h0 (y.2 0).1 r_X4 (fs_X4 y.1) sc_X4 ar_X4 :=
  ⟨⟨0, 4, rfl, fun X => ⟨rfl, fun k hk v => by
    simp only [sc_X4, List.mem_cons, List.not_mem_nil, or_false] at hk
    rcases hk with rfl | rfl <;> rfl⟩⟩, fun x hx => by cases hx⟩
set_option maxHeartbeats 8000000 in
set_option maxRecDepth 100000 in
theorem vs_0_x (h0 : Nat) (D : va_G) (K Z : Nat → Nat) (y : B4) : vOb (D, vwCl, [] ++ ts11 y, fun X : M3 => [(h0, .inr (4, fs_X4 y.1 (y.2 0).1 (X 0)))] ++ rs11 y X, K, Z) (fun X => X 0) (fun X S => va_up X 0 S) h0 (y.2 0).1 r_X4 (fs_X4 y.1) sc_X4 ar_X4 := by
  have h := vw_left (t1 := []) (t2 := ts11 y) (C := fun X : M3 => rs11 y X) (bv_0 D K Z h0 y) (by intro X S; simp [rs0, rs1, rs2, rs3, rs4, rs5, rs6, rs7, rs8, rs9, rs10, rs11, sg0, sg1, sg2, sg3, sg4, sg5, sg6, sg7, sg8, sg9, sg10, sg11, va_up, bw_X0])
  exact h
set_option maxHeartbeats 8000000 in
set_option maxRecDepth 100000 in
theorem bl_0 (D : va_G) (K Z : Nat → Nat) (h0 hm : Nat) (y : B4) (z : (Nat → Nat) × (Nat → ClassId)) (S : M2) : vOb (jj_sub (VL D K Z h0 hm y z) (fun X => (X, S))) (fun X => X 0) (fun X S => va_up X 0 S) h0 (y.2 0).1 r_X4 (fs_X4 y.1) sc_X4 ar_X4 := by
  have h := vw_left (t2 := bt_X5 z) (C := fun _ : M3 => bw_X5 hm z S) (vs_0_x h0 D K Z y) (fun _ _ => rfl)
  exact h
set_option maxHeartbeats 8000000 in
set_option maxRecDepth 100000 in
theorem bl_m (D : va_G) (K Z : Nat → Nat) (h0 hm : Nat) (y : B4) (z : (Nat → Nat) × (Nat → ClassId)) (X : M3) : vX5 (jj_sub (VL D K Z h0 hm y z) (fun S => (X, S))) hm z.1 :=
  vw_right 77 (t1 := bt_X4 y) (t2 := bt_X5 z) (A := fun _ : M2 => bw_X4 h0 y X) (C := fun S : M2 => bw_X5 hm z S) (bv_X5 D K Z hm z) (fun _ _ => rfl) (by intro _; simp [bw_X4, bw_X3, bw_X1, bw_X2, bw_X0])
def oL (h0 : Nat) (y : B4) : Nat → Nat := fun k => if k = 0 then h0 else y.1 k
set_option maxHeartbeats 8000000 in
set_option maxRecDepth 100000 in
theorem bl_X4 (D : va_G) (K Z : Nat → Nat) (h0 hm : Nat) (y : B4) (z : (Nat → Nat) × (Nat → ClassId)) (S : M2) : vX4 (jj_sub (VL D K Z h0 hm y z) (fun X => (X, S))) (oL h0 y) (fun k => (y.2 k).1) := by
  refine ⟨bl_0 D K Z h0 hm y z S, bl_1 D K Z h0 hm y z S, fun k hk => ?_, fun k hk => ?_, bl_10 D K Z h0 hm y z S, fun X => ⟨28, 24, (y.2 0).2 3, rfl, ?_⟩, fun X => ⟨53, 47, (y.2 0).2 4, rfl, ?_⟩⟩
  · rcases hk with rfl | rfl | rfl | rfl | rfl
    · exact bl_2 D K Z h0 hm y z S
    · exact bl_3 D K Z h0 hm y z S
    · exact bl_4 D K Z h0 hm y z S
    · exact bl_5 D K Z h0 hm y z S
    · exact bl_11 D K Z h0 hm y z S
  · rcases hk with rfl | rfl | rfl | rfl
    · exact bl_6 D K Z h0 hm y z S
    · exact bl_7 D K Z h0 hm y z S
    · exact bl_8 D K Z h0 hm y z S
    · exact bl_9 D K Z h0 hm y z S
  · have e : (fun j => some (oL h0 y (4 + j))) = fun j => some (y.1 (4 + j)) := funext fun j => by
      unfold oL
      rw [if_neg (by omega)]
    rw [e]
    rfl
  · have e : (fun j => some (oL h0 y (6 + j))) = fun j => some (y.1 (6 + j)) := funext fun j => by
      unfold oL
      rw [if_neg (by omega)]
    rw [e]
    rfl
theorem bl_vL (D : va_G) (K Z : Nat → Nat) (h0 hm : Nat) (y : B4) (z : (Nat → Nat) × (Nat → ClassId)) : vL (VL D K Z h0 hm y z) (oL h0 y) (fun k => (y.2 k).1) hm z.1 := ⟨fun S => bl_X4 D K Z h0 hm y z S, fun X => bl_m D K Z h0 hm y z X⟩
