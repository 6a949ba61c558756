section VV
variable {σ : Type} {D : va_G} {cl : List vw_C} {t1 t2 : List (ClassId × FieldType)} {K Z : Nat → Nat} {get : σ → M2} {put : σ → M2 → σ} {o : Nat} {a : Nat → Nat} {r : vw_C} {fs : (Nat → Nat) → M2 → List Value} {sc : List Nat} {ar : List (Nat × Nat × FieldType)} {A C : σ → va_W}
theorem vOb.pull {W0 : M2 → va_W} (h : vOb (D, cl, t1, W0, K, Z) (fun S => S) (fun _ S => S) o a r fs sc ar) (hg : ∀ X S, get (put X S) = S) : vOb (D, cl, t1, fun X : σ => W0 (get X), K, Z) get put o a r fs sc ar := by
  obtain ⟨⟨q, ci, h1, h2⟩, h3⟩ := h
  refine ⟨⟨q, ci, h1, fun X => ⟨(h2 (get X)).1, fun k hk v => ?_⟩⟩, fun x hx => ?_⟩
  · show (W0 (get X)).set q _ = W0 (get (put X _))
    rw [hg]
    exact (h2 (get X)).2 k hk v
  · obtain ⟨q, t, cA, g1, g2⟩ := h3 x hx
    refine ⟨q, t, cA, g1, fun X => ⟨(g2 (get X)).1, fun f => ?_⟩⟩
    show (W0 (get X)).set q _ = W0 (get (put X _))
    rw [hg]
    exact (g2 (get X)).2 f
theorem vw_left (h : vOb (D, cl, t1, A, K, Z) get put o a r fs sc ar) (hC : ∀ X S, C (put X S) = C X) : vOb (D, cl, t1 ++ t2, fun X => A X ++ C X, K, Z) get put o a r fs sc ar := by
  obtain ⟨⟨q, ci, h1, h2⟩, h3⟩ := h
  refine ⟨⟨q, ci, h1, fun X => ⟨?_, fun k hk v => ?_⟩⟩, fun x hx => ?_⟩
  · have z := (h2 X).1
    show (A X ++ C X)[q]? = _
    rw [List.getElem?_append_left (List.getElem?_eq_some_iff.mp z).1]
    exact z
  · have z := (h2 X).1
    have w := (h2 X).2 k hk v
    show (A X ++ C X).set q _ = A _ ++ C _
    rw [hC, List.set_append_left _ _ (List.getElem?_eq_some_iff.mp z).1]
    exact congrArg (· ++ C X) w
  · obtain ⟨q, t, cA, g1, g2⟩ := h3 x hx
    refine ⟨q, t, cA, ?_, fun X => ⟨?_, fun f => ?_⟩⟩
    · show (t1 ++ t2)[t]? = _
      rw [List.getElem?_append_left (List.getElem?_eq_some_iff.mp g1).1]
      exact g1
    · have z := (g2 X).1
      show (A X ++ C X)[q]? = _
      rw [List.getElem?_append_left (List.getElem?_eq_some_iff.mp z).1]
      exact z
    · have z := (g2 X).1
      have w := (g2 X).2 f
      show (A X ++ C X).set q _ = A _ ++ C _
      rw [hC, List.set_append_left _ _ (List.getElem?_eq_some_iff.mp z).1]
      exact congrArg (· ++ C X) w
theorem vw_right (n : Nat) (h : vOb (D, cl, t2, C, K, Z) get put o a r fs sc ar) (hA : ∀ X S, A (put X S) = A X) (hn : ∀ X, (A X).length = n) : vOb (D, cl, t1 ++ t2, fun X => A X ++ C X, K, Z) get put o a r fs sc ar := by
  have hg : ∀ (X : σ) (q : Nat), (A X ++ C X)[n + q]? = (C X)[q]? := fun X q => by
    rw [List.getElem?_append_right (by rw [hn X]; omega), hn X, Nat.add_sub_cancel_left]
  have hs : ∀ (X : σ) (q : Nat) (x : Nat × va_E), (A X ++ C X).set (n + q) x = A X ++ (C X).set q x := fun X q x => by
    rw [List.set_append_right _ _ (by rw [hn X]; omega), hn X, Nat.add_sub_cancel_left]
  obtain ⟨⟨q, ci, h1, h2⟩, h3⟩ := h
  refine ⟨⟨n + q, ci, h1, fun X => ⟨?_, fun k hk v => ?_⟩⟩, fun x hx => ?_⟩
  · exact (hg X q).trans (h2 X).1
  · show (A X ++ C X).set (n + q) _ = A _ ++ C _
    rw [hs, hA]
    exact congrArg (A X ++ ·) ((h2 X).2 k hk v)
  · obtain ⟨q, t, cA, g1, g2⟩ := h3 x hx
    refine ⟨n + q, t1.length + t, cA, ?_, fun X => ⟨?_, fun f => ?_⟩⟩
    · show (t1 ++ t2)[t1.length + t]? = _
      rw [List.getElem?_append_right (by omega), Nat.add_sub_cancel_left]
      exact g1
    · exact (hg X q).trans (g2 X).1
    · show (A X ++ C X).set (n + q) _ = A _ ++ C _
      rw [hs, hA]
      exact congrArg (A X ++ ·) ((g2 X).2 f)
end VV
set_option maxHeartbeats 8000000 in
set_option maxRecDepth 100000 in
theorem bv_X1 {σ : Type} {get : σ → M2} {put : σ → M2 → σ} (hg : ∀ X S, get (put X S) = S) (D : va_G) (K Z : Nat → Nat) (o : Nat) (x : (Nat → Nat) × (Nat → ClassId)) : vOb (D, vwCl, bt_X1 x, fun X : σ => bw_X1 o x (get X), K, Z) get put o x.1 r_X1 fs_X1 sc_X1 ar_X1 := by
  have h : vOb (D, vwCl, bt_X1 x, fun S => bw_X1 o x S, K, Z) (fun S => S) (fun _ S => S) o x.1 r_X1 fs_X1 sc_X1 ar_X1 :=
    ⟨⟨0, 1, rfl, fun X => ⟨rfl, fun k hk v => by
      simp only [sc_X1, List.mem_cons, List.not_mem_nil, or_false] at hk
      rcases hk with rfl | rfl | rfl | rfl | rfl | rfl | rfl <;> rfl⟩⟩, fun x hx => by
      simp only [ar_X1, List.mem_cons, List.not_mem_nil, or_false] at hx
      rcases hx with rfl | rfl | rfl | rfl | rfl | rfl | rfl | rfl | rfl | rfl | rfl
      · exact ⟨1, 0, x.2 1, rfl, fun X => ⟨rfl, fun f => rfl⟩⟩
      · exact ⟨2, 1, x.2 2, rfl, fun X => ⟨rfl, fun f => rfl⟩⟩
      · exact ⟨3, 2, x.2 3, rfl, fun X => ⟨rfl, fun f => rfl⟩⟩
      · exact ⟨4, 3, x.2 5, rfl, fun X => ⟨rfl, fun f => rfl⟩⟩
      · exact ⟨5, 4, x.2 6, rfl, fun X => ⟨rfl, fun f => rfl⟩⟩
      · exact ⟨6, 5, x.2 8, rfl, fun X => ⟨rfl, fun f => rfl⟩⟩
      · exact ⟨7, 6, x.2 9, rfl, fun X => ⟨rfl, fun f => rfl⟩⟩
      · exact ⟨8, 7, x.2 10, rfl, fun X => ⟨rfl, fun f => rfl⟩⟩
      · exact ⟨9, 8, x.2 11, rfl, fun X => ⟨rfl, fun f => rfl⟩⟩
      · exact ⟨10, 9, x.2 16, rfl, fun X => ⟨rfl, fun f => rfl⟩⟩
      · exact ⟨11, 10, x.2 17, rfl, fun X => ⟨rfl, fun f => rfl⟩⟩⟩
  exact vOb.pull h hg
set_option maxHeartbeats 8000000 in
set_option maxRecDepth 100000 in
theorem bv_X2 {σ : Type} {get : σ → M2} {put : σ → M2 → σ} (hg : ∀ X S, get (put X S) = S) (D : va_G) (K Z : Nat → Nat) (o : Nat) (x : (Nat → Nat) × (Nat → ClassId)) : vOb (D, vwCl, bt_X2 x, fun X : σ => bw_X2 o x (get X), K, Z) get put o x.1 r_X2 fs_X2 sc_X2 ar_X2 := by
  have h : vOb (D, vwCl, bt_X2 x, fun S => bw_X2 o x S, K, Z) (fun S => S) (fun _ S => S) o x.1 r_X2 fs_X2 sc_X2 ar_X2 :=
    ⟨⟨0, 2, rfl, fun X => ⟨rfl, fun k hk v => by
      simp only [sc_X2, List.mem_cons, List.not_mem_nil, or_false] at hk
      rcases hk with rfl | rfl | rfl <;> rfl⟩⟩, fun x hx => by
      simp only [ar_X2, List.mem_cons, List.not_mem_nil, or_false] at hx
      rcases hx with rfl
      · exact ⟨1, 0, x.2 3, rfl, fun X => ⟨rfl, fun f => rfl⟩⟩⟩
  exact vOb.pull h hg
set_option maxHeartbeats 8000000 in
set_option maxRecDepth 100000 in
theorem bv_X3 {σ : Type} {get : σ → M2} {put : σ → M2 → σ} (hg : ∀ X S, get (put X S) = S) (D : va_G) (K Z : Nat → Nat) (o : Nat) (x : (Nat → Nat) × (Nat → ClassId)) : vOb (D, vwCl, bt_X3 x, fun X : σ => bw_X3 o x (get X), K, Z) get put o x.1 r_X3 fs_X3 sc_X3 ar_X3 := by
  have h : vOb (D, vwCl, bt_X3 x, fun S => bw_X3 o x S, K, Z) (fun S => S) (fun _ S => S) o x.1 r_X3 fs_X3 sc_X3 ar_X3 :=
    ⟨⟨0, 3, rfl, fun X => ⟨rfl, fun k hk v => by
      simp only [sc_X3, List.mem_cons, List.not_mem_nil, or_false] at hk
      rcases hk with rfl | rfl | rfl | rfl | rfl | rfl | rfl | rfl | rfl <;> rfl⟩⟩, fun x hx => by
      simp only [ar_X3, List.mem_cons, List.not_mem_nil, or_false] at hx
      rcases hx with rfl | rfl
      · exact ⟨1, 0, x.2 0, rfl, fun X => ⟨rfl, fun f => rfl⟩⟩
      · exact ⟨2, 1, x.2 4, rfl, fun X => ⟨rfl, fun f => rfl⟩⟩⟩
  exact vOb.pull h hg
abbrev VL (D : va_G) (K Z : Nat → Nat) (h0 hm : Nat) (y : B4) (z : (Nat → Nat) × (Nat → ClassId)) : JV (M3 × M2) := (D, vwCl, bt_X4 y ++ bt_X5 z, fun X : M3 × M2 => bw_X4 h0 y X.1 ++ bw_X5 hm z X.2, K, Z)
def bw_rest (y : B4) (X : M3) : va_W := bw_X3 (y.1 1) (y.2 1) (X 1) ++ bw_X1 (y.1 2) (y.2 2) (X 2) ++ bw_X1 (y.1 3) (y.2 3) (X 3) ++ [((y.2 0).1 3, .inl ((y.2 0).2 3, 2, .inr (.inr (.inr (.inr (fun j => some (y.1 (4 + j))))))))] ++ bw_X1 (y.1 4) (y.2 4) (X 4) ++ bw_X1 (y.1 5) (y.2 5) (X 5) ++ [((y.2 0).1 4, .inl ((y.2 0).2 4, 4, .inr (.inr (.inr (.inr (fun j => some (y.1 (6 + j))))))))] ++ bw_X2 (y.1 6) (y.2 6) (X 6) ++ bw_X2 (y.1 7) (y.2 7) (X 7) ++ bw_X2 (y.1 8) (y.2 8) (X 8) ++ bw_X2 (y.1 9) (y.2 9) (X 9) ++ bw_X0 (y.1 10) (y.1 11, y.2 11, y.2 10) (X 10) (X 11)
theorem bw_X4_eq (h0 : Nat) (y : B4) (X : M3) : bw_X4 h0 y X = [(h0, .inr (4, fs_X4 y.1 (y.2 0).1 (X 0)))] ++ bw_rest y X := rfl
set_option maxHeartbeats 8000000 in
set_option maxRecDepth 100000 in
theorem bl_1 (D : va_G) (K Z : Nat → Nat) (h0 hm : Nat) (y : B4) (z : (Nat → Nat) × (Nat → ClassId)) (S : M2) : vOb (jj_sub (VL D K Z h0 hm y z) (fun X => (X, S))) (fun X => X 1) (fun X S => va_up X 1 S) (y.1 1) (y.2 1).1 r_X3 fs_X3 sc_X3 ar_X3 :=
  vw_left (t1 := bt_X4 y) (t2 := bt_X5 z) (A := fun X : M3 => bw_X4 h0 y X) (C := fun _ : M3 => bw_X5 hm z S) (vw_right 1 (vw_left (vw_left (vw_left (vw_left (vw_left (vw_left (vw_left (vw_left (vw_left (vw_left (vw_left (bv_X3 (get := fun X : M3 => X 1) (put := fun X S => va_up X 1 S) (fun X S => va_up_self X 1 S) D K Z (y.1 1) (y.2 1)) (C := fun X : M3 => bw_X1 (y.1 2) (y.2 2) (X 2)) (t2 := bt_X1 (y.2 2)) (by intro X S; simp [va_up])) (C := fun X : M3 => bw_X1 (y.1 3) (y.2 3) (X 3)) (t2 := bt_X1 (y.2 3)) (by intro X S; simp [va_up])) (C := fun X : M3 => [((y.2 0).1 3, .inl ((y.2 0).2 3, 2, .inr (.inr (.inr (.inr (fun j => some (y.1 (4 + j))))))))]) (t2 := [((y.2 0).2 3, .object "MothCustoms$Shed")]) (by intro X S; simp [va_up])) (C := fun X : M3 => bw_X1 (y.1 4) (y.2 4) (X 4)) (t2 := bt_X1 (y.2 4)) (by intro X S; simp [va_up])) (C := fun X : M3 => bw_X1 (y.1 5) (y.2 5) (X 5)) (t2 := bt_X1 (y.2 5)) (by intro X S; simp [va_up])) (C := fun X : M3 => [((y.2 0).1 4, .inl ((y.2 0).2 4, 4, .inr (.inr (.inr (.inr (fun j => some (y.1 (6 + j))))))))]) (t2 := [((y.2 0).2 4, .object "MothCustoms$Sheet")]) (by intro X S; simp [va_up])) (C := fun X : M3 => bw_X2 (y.1 6) (y.2 6) (X 6)) (t2 := bt_X2 (y.2 6)) (by intro X S; simp [va_up])) (C := fun X : M3 => bw_X2 (y.1 7) (y.2 7) (X 7)) (t2 := bt_X2 (y.2 7)) (by intro X S; simp [va_up])) (C := fun X : M3 => bw_X2 (y.1 8) (y.2 8) (X 8)) (t2 := bt_X2 (y.2 8)) (by intro X S; simp [va_up])) (C := fun X : M3 => bw_X2 (y.1 9) (y.2 9) (X 9)) (t2 := bt_X2 (y.2 9)) (by intro X S; simp [va_up])) (C := fun X : M3 => bw_X0 (y.1 10) (y.1 11, y.2 11, y.2 10) (X 10) (X 11)) (t2 := bt_X0 (y.1 11, y.2 11, y.2 10)) (by intro X S; simp [va_up])) (A := fun X : M3 => [(h0, .inr (4, fs_X4 y.1 (y.2 0).1 (X 0)))]) (t1 := []) (by intro X S; simp [va_up]) (by intro X; rfl)) (fun _ _ => rfl)
set_option maxHeartbeats 8000000 in
set_option maxRecDepth 100000 in
theorem bl_2 (D : va_G) (K Z : Nat → Nat) (h0 hm : Nat) (y : B4) (z : (Nat → Nat) × (Nat → ClassId)) (S : M2) : vOb (jj_sub (VL D K Z h0 hm y z) (fun X => (X, S))) (fun X => X 2) (fun X S => va_up X 2 S) (y.1 2) (y.2 2).1 r_X1 fs_X1 sc_X1 ar_X1 :=
  vw_left (t1 := bt_X4 y) (t2 := bt_X5 z) (A := fun X : M3 => bw_X4 h0 y X) (C := fun _ : M3 => bw_X5 hm z S) (vw_right 1 (vw_left (vw_left (vw_left (vw_left (vw_left (vw_left (vw_left (vw_left (vw_left (vw_left (vw_right 3 (bv_X1 (get := fun X : M3 => X 2) (put := fun X S => va_up X 2 S) (fun X S => va_up_self X 2 S) D K Z (y.1 2) (y.2 2)) (A := fun X : M3 => bw_X3 (y.1 1) (y.2 1) (X 1)) (t1 := bt_X3 (y.2 1)) (by intro X S; simp [va_up]) (by intro X; simp [bw_X3, bw_X1, bw_X2])) (C := fun X : M3 => bw_X1 (y.1 3) (y.2 3) (X 3)) (t2 := bt_X1 (y.2 3)) (by intro X S; simp [va_up])) (C := fun X : M3 => [((y.2 0).1 3, .inl ((y.2 0).2 3, 2, .inr (.inr (.inr (.inr (fun j => some (y.1 (4 + j))))))))]) (t2 := [((y.2 0).2 3, .object "MothCustoms$Shed")]) (by intro X S; simp [va_up])) (C := fun X : M3 => bw_X1 (y.1 4) (y.2 4) (X 4)) (t2 := bt_X1 (y.2 4)) (by intro X S; simp [va_up])) (C := fun X : M3 => bw_X1 (y.1 5) (y.2 5) (X 5)) (t2 := bt_X1 (y.2 5)) (by intro X S; simp [va_up])) (C := fun X : M3 => [((y.2 0).1 4, .inl ((y.2 0).2 4, 4, .inr (.inr (.inr (.inr (fun j => some (y.1 (6 + j))))))))]) (t2 := [((y.2 0).2 4, .object "MothCustoms$Sheet")]) (by intro X S; simp [va_up])) (C := fun X : M3 => bw_X2 (y.1 6) (y.2 6) (X 6)) (t2 := bt_X2 (y.2 6)) (by intro X S; simp [va_up])) (C := fun X : M3 => bw_X2 (y.1 7) (y.2 7) (X 7)) (t2 := bt_X2 (y.2 7)) (by intro X S; simp [va_up])) (C := fun X : M3 => bw_X2 (y.1 8) (y.2 8) (X 8)) (t2 := bt_X2 (y.2 8)) (by intro X S; simp [va_up])) (C := fun X : M3 => bw_X2 (y.1 9) (y.2 9) (X 9)) (t2 := bt_X2 (y.2 9)) (by intro X S; simp [va_up])) (C := fun X : M3 => bw_X0 (y.1 10) (y.1 11, y.2 11, y.2 10) (X 10) (X 11)) (t2 := bt_X0 (y.1 11, y.2 11, y.2 10)) (by intro X S; simp [va_up])) (A := fun X : M3 => [(h0, .inr (4, fs_X4 y.1 (y.2 0).1 (X 0)))]) (t1 := []) (by intro X S; simp [va_up]) (by intro X; rfl)) (fun _ _ => rfl)
set_option maxHeartbeats 8000000 in
set_option maxRecDepth 100000 in
theorem bl_3 (D : va_G) (K Z : Nat → Nat) (h0 hm : Nat) (y : B4) (z : (Nat → Nat) × (Nat → ClassId)) (S : M2) : vOb (jj_sub (VL D K Z h0 hm y z) (fun X => (X, S))) (fun X => X 3) (fun X S => va_up X 3 S) (y.1 3) (y.2 3).1 r_X1 fs_X1 sc_X1 ar_X1 :=
  vw_left (t1 := bt_X4 y) (t2 := bt_X5 z) (A := fun X : M3 => bw_X4 h0 y X) (C := fun _ : M3 => bw_X5 hm z S) (vw_right 1 (vw_left (vw_left (vw_left (vw_left (vw_left (vw_left (vw_left (vw_left (vw_left (vw_right 15 (bv_X1 (get := fun X : M3 => X 3) (put := fun X S => va_up X 3 S) (fun X S => va_up_self X 3 S) D K Z (y.1 3) (y.2 3)) (A := fun X : M3 => bw_X3 (y.1 1) (y.2 1) (X 1) ++ bw_X1 (y.1 2) (y.2 2) (X 2)) (t1 := bt_X3 (y.2 1) ++ bt_X1 (y.2 2)) (by intro X S; simp [va_up]) (by intro X; simp [bw_X3, bw_X1, bw_X2])) (C := fun X : M3 => [((y.2 0).1 3, .inl ((y.2 0).2 3, 2, .inr (.inr (.inr (.inr (fun j => some (y.1 (4 + j))))))))]) (t2 := [((y.2 0).2 3, .object "MothCustoms$Shed")]) (by intro X S; simp [va_up])) (C := fun X : M3 => bw_X1 (y.1 4) (y.2 4) (X 4)) (t2 := bt_X1 (y.2 4)) (by intro X S; simp [va_up])) (C := fun X : M3 => bw_X1 (y.1 5) (y.2 5) (X 5)) (t2 := bt_X1 (y.2 5)) (by intro X S; simp [va_up])) (C := fun X : M3 => [((y.2 0).1 4, .inl ((y.2 0).2 4, 4, .inr (.inr (.inr (.inr (fun j => some (y.1 (6 + j))))))))]) (t2 := [((y.2 0).2 4, .object "MothCustoms$Sheet")]) (by intro X S; simp [va_up])) (C := fun X : M3 => bw_X2 (y.1 6) (y.2 6) (X 6)) (t2 := bt_X2 (y.2 6)) (by intro X S; simp [va_up])) (C := fun X : M3 => bw_X2 (y.1 7) (y.2 7) (X 7)) (t2 := bt_X2 (y.2 7)) (by intro X S; simp [va_up])) (C := fun X : M3 => bw_X2 (y.1 8) (y.2 8) (X 8)) (t2 := bt_X2 (y.2 8)) (by intro X S; simp [va_up])) (C := fun X : M3 => bw_X2 (y.1 9) (y.2 9) (X 9)) (t2 := bt_X2 (y.2 9)) (by intro X S; simp [va_up])) (C := fun X : M3 => bw_X0 (y.1 10) (y.1 11, y.2 11, y.2 10) (X 10) (X 11)) (t2 := bt_X0 (y.1 11, y.2 11, y.2 10)) (by intro X S; simp [va_up])) (A := fun X : M3 => [(h0, .inr (4, fs_X4 y.1 (y.2 0).1 (X 0)))]) (t1 := []) (by intro X S; simp [va_up]) (by intro X; rfl)) (fun _ _ => rfl)
set_option maxHeartbeats 8000000 in
set_option maxRecDepth 100000 in
theorem bl_4 (D : va_G) (K Z : Nat → Nat) (h0 hm : Nat) (y : B4) (z : (Nat → Nat) × (Nat → ClassId)) (S : M2) : vOb (jj_sub (VL D K Z h0 hm y z) (fun X => (X, S))) (fun X => X 4) (fun X S => va_up X 4 S) (y.1 4) (y.2 4).1 r_X1 fs_X1 sc_X1 ar_X1 :=
  vw_left (t1 := bt_X4 y) (t2 := bt_X5 z) (A := fun X : M3 => bw_X4 h0 y X) (C := fun _ : M3 => bw_X5 hm z S) (vw_right 1 (vw_left (vw_left (vw_left (vw_left (vw_left (vw_left (vw_left (vw_right 28 (bv_X1 (get := fun X : M3 => X 4) (put := fun X S => va_up X 4 S) (fun X S => va_up_self X 4 S) D K Z (y.1 4) (y.2 4)) (A := fun X : M3 => bw_X3 (y.1 1) (y.2 1) (X 1) ++ bw_X1 (y.1 2) (y.2 2) (X 2) ++ bw_X1 (y.1 3) (y.2 3) (X 3) ++ [((y.2 0).1 3, .inl ((y.2 0).2 3, 2, .inr (.inr (.inr (.inr (fun j => some (y.1 (4 + j))))))))]) (t1 := bt_X3 (y.2 1) ++ bt_X1 (y.2 2) ++ bt_X1 (y.2 3) ++ [((y.2 0).2 3, .object "MothCustoms$Shed")]) (by intro X S; simp [va_up]) (by intro X; simp [bw_X3, bw_X1, bw_X2])) (C := fun X : M3 => bw_X1 (y.1 5) (y.2 5) (X 5)) (t2 := bt_X1 (y.2 5)) (by intro X S; simp [va_up])) (C := fun X : M3 => [((y.2 0).1 4, .inl ((y.2 0).2 4, 4, .inr (.inr (.inr (.inr (fun j => some (y.1 (6 + j))))))))]) (t2 := [((y.2 0).2 4, .object "MothCustoms$Sheet")]) (by intro X S; simp [va_up])) (C := fun X : M3 => bw_X2 (y.1 6) (y.2 6) (X 6)) (t2 := bt_X2 (y.2 6)) (by intro X S; simp [va_up])) (C := fun X : M3 => bw_X2 (y.1 7) (y.2 7) (X 7)) (t2 := bt_X2 (y.2 7)) (by intro X S; simp [va_up])) (C := fun X : M3 => bw_X2 (y.1 8) (y.2 8) (X 8)) (t2 := bt_X2 (y.2 8)) (by intro X S; simp [va_up])) (C := fun X : M3 => bw_X2 (y.1 9) (y.2 9) (X 9)) (t2 := bt_X2 (y.2 9)) (by intro X S; simp [va_up])) (C := fun X : M3 => bw_X0 (y.1 10) (y.1 11, y.2 11, y.2 10) (X 10) (X 11)) (t2 := bt_X0 (y.1 11, y.2 11, y.2 10)) (by intro X S; simp [va_up])) (A := fun X : M3 => [(h0, .inr (4, fs_X4 y.1 (y.2 0).1 (X 0)))]) (t1 := []) (by intro X S; simp [va_up]) (by intro X; rfl)) (fun _ _ => rfl)
set_option maxHeartbeats 8000000 in
set_option maxRecDepth 100000 in
theorem bl_5 (D : va_G) (K Z : Nat → Nat) (h0 hm : Nat) (y : B4) (z : (Nat → Nat) × (Nat → ClassId)) (S : M2) : vOb (jj_sub (VL D K Z h0 hm y z) (fun X => (X, S))) (fun X => X 5) (fun X S => va_up X 5 S) (y.1 5) (y.2 5).1 r_X1 fs_X1 sc_X1 ar_X1 :=
  vw_left (t1 := bt_X4 y) (t2 := bt_X5 z) (A := fun X : M3 => bw_X4 h0 y X) (C := fun _ : M3 => bw_X5 hm z S) (vw_right 1 (vw_left (vw_left (vw_left (vw_left (vw_left (vw_left (vw_right 40 (bv_X1 (get := fun X : M3 => X 5) (put := fun X S => va_up X 5 S) (fun X S => va_up_self X 5 S) D K Z (y.1 5) (y.2 5)) (A := fun X : M3 => bw_X3 (y.1 1) (y.2 1) (X 1) ++ bw_X1 (y.1 2) (y.2 2) (X 2) ++ bw_X1 (y.1 3) (y.2 3) (X 3) ++ [((y.2 0).1 3, .inl ((y.2 0).2 3, 2, .inr (.inr (.inr (.inr (fun j => some (y.1 (4 + j))))))))] ++ bw_X1 (y.1 4) (y.2 4) (X 4)) (t1 := bt_X3 (y.2 1) ++ bt_X1 (y.2 2) ++ bt_X1 (y.2 3) ++ [((y.2 0).2 3, .object "MothCustoms$Shed")] ++ bt_X1 (y.2 4)) (by intro X S; simp [va_up]) (by intro X; simp [bw_X3, bw_X1, bw_X2])) (C := fun X : M3 => [((y.2 0).1 4, .inl ((y.2 0).2 4, 4, .inr (.inr (.inr (.inr (fun j => some (y.1 (6 + j))))))))]) (t2 := [((y.2 0).2 4, .object "MothCustoms$Sheet")]) (by intro X S; simp [va_up])) (C := fun X : M3 => bw_X2 (y.1 6) (y.2 6) (X 6)) (t2 := bt_X2 (y.2 6)) (by intro X S; simp [va_up])) (C := fun X : M3 => bw_X2 (y.1 7) (y.2 7) (X 7)) (t2 := bt_X2 (y.2 7)) (by intro X S; simp [va_up])) (C := fun X : M3 => bw_X2 (y.1 8) (y.2 8) (X 8)) (t2 := bt_X2 (y.2 8)) (by intro X S; simp [va_up])) (C := fun X : M3 => bw_X2 (y.1 9) (y.2 9) (X 9)) (t2 := bt_X2 (y.2 9)) (by intro X S; simp [va_up])) (C := fun X : M3 => bw_X0 (y.1 10) (y.1 11, y.2 11, y.2 10) (X 10) (X 11)) (t2 := bt_X0 (y.1 11, y.2 11, y.2 10)) (by intro X S; simp [va_up])) (A := fun X : M3 => [(h0, .inr (4, fs_X4 y.1 (y.2 0).1 (X 0)))]) (t1 := []) (by intro X S; simp [va_up]) (by intro X; rfl)) (fun _ _ => rfl)
set_option maxHeartbeats 8000000 in
set_option maxRecDepth 100000 in
theorem bl_6 (D : va_G) (K Z : Nat → Nat) (h0 hm : Nat) (y : B4) (z : (Nat → Nat) × (Nat → ClassId)) (S : M2) : vOb (jj_sub (VL D K Z h0 hm y z) (fun X => (X, S))) (fun X => X 6) (fun X S => va_up X 6 S) (y.1 6) (y.2 6).1 r_X2 fs_X2 sc_X2 ar_X2 :=
  vw_left (t1 := bt_X4 y) (t2 := bt_X5 z) (A := fun X : M3 => bw_X4 h0 y X) (C := fun _ : M3 => bw_X5 hm z S) (vw_right 1 (vw_left (vw_left (vw_left (vw_left (vw_right 53 (bv_X2 (get := fun X : M3 => X 6) (put := fun X S => va_up X 6 S) (fun X S => va_up_self X 6 S) D K Z (y.1 6) (y.2 6)) (A := fun X : M3 => bw_X3 (y.1 1) (y.2 1) (X 1) ++ bw_X1 (y.1 2) (y.2 2) (X 2) ++ bw_X1 (y.1 3) (y.2 3) (X 3) ++ [((y.2 0).1 3, .inl ((y.2 0).2 3, 2, .inr (.inr (.inr (.inr (fun j => some (y.1 (4 + j))))))))] ++ bw_X1 (y.1 4) (y.2 4) (X 4) ++ bw_X1 (y.1 5) (y.2 5) (X 5) ++ [((y.2 0).1 4, .inl ((y.2 0).2 4, 4, .inr (.inr (.inr (.inr (fun j => some (y.1 (6 + j))))))))]) (t1 := bt_X3 (y.2 1) ++ bt_X1 (y.2 2) ++ bt_X1 (y.2 3) ++ [((y.2 0).2 3, .object "MothCustoms$Shed")] ++ bt_X1 (y.2 4) ++ bt_X1 (y.2 5) ++ [((y.2 0).2 4, .object "MothCustoms$Sheet")]) (by intro X S; simp [va_up]) (by intro X; simp [bw_X3, bw_X1, bw_X2])) (C := fun X : M3 => bw_X2 (y.1 7) (y.2 7) (X 7)) (t2 := bt_X2 (y.2 7)) (by intro X S; simp [va_up])) (C := fun X : M3 => bw_X2 (y.1 8) (y.2 8) (X 8)) (t2 := bt_X2 (y.2 8)) (by intro X S; simp [va_up])) (C := fun X : M3 => bw_X2 (y.1 9) (y.2 9) (X 9)) (t2 := bt_X2 (y.2 9)) (by intro X S; simp [va_up])) (C := fun X : M3 => bw_X0 (y.1 10) (y.1 11, y.2 11, y.2 10) (X 10) (X 11)) (t2 := bt_X0 (y.1 11, y.2 11, y.2 10)) (by intro X S; simp [va_up])) (A := fun X : M3 => [(h0, .inr (4, fs_X4 y.1 (y.2 0).1 (X 0)))]) (t1 := []) (by intro X S; simp [va_up]) (by intro X; rfl)) (fun _ _ => rfl)
set_option maxHeartbeats 8000000 in
set_option maxRecDepth 100000 in
theorem bl_7 (D : va_G) (K Z : Nat → Nat) (h0 hm : Nat) (y : B4) (z : (Nat → Nat) × (Nat → ClassId)) (S : M2) : vOb (jj_sub (VL D K Z h0 hm y z) (fun X => (X, S))) (fun X => X 7) (fun X S => va_up X 7 S) (y.1 7) (y.2 7).1 r_X2 fs_X2 sc_X2 ar_X2 :=
  vw_left (t1 := bt_X4 y) (t2 := bt_X5 z) (A := fun X : M3 => bw_X4 h0 y X) (C := fun _ : M3 => bw_X5 hm z S) (vw_right 1 (vw_left (vw_left (vw_left (vw_right 55 (bv_X2 (get := fun X : M3 => X 7) (put := fun X S => va_up X 7 S) (fun X S => va_up_self X 7 S) D K Z (y.1 7) (y.2 7)) (A := fun X : M3 => bw_X3 (y.1 1) (y.2 1) (X 1) ++ bw_X1 (y.1 2) (y.2 2) (X 2) ++ bw_X1 (y.1 3) (y.2 3) (X 3) ++ [((y.2 0).1 3, .inl ((y.2 0).2 3, 2, .inr (.inr (.inr (.inr (fun j => some (y.1 (4 + j))))))))] ++ bw_X1 (y.1 4) (y.2 4) (X 4) ++ bw_X1 (y.1 5) (y.2 5) (X 5) ++ [((y.2 0).1 4, .inl ((y.2 0).2 4, 4, .inr (.inr (.inr (.inr (fun j => some (y.1 (6 + j))))))))] ++ bw_X2 (y.1 6) (y.2 6) (X 6)) (t1 := bt_X3 (y.2 1) ++ bt_X1 (y.2 2) ++ bt_X1 (y.2 3) ++ [((y.2 0).2 3, .object "MothCustoms$Shed")] ++ bt_X1 (y.2 4) ++ bt_X1 (y.2 5) ++ [((y.2 0).2 4, .object "MothCustoms$Sheet")] ++ bt_X2 (y.2 6)) (by intro X S; simp [va_up]) (by intro X; simp [bw_X3, bw_X1, bw_X2])) (C := fun X : M3 => bw_X2 (y.1 8) (y.2 8) (X 8)) (t2 := bt_X2 (y.2 8)) (by intro X S; simp [va_up])) (C := fun X : M3 => bw_X2 (y.1 9) (y.2 9) (X 9)) (t2 := bt_X2 (y.2 9)) (by intro X S; simp [va_up])) (C := fun X : M3 => bw_X0 (y.1 10) (y.1 11, y.2 11, y.2 10) (X 10) (X 11)) (t2 := bt_X0 (y.1 11, y.2 11, y.2 10)) (by intro X S; simp [va_up])) (A := fun X : M3 => [(h0, .inr (4, fs_X4 y.1 (y.2 0).1 (X 0)))]) (t1 := []) (by intro X S; simp [va_up]) (by intro X; rfl)) (fun _ _ => rfl)
set_option maxHeartbeats 8000000 in
set_option maxRecDepth 100000 in
theorem bl_8 (D : va_G) (K Z : Nat → Nat) (h0 hm : Nat) (y : B4) (z : (Nat → Nat) × (Nat → ClassId)) (S : M2) : vOb (jj_sub (VL D K Z h0 hm y z) (fun X => (X, S))) (fun X => X 8) (fun X S => va_up X 8 S) (y.1 8) (y.2 8).1 r_X2 fs_X2 sc_X2 ar_X2 :=
  vw_left (t1 := bt_X4 y) (t2 := bt_X5 z) (A := fun X : M3 => bw_X4 h0 y X) (C := fun _ : M3 => bw_X5 hm z S) (vw_right 1 (vw_left (vw_left (vw_right 57 (bv_X2 (get := fun X : M3 => X 8) (put := fun X S => va_up X 8 S) (fun X S => va_up_self X 8 S) D K Z (y.1 8) (y.2 8)) (A := fun X : M3 => bw_X3 (y.1 1) (y.2 1) (X 1) ++ bw_X1 (y.1 2) (y.2 2) (X 2) ++ bw_X1 (y.1 3) (y.2 3) (X 3) ++ [((y.2 0).1 3, .inl ((y.2 0).2 3, 2, .inr (.inr (.inr (.inr (fun j => some (y.1 (4 + j))))))))] ++ bw_X1 (y.1 4) (y.2 4) (X 4) ++ bw_X1 (y.1 5) (y.2 5) (X 5) ++ [((y.2 0).1 4, .inl ((y.2 0).2 4, 4, .inr (.inr (.inr (.inr (fun j => some (y.1 (6 + j))))))))] ++ bw_X2 (y.1 6) (y.2 6) (X 6) ++ bw_X2 (y.1 7) (y.2 7) (X 7)) (t1 := bt_X3 (y.2 1) ++ bt_X1 (y.2 2) ++ bt_X1 (y.2 3) ++ [((y.2 0).2 3, .object "MothCustoms$Shed")] ++ bt_X1 (y.2 4) ++ bt_X1 (y.2 5) ++ [((y.2 0).2 4, .object "MothCustoms$Sheet")] ++ bt_X2 (y.2 6) ++ bt_X2 (y.2 7)) (by intro X S; simp [va_up]) (by intro X; simp [bw_X3, bw_X1, bw_X2])) (C := fun X : M3 => bw_X2 (y.1 9) (y.2 9) (X 9)) (t2 := bt_X2 (y.2 9)) (by intro X S; simp [va_up])) (C := fun X : M3 => bw_X0 (y.1 10) (y.1 11, y.2 11, y.2 10) (X 10) (X 11)) (t2 := bt_X0 (y.1 11, y.2 11, y.2 10)) (by intro X S; simp [va_up])) (A := fun X : M3 => [(h0, .inr (4, fs_X4 y.1 (y.2 0).1 (X 0)))]) (t1 := []) (by intro X S; simp [va_up]) (by intro X; rfl)) (fun _ _ => rfl)
set_option maxHeartbeats 8000000 in
set_option maxRecDepth 100000 in
theorem bl_9 (D : va_G) (K Z : Nat → Nat) (h0 hm : Nat) (y : B4) (z : (Nat → Nat) × (Nat → ClassId)) (S : M2) : vOb (jj_sub (VL D K Z h0 hm y z) (fun X => (X, S))) (fun X => X 9) (fun X S => va_up X 9 S) (y.1 9) (y.2 9).1 r_X2 fs_X2 sc_X2 ar_X2 :=
  vw_left (t1 := bt_X4 y) (t2 := bt_X5 z) (A := fun X : M3 => bw_X4 h0 y X) (C := fun _ : M3 => bw_X5 hm z S) (vw_right 1 (vw_left (vw_right 59 (bv_X2 (get := fun X : M3 => X 9) (put := fun X S => va_up X 9 S) (fun X S => va_up_self X 9 S) D K Z (y.1 9) (y.2 9)) (A := fun X : M3 => bw_X3 (y.1 1) (y.2 1) (X 1) ++ bw_X1 (y.1 2) (y.2 2) (X 2) ++ bw_X1 (y.1 3) (y.2 3) (X 3) ++ [((y.2 0).1 3, .inl ((y.2 0).2 3, 2, .inr (.inr (.inr (.inr (fun j => some (y.1 (4 + j))))))))] ++ bw_X1 (y.1 4) (y.2 4) (X 4) ++ bw_X1 (y.1 5) (y.2 5) (X 5) ++ [((y.2 0).1 4, .inl ((y.2 0).2 4, 4, .inr (.inr (.inr (.inr (fun j => some (y.1 (6 + j))))))))] ++ bw_X2 (y.1 6) (y.2 6) (X 6) ++ bw_X2 (y.1 7) (y.2 7) (X 7) ++ bw_X2 (y.1 8) (y.2 8) (X 8)) (t1 := bt_X3 (y.2 1) ++ bt_X1 (y.2 2) ++ bt_X1 (y.2 3) ++ [((y.2 0).2 3, .object "MothCustoms$Shed")] ++ bt_X1 (y.2 4) ++ bt_X1 (y.2 5) ++ [((y.2 0).2 4, .object "MothCustoms$Sheet")] ++ bt_X2 (y.2 6) ++ bt_X2 (y.2 7) ++ bt_X2 (y.2 8)) (by intro X S; simp [va_up]) (by intro X; simp [bw_X3, bw_X1, bw_X2])) (C := fun X : M3 => bw_X0 (y.1 10) (y.1 11, y.2 11, y.2 10) (X 10) (X 11)) (t2 := bt_X0 (y.1 11, y.2 11, y.2 10)) (by intro X S; simp [va_up])) (A := fun X : M3 => [(h0, .inr (4, fs_X4 y.1 (y.2 0).1 (X 0)))]) (t1 := []) (by intro X S; simp [va_up]) (by intro X; rfl)) (fun _ _ => rfl)
set_option maxHeartbeats 8000000 in
set_option maxRecDepth 100000 in
theorem bv_10 (D : va_G) (K Z : Nat → Nat) (o : Nat) (x : Nat × ((Nat → Nat) × (Nat → ClassId)) × ((Nat → Nat) × (Nat → ClassId))) : vOb (D, vwCl, bt_X0 x, fun X : M3 => bw_X0 o x (X 10) (X 11), K, Z) (fun X => X 10) (fun X S => va_up X 10 S) o x.2.2.1 r_X0 (fs_X0 x.1) sc_X0 ar_X0 :=
  ⟨⟨0, 0, rfl, fun X => ⟨rfl, fun k hk v => by
    simp only [sc_X0, List.mem_cons, List.not_mem_nil, or_false] at hk
    rcases hk with rfl | rfl | rfl <;> rfl⟩⟩, fun x hx => by
    simp only [ar_X0, List.mem_cons, List.not_mem_nil, or_false] at hx
    rcases hx with rfl | rfl
    · exact ⟨13, 11, x.2.2.2 1, rfl, fun X => ⟨rfl, fun f => rfl⟩⟩
    · exact ⟨14, 12, x.2.2.2 2, rfl, fun X => ⟨rfl, fun f => rfl⟩⟩⟩
set_option maxHeartbeats 8000000 in
set_option maxRecDepth 100000 in
theorem bv_11 (D : va_G) (K Z : Nat → Nat) (o : Nat) (x : Nat × ((Nat → Nat) × (Nat → ClassId)) × ((Nat → Nat) × (Nat → ClassId))) : vOb (D, vwCl, bt_X0 x, fun X : M3 => bw_X0 o x (X 10) (X 11), K, Z) (fun X => X 11) (fun X S => va_up X 11 S) x.1 x.2.1.1 r_X1 fs_X1 sc_X1 ar_X1 :=
  ⟨⟨1, 1, rfl, fun X => ⟨rfl, fun k hk v => by
    simp only [sc_X1, List.mem_cons, List.not_mem_nil, or_false] at hk
    rcases hk with rfl | rfl | rfl | rfl | rfl | rfl | rfl <;> rfl⟩⟩, fun x hx => by
    simp only [ar_X1, List.mem_cons, List.not_mem_nil, or_false] at hx
    rcases hx with rfl | rfl | rfl | rfl | rfl | rfl | rfl | rfl | rfl | rfl | rfl
    · exact ⟨2, 0, x.2.1.2 1, rfl, fun X => ⟨rfl, fun f => rfl⟩⟩
    · exact ⟨3, 1, x.2.1.2 2, rfl, fun X => ⟨rfl, fun f => rfl⟩⟩
    · exact ⟨4, 2, x.2.1.2 3, rfl, fun X => ⟨rfl, fun f => rfl⟩⟩
    · exact ⟨5, 3, x.2.1.2 5, rfl, fun X => ⟨rfl, fun f => rfl⟩⟩
    · exact ⟨6, 4, x.2.1.2 6, rfl, fun X => ⟨rfl, fun f => rfl⟩⟩
    · exact ⟨7, 5, x.2.1.2 8, rfl, fun X => ⟨rfl, fun f => rfl⟩⟩
    · exact ⟨8, 6, x.2.1.2 9, rfl, fun X => ⟨rfl, fun f => rfl⟩⟩
    · exact ⟨9, 7, x.2.1.2 10, rfl, fun X => ⟨rfl, fun f => rfl⟩⟩
    · exact ⟨10, 8, x.2.1.2 11, rfl, fun X => ⟨rfl, fun f => rfl⟩⟩
    · exact ⟨11, 9, x.2.1.2 16, rfl, fun X => ⟨rfl, fun f => rfl⟩⟩
    · exact ⟨12, 10, x.2.1.2 17, rfl, fun X => ⟨rfl, fun f => rfl⟩⟩⟩
set_option maxHeartbeats 8000000 in
set_option maxRecDepth 100000 in
theorem bl_10 (D : va_G) (K Z : Nat → Nat) (h0 hm : Nat) (y : B4) (z : (Nat → Nat) × (Nat → ClassId)) (S : M2) : vOb (jj_sub (VL D K Z h0 hm y z) (fun X => (X, S))) (fun X => X 10) (fun X S => va_up X 10 S) (y.1 10) (y.2 10).1 r_X0 (fs_X0 (y.1 11)) sc_X0 ar_X0 :=
  vw_left (t1 := bt_X4 y) (t2 := bt_X5 z) (A := fun X : M3 => bw_X4 h0 y X) (C := fun _ : M3 => bw_X5 hm z S) (vw_right 1 (vw_right 61 (bv_10 D K Z (y.1 10) (y.1 11, y.2 11, y.2 10)) (A := fun X : M3 => bw_X3 (y.1 1) (y.2 1) (X 1) ++ bw_X1 (y.1 2) (y.2 2) (X 2) ++ bw_X1 (y.1 3) (y.2 3) (X 3) ++ [((y.2 0).1 3, .inl ((y.2 0).2 3, 2, .inr (.inr (.inr (.inr (fun j => some (y.1 (4 + j))))))))] ++ bw_X1 (y.1 4) (y.2 4) (X 4) ++ bw_X1 (y.1 5) (y.2 5) (X 5) ++ [((y.2 0).1 4, .inl ((y.2 0).2 4, 4, .inr (.inr (.inr (.inr (fun j => some (y.1 (6 + j))))))))] ++ bw_X2 (y.1 6) (y.2 6) (X 6) ++ bw_X2 (y.1 7) (y.2 7) (X 7) ++ bw_X2 (y.1 8) (y.2 8) (X 8) ++ bw_X2 (y.1 9) (y.2 9) (X 9)) (t1 := bt_X3 (y.2 1) ++ bt_X1 (y.2 2) ++ bt_X1 (y.2 3) ++ [((y.2 0).2 3, .object "MothCustoms$Shed")] ++ bt_X1 (y.2 4) ++ bt_X1 (y.2 5) ++ [((y.2 0).2 4, .object "MothCustoms$Sheet")] ++ bt_X2 (y.2 6) ++ bt_X2 (y.2 7) ++ bt_X2 (y.2 8) ++ bt_X2 (y.2 9)) (by intro X S; simp [va_up]) (by intro X; simp [bw_X3, bw_X1, bw_X2])) (A := fun X : M3 => [(h0, .inr (4, fs_X4 y.1 (y.2 0).1 (X 0)))]) (t1 := []) (by intro X S; simp [va_up]) (by intro X; rfl)) (fun _ _ => rfl)
set_option maxHeartbeats 8000000 in
set_option maxRecDepth 100000 in
theorem bl_11 (D : va_G) (K Z : Nat → Nat) (h0 hm : Nat) (y : B4) (z : (Nat → Nat) × (Nat → ClassId)) (S : M2) : vOb (jj_sub (VL D K Z h0 hm y z) (fun X => (X, S))) (fun X => X 11) (fun X S => va_up X 11 S) (y.1 11) (y.2 11).1 r_X1 fs_X1 sc_X1 ar_X1 :=
  vw_left (t1 := bt_X4 y) (t2 := bt_X5 z) (A := fun X : M3 => bw_X4 h0 y X) (C := fun _ : M3 => bw_X5 hm z S) (vw_right 1 (vw_right 61 (bv_11 D K Z (y.1 10) (y.1 11, y.2 11, y.2 10)) (A := fun X : M3 => bw_X3 (y.1 1) (y.2 1) (X 1) ++ bw_X1 (y.1 2) (y.2 2) (X 2) ++ bw_X1 (y.1 3) (y.2 3) (X 3) ++ [((y.2 0).1 3, .inl ((y.2 0).2 3, 2, .inr (.inr (.inr (.inr (fun j => some (y.1 (4 + j))))))))] ++ bw_X1 (y.1 4) (y.2 4) (X 4) ++ bw_X1 (y.1 5) (y.2 5) (X 5) ++ [((y.2 0).1 4, .inl ((y.2 0).2 4, 4, .inr (.inr (.inr (.inr (fun j => some (y.1 (6 + j))))))))] ++ bw_X2 (y.1 6) (y.2 6) (X 6) ++ bw_X2 (y.1 7) (y.2 7) (X 7) ++ bw_X2 (y.1 8) (y.2 8) (X 8) ++ bw_X2 (y.1 9) (y.2 9) (X 9)) (t1 := bt_X3 (y.2 1) ++ bt_X1 (y.2 2) ++ bt_X1 (y.2 3) ++ [((y.2 0).2 3, .object "MothCustoms$Shed")] ++ bt_X1 (y.2 4) ++ bt_X1 (y.2 5) ++ [((y.2 0).2 4, .object "MothCustoms$Sheet")] ++ bt_X2 (y.2 6) ++ bt_X2 (y.2 7) ++ bt_X2 (y.2 8) ++ bt_X2 (y.2 9)) (by intro X S; simp [va_up]) (by intro X; simp [bw_X3, bw_X1, bw_X2])) (A := fun X : M3 => [(h0, .inr (4, fs_X4 y.1 (y.2 0).1 (X 0)))]) (t1 := []) (by intro X S; simp [va_up]) (by intro X; rfl)) (fun _ _ => rfl)
set_option maxHeartbeats 8000000 in
set_option maxRecDepth 100000 in
theorem bv_0 (D : va_G) (K Z : Nat → Nat) (h0 : Nat) (y : B4) : vOb (D, vwCl, [], fun X : M3 => [(h0, .inr (4, fs_X4 y.1 (y.2 0).1 (X 0)))], K, Z) (fun X => X 0) (fun X S => va_up X 0 S) h0 (y.2 0).1 r_X4 (fs_X4 y.1) sc_X4 ar_X4 :=
  ⟨⟨0, 4, rfl, fun X => ⟨rfl, fun k hk v => by
    simp only [sc_X4, List.mem_cons, List.not_mem_nil, or_false] at hk
    rcases hk with rfl | rfl <;> rfl⟩⟩, fun x hx => by cases hx⟩
set_option maxHeartbeats 8000000 in
set_option maxRecDepth 100000 in
theorem bl_0 (D : va_G) (K Z : Nat → Nat) (h0 hm : Nat) (y : B4) (z : (Nat → Nat) × (Nat → ClassId)) (S : M2) : vOb (jj_sub (VL D K Z h0 hm y z) (fun X => (X, S))) (fun X => X 0) (fun X S => va_up X 0 S) h0 (y.2 0).1 r_X4 (fs_X4 y.1) sc_X4 ar_X4 :=
  vw_left (t1 := bt_X4 y) (t2 := bt_X5 z) (A := fun X : M3 => bw_X4 h0 y X) (C := fun _ : M3 => bw_X5 hm z S) (vw_left (bv_0 D K Z h0 y) (C := fun X : M3 => bw_rest y X) (t2 := bt_X4 y) (by intro X S; simp [va_up, bw_rest])) (fun _ _ => rfl)
set_option maxHeartbeats 8000000 in
set_option maxRecDepth 100000 in
theorem bl_m (D : va_G) (K Z : Nat → Nat) (h0 hm : Nat) (y : B4) (z : (Nat → Nat) × (Nat → ClassId)) (X : M3) : vX5 (jj_sub (VL D K Z h0 hm y z) (fun S => (X, S))) hm z.1 :=
  vw_right 77 (t1 := bt_X4 y) (t2 := bt_X5 z) (A := fun _ : M2 => bw_X4 h0 y X) (C := fun S : M2 => bw_X5 hm z S) (bv_X5 D K Z hm z) (fun _ _ => rfl) (by intro _; simp [bw_X4, bw_X3, bw_X1, bw_X2, bw_X0])
def oL (h0 : Nat) (y : B4) : Nat → Nat := fun k => if k = 0 then h0 else y.1 k
set_option maxHeartbeats 8000000 in
set_option maxRecDepth 100000 in
theorem bl_X4 (D : va_G) (K Z : Nat → Nat) (h0 hm : Nat) (y : B4) (z : (Nat → Nat) × (Nat → ClassId)) (S : M2) : vX4 (jj_sub (VL D K Z h0 hm y z) (fun X => (X, S))) (oL h0 y) (fun k => (y.2 k).1) := by
  refine ⟨bl_0 D K Z h0 hm y z S, bl_1 D K Z h0 hm y z S, fun k hk => ?_, fun k hk => ?_, bl_10 D K Z h0 hm y z S, fun X => ⟨28, 24, (y.2 0).2 3, rfl, ?_⟩, fun X => ⟨53, 47, (y.2 0).2 4, rfl, ?_⟩⟩
  · rcases hk with rfl | rfl | rfl | rfl | rfl
    · exact bl_2 D K Z h0 hm y z S
    · exact bl_3 D K Z h0 hm y z S
    · exact bl_4 D K Z h0 hm y z S
    · exact bl_5 D K Z h0 hm y z S
    · exact bl_11 D K Z h0 hm y z S
  · rcases hk with rfl | rfl | rfl | rfl
    · exact bl_6 D K Z h0 hm y z S
    · exact bl_7 D K Z h0 hm y z S
    · exact bl_8 D K Z h0 hm y z S
    · exact bl_9 D K Z h0 hm y z S
  · have e : (fun j => some (oL h0 y (4 + j))) = fun j => some (y.1 (4 + j)) := funext fun j => by
      unfold oL
      rw [if_neg (by omega)]
    rw [e]
    rfl
  · have e : (fun j => some (oL h0 y (6 + j))) = fun j => some (y.1 (6 + j)) := funext fun j => by
      unfold oL
      rw [if_neg (by omega)]
    rw [e]
    rfl
theorem bl_vL (D : va_G) (K Z : Nat → Nat) (h0 hm : Nat) (y : B4) (z : (Nat → Nat) × (Nat → ClassId)) : vL (VL D K Z h0 hm y z) (oL h0 y) (fun k => (y.2 k).1) hm z.1 := ⟨fun S => bl_X4 D K Z h0 hm y z S, fun X => bl_m D K Z h0 hm y z X⟩
