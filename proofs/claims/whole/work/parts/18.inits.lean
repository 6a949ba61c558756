def s0_X1 : M2 := fun k _ => if k = 13 then 1 else 0
def s0 : M2 := fun _ _ => 0
def s0_X4 : M3 := fun k => if k = 2 ∨ k = 3 ∨ k = 4 ∨ k = 5 ∨ k = 11 then s0_X1 else s0
def bw_X1 (o : Nat) (x : (Nat → Nat) × (Nat → ClassId)) (S : M2) : va_W := [(o, .inr (1, fs_X1 x.1 S)), (x.1 1, .inl (x.2 1, 5, .inl (S 1))), (x.1 2, .inl (x.2 2, 5, .inl (S 2))), (x.1 3, .inl (x.2 3, 5, .inl (S 3))), (x.1 5, .inl (x.2 5, 15, .inl (S 5))), (x.1 6, .inl (x.2 6, 3, .inl (S 6))), (x.1 8, .inl (x.2 8, 4, .inl (S 8))), (x.1 9, .inl (x.2 9, 4, .inl (S 9))), (x.1 10, .inl (x.2 10, 4, .inl (S 10))), (x.1 11, .inl (x.2 11, 4, .inl (S 11))), (x.1 16, .inl (x.2 16, 6, .inl (S 16))), (x.1 17, .inl (x.2 17, 6, .inl (S 17)))]
def bt_X1 (x : (Nat → Nat) × (Nat → ClassId)) : List (ClassId × FieldType) := [(x.2 1, .int), (x.2 2, .int), (x.2 3, .int), (x.2 5, .int), (x.2 6, .int), (x.2 8, .int), (x.2 9, .int), (x.2 10, .int), (x.2 11, .int), (x.2 16, .int), (x.2 17, .int)]
def bw_X2 (o : Nat) (x : (Nat → Nat) × (Nat → ClassId)) (S : M2) : va_W := [(o, .inr (2, fs_X2 x.1 S)), (x.1 3, .inl (x.2 3, 40, .inl (S 3)))]
def bt_X2 (x : (Nat → Nat) × (Nat → ClassId)) : List (ClassId × FieldType) := [(x.2 3, .int)]
def bw_X3 (o : Nat) (x : (Nat → Nat) × (Nat → ClassId)) (S : M2) : va_W := [(o, .inr (3, fs_X3 x.1 S)), (x.1 0, .inl (x.2 0, 160, .inl (S 0))), (x.1 4, .inl (x.2 4, 3, .inl (S 4)))]
def bt_X3 (x : (Nat → Nat) × (Nat → ClassId)) : List (ClassId × FieldType) := [(x.2 0, .int), (x.2 4, .int)]
def bw_X5 (o : Nat) (x : (Nat → Nat) × (Nat → ClassId)) (S : M2) : va_W := [(o, .inr (5, fs_X5 x.1 S)), (x.1 0, .inl (x.2 0, 186, .inl (S 0))), (x.1 1, .inl (x.2 1, 62, .inl (S 1))), (x.1 2, .inl (x.2 2, 2, .inl (S 2))), (x.1 5, .inl (x.2 5, 62, .inl (S 5))), (x.1 11, .inl (x.2 11, 160, .inl (S 11))), (x.1 19, .inl (x.2 19, 5, .inl (S 19))), (x.1 20, .inl (x.2 20, 4, .inl (S 20))), (x.1 21, .inl (x.2 21, 4, .inl (S 21))), (x.1 22, .inl (x.2 22, 160, .inl (S 22))), (x.1 24, .inl (x.2 24, 62, .inl (S 24)))]
def bt_X5 (x : (Nat → Nat) × (Nat → ClassId)) : List (ClassId × FieldType) := [(x.2 0, .int), (x.2 1, .int), (x.2 2, .boolean), (x.2 5, .int), (x.2 11, .int), (x.2 19, .int), (x.2 20, .int), (x.2 21, .int), (x.2 22, .int), (x.2 24, .int)]
def bw_X0 (o : Nat) (x : Nat × ((Nat → Nat) × (Nat → ClassId)) × ((Nat → Nat) × (Nat → ClassId))) (Q S : M2) : va_W := (o, .inr (0, fs_X0 x.1 x.2.2.1 Q)) :: (bw_X1 x.1 x.2.1 S ++ [(x.2.2.1 1, .inl (x.2.2.2 1, 5, .inl (Q 1)))] ++ [(x.2.2.1 2, .inl (x.2.2.2 2, 5, .inl (Q 2)))])
def bt_X0 (x : Nat × ((Nat → Nat) × (Nat → ClassId)) × ((Nat → Nat) × (Nat → ClassId))) : List (ClassId × FieldType) := bt_X1 x.2.1 ++ [(x.2.2.2 1, .int)] ++ [(x.2.2.2 2, .int)]
abbrev B4 : Type := (Nat → Nat) × (Nat → (Nat → Nat) × (Nat → ClassId))
def bw_X4 (o : Nat) (y : B4) (X : M3) : va_W := (o, .inr (4, fs_X4 y.1 (y.2 0).1 (X 0))) :: (bw_X3 (y.1 1) (y.2 1) (X 1) ++ bw_X1 (y.1 2) (y.2 2) (X 2) ++ bw_X1 (y.1 3) (y.2 3) (X 3) ++ [((y.2 0).1 3, .inl ((y.2 0).2 3, 2, .inr (.inr (.inr (.inr (fun j => some (y.1 (4 + j))))))))] ++ bw_X1 (y.1 4) (y.2 4) (X 4) ++ bw_X1 (y.1 5) (y.2 5) (X 5) ++ [((y.2 0).1 4, .inl ((y.2 0).2 4, 4, .inr (.inr (.inr (.inr (fun j => some (y.1 (6 + j))))))))] ++ bw_X2 (y.1 6) (y.2 6) (X 6) ++ bw_X2 (y.1 7) (y.2 7) (X 7) ++ bw_X2 (y.1 8) (y.2 8) (X 8) ++ bw_X2 (y.1 9) (y.2 9) (X 9) ++ bw_X0 (y.1 10) (y.1 11, y.2 11, y.2 10) (X 10) (X 11))
def bt_X4 (y : B4) : List (ClassId × FieldType) := bt_X3 (y.2 1) ++ bt_X1 (y.2 2) ++ bt_X1 (y.2 3) ++ [((y.2 0).2 3, .object "MothCustoms$Shed")] ++ bt_X1 (y.2 4) ++ bt_X1 (y.2 5) ++ [((y.2 0).2 4, .object "MothCustoms$Sheet")] ++ bt_X2 (y.2 6) ++ bt_X2 (y.2 7) ++ bt_X2 (y.2 8) ++ bt_X2 (y.2 9) ++ bt_X0 (y.1 11, y.2 11, y.2 10)
theorem JI_of {β : Type} {l : Launch} {y : MethodName} {cc : ByteArray} {n d mc ms ci : Nat} {fs0 : List Value} {W1 : Nat → β → va_W} {T1 : β → List (ClassId × FieldType)} (hy : plainName y.cls = true) (hn : 1 ≤ n)
    (body : ∀ (E : KE) (h0 : Nat), E.2.1 = l → KOk E cc y.cls n y.name (jj_Ra d mc ms) → (∀ (x : β) (pc : Nat) (L : List (Nat × Value)) (pc' : Nat), jd cc pc .return_ 1 pc' → KJ E (W1 h0 x) (T1 x) mc ms pc L []) → KJ E [(h0, .inr (ci, fs0))] [] 0 0 0 [(0, .ref h0)] []) : JI l y cc n d mc ms ci fs0 W1 T1 := by
  intro D K Z h0 sz
  refine Met.ofW (cc := cc) (maxL := n) (ret := none) hy rfl ?_
  intro p e s m args below meth c s₁ B hml hv
  obtain ⟨rfl, hsz, hP, hK, hD0, hSt, hAO1, hAO2⟩ := hv
  subst hsz
  have hts := atoms_spec (ws := .code y cc n none :: jj_tb) B.pre
  have hD := hD0.self (sz := s.heap.size)
  have hl := lv_entry [.ref h0] (n := n) (by show 1 ≤ n; exact hn)
  rw [lg_entry_eq]
  have hlocks := B.notSynchronized
  refine body (p, l, e, jj_Ra d mc ms, s, m, [Value.ref h0].toArray, below, meth, c, n, va_A [(h0, .inr (ci, fs0))] s.heap.size, _, D, K, Z) h0 rfl ⟨B.exec, B.bytes, ⟨hml, rfl⟩, findClass_of_methodNamed B.named, fun w hw => hts w (List.mem_cons_of_mem _ hw), ⟨(name_of_methodNamed B.named B.method).1, rfl⟩, fun q h => Or.inr h, hSt, hAO1, hAO2⟩ (fun x pc L pc' hd H locs ls hK hP hD hS hl => ?_) _ _ _ hK hP hD va_S.rf hl
  exact W.vret B.exec B.bytes B.returns (fun t ht hW => ⟨⟨rfl, x, by rw [ht]; exact hP, va_K.moved hW.alike hK, hD⟩, hS.F ht⟩) hS.2.2 hd.1 hlocks
/-- an array of references holds what its places hold -/
theorem K_qeq {E : KE} {ws ws' : va_W} {tys : List (ClassId × FieldType)} {cn sn pc : Nat} {L : List (Nat × Value)} {st : List Value} {a N : Nat} {cA : ClassId} {f g : Nat → Option Nat} (q0 : Nat) (ho : ws[q0]? = some (a, .inl (cA, N, .inr (.inr (.inr (.inr f)))))) (hfg : ∀ j, j < N → f j = g j) (hws : ws.set q0 (a, .inl (cA, N, .inr (.inr (.inr (.inr g))))) = ws') (k : KJ E ws' tys cn sn pc L st) : KJ E ws tys cn sn pc L st := by
  obtain ⟨p, l, e, R, s, m, args, below, meth, c, nL, A, Q, D, K, Z⟩ := E
  intro H locs ls hK hP hD hS hl
  have e1 : vp_cell cA (N, .inr (.inr (.inr (.inr f)))) = vp_cell cA (N, .inr (.inr (.inr (.inr g)))) := by
    rw [vp_cell_q, vp_cell_q]
    have e0 : (fun j : Fin N => va_rf (f j.val)) = fun j : Fin N => va_rf (g j.val) := funext fun j => by rw [hfg j.1 j.2]
    unfold arrV
    rw [e0]
  refine k H locs ls hK ?_ ?_ hS hl
  · rw [← hws]
    exact hP.set hD ho (show H[a]? = some (vp_cell _ _) by rw [← e1]; exact hP q0 _ ho) (fun _ _ => rfl)
  · rw [← hws]
    exact hD.set ho
theorem jw_aI : (Cond.arrayClass .int : Cond) ∈ jj_tb := jj_m (List.mem_of_getElem? (i := 129) (by decide +kernel)) rfl
theorem jw_aZ : (Cond.arrayClass .boolean : Cond) ∈ jj_tb := jj_m (List.mem_of_getElem? (i := 881) (by decide +kernel)) rfl
theorem nd_X0 : ∀ j, j < 6 → defaultValue (tyX0 j) = vp_V [.null, .null, .null, .int 0, .int 0, .int 0] j := by
  intro j hj
  have h : j = 0 ∨ j = 1 ∨ j = 2 ∨ j = 3 ∨ j = 4 ∨ j = 5 := by omega
  rcases h with rfl | rfl | rfl | rfl | rfl | rfl <;> rfl
theorem m_X0_init : jmI yX0_init cX0_init 1 := ⟨⟨(jj_m (w := Cond.code yX0_init cX0_init 1 none) (List.mem_of_getElem? (i := 243) (by decide +kernel)) rfl), (jj_m (w := Cond.initialized yX0_init.cls) (List.mem_of_getElem? (i := 68) (by decide +kernel)) rfl), ⟨by decide, by decide⟩, by decide +kernel⟩, (jj_m (w := Cond.instanceMethod yX0_init) (List.mem_of_getElem? (i := 242) (by decide +kernel)) rfl), rfl⟩
theorem nd_X1 : ∀ j, j < 18 → defaultValue (tyX1 j) = vp_V [.int 0, .null, .null, .null, .int 0, .null, .null, .int 0, .null, .null, .null, .null, .int 0, .int 0, .int 0, .int 0, .null, .null] j := by
  intro j hj
  have h : j = 0 ∨ j = 1 ∨ j = 2 ∨ j = 3 ∨ j = 4 ∨ j = 5 ∨ j = 6 ∨ j = 7 ∨ j = 8 ∨ j = 9 ∨ j = 10 ∨ j = 11 ∨ j = 12 ∨ j = 13 ∨ j = 14 ∨ j = 15 ∨ j = 16 ∨ j = 17 := by omega
  rcases h with rfl | rfl | rfl | rfl | rfl | rfl | rfl | rfl | rfl | rfl | rfl | rfl | rfl | rfl | rfl | rfl | rfl | rfl <;> rfl
theorem m_X1_init : jmI yX1_init cX1_init 1 := ⟨⟨(jj_m (w := Cond.code yX1_init cX1_init 1 none) (List.mem_of_getElem? (i := 134) (by decide +kernel)) rfl), (jj_m (w := Cond.initialized yX1_init.cls) (List.mem_of_getElem? (i := 66) (by decide +kernel)) rfl), ⟨by decide, by decide⟩, by decide +kernel⟩, (jj_m (w := Cond.instanceMethod yX1_init) (List.mem_of_getElem? (i := 133) (by decide +kernel)) rfl), rfl⟩
theorem nd_X2 : ∀ j, j < 4 → defaultValue (tyX2 j) = vp_V [.int 0, .int 0, .int 0, .null] j := by
  intro j hj
  have h : j = 0 ∨ j = 1 ∨ j = 2 ∨ j = 3 := by omega
  rcases h with rfl | rfl | rfl | rfl <;> rfl
theorem m_X2_init : jmI yX2_init cX2_init 1 := ⟨⟨(jj_m (w := Cond.code yX2_init cX2_init 1 none) (List.mem_of_getElem? (i := 221) (by decide +kernel)) rfl), (jj_m (w := Cond.initialized yX2_init.cls) (List.mem_of_getElem? (i := 67) (by decide +kernel)) rfl), ⟨by decide, by decide⟩, by decide +kernel⟩, (jj_m (w := Cond.instanceMethod yX2_init) (List.mem_of_getElem? (i := 220) (by decide +kernel)) rfl), rfl⟩
theorem nd_X3 : ∀ j, j < 11 → defaultValue (tyX3 j) = vp_V [.null, .int 0, .int 0, .int 0, .null, .int 0, .int 0, .int 0, .int 0, .int 0, .int 0] j := by
  intro j hj
  have h : j = 0 ∨ j = 1 ∨ j = 2 ∨ j = 3 ∨ j = 4 ∨ j = 5 ∨ j = 6 ∨ j = 7 ∨ j = 8 ∨ j = 9 ∨ j = 10 := by omega
  rcases h with rfl | rfl | rfl | rfl | rfl | rfl | rfl | rfl | rfl | rfl | rfl <;> rfl
theorem m_X3_init : jmI yX3_init cX3_init 1 := ⟨⟨(jj_m (w := Cond.code yX3_init cX3_init 1 none) (List.mem_of_getElem? (i := 89) (by decide +kernel)) rfl), (jj_m (w := Cond.initialized yX3_init.cls) (List.mem_of_getElem? (i := 65) (by decide +kernel)) rfl), ⟨by decide, by decide⟩, by decide +kernel⟩, (jj_m (w := Cond.instanceMethod yX3_init) (List.mem_of_getElem? (i := 88) (by decide +kernel)) rfl), rfl⟩
theorem nd_X4 : ∀ j, j < 8 → defaultValue (tyX4 j) = vp_V [.null, .null, .null, .null, .null, .null, .int 0, .int 0] j := by
  intro j hj
  have h : j = 0 ∨ j = 1 ∨ j = 2 ∨ j = 3 ∨ j = 4 ∨ j = 5 ∨ j = 6 ∨ j = 7 := by omega
  rcases h with rfl | rfl | rfl | rfl | rfl | rfl | rfl | rfl <;> rfl
theorem m_X4_init : jmI yX4_init cX4_init 2 := ⟨⟨(jj_m (w := Cond.code yX4_init cX4_init 2 none) (List.mem_of_getElem? (i := 81) (by decide +kernel)) rfl), (jj_m (w := Cond.initialized yX4_init.cls) (List.mem_of_getElem? (i := 64) (by decide +kernel)) rfl), ⟨by decide, by decide⟩, by decide +kernel⟩, (jj_m (w := Cond.instanceMethod yX4_init) (List.mem_of_getElem? (i := 80) (by decide +kernel)) rfl), rfl⟩
theorem nd_X5 : ∀ j, j < 25 → defaultValue (tyX5 j) = vp_V [.null, .null, .null, .int 0, .int 0, .null, .int 0, .int 0, .int 0, .int 0, .int 0, .null, .int 0, .int 0, .int 0, .int 0, .int 0, .int 0, .int 0, .null, .null, .null, .null, .int 0, .null] j := by
  intro j hj
  have h : j = 0 ∨ j = 1 ∨ j = 2 ∨ j = 3 ∨ j = 4 ∨ j = 5 ∨ j = 6 ∨ j = 7 ∨ j = 8 ∨ j = 9 ∨ j = 10 ∨ j = 11 ∨ j = 12 ∨ j = 13 ∨ j = 14 ∨ j = 15 ∨ j = 16 ∨ j = 17 ∨ j = 18 ∨ j = 19 ∨ j = 20 ∨ j = 21 ∨ j = 22 ∨ j = 23 ∨ j = 24 := by omega
  rcases h with rfl | rfl | rfl | rfl | rfl | rfl | rfl | rfl | rfl | rfl | rfl | rfl | rfl | rfl | rfl | rfl | rfl | rfl | rfl | rfl | rfl | rfl | rfl | rfl | rfl <;> rfl
theorem m_X5_init : jmI yX5_init cX5_init 2 := ⟨⟨(jj_m (w := Cond.code yX5_init cX5_init 2 none) (List.mem_of_getElem? (i := 795) (by decide +kernel)) rfl), (jj_m (w := Cond.initialized yX5_init.cls) (List.mem_of_getElem? (i := 69) (by decide +kernel)) rfl), ⟨by decide, by decide⟩, by decide +kernel⟩, (jj_m (w := Cond.instanceMethod yX5_init) (List.mem_of_getElem? (i := 794) (by decide +kernel)) rfl), rfl⟩
theorem dd_X1_init_0 : jd cX1_init 0 (.aload_n 0) 1 1 := ⟨by decide +kernel, rfl⟩
theorem dd_X1_init_1 : jd cX1_init 1 (.invokespecial 3) 3 4 := ⟨by decide +kernel, rfl⟩
theorem mo_RX1_3 : (Cond.methodLink "MothCustoms$Shed" 3 Lib.objectInit : Cond) ∈ jj_tb := jj_m (List.mem_of_getElem? (i := 135) (by decide +kernel)) rfl
theorem dd_X1_init_4 : jd cX1_init 4 (.aload_n 0) 1 5 := ⟨by decide +kernel, rfl⟩
theorem dd_X1_init_5 : jd cX1_init 5 (.iconst 5) 1 6 := ⟨by decide +kernel, rfl⟩
theorem dd_X1_init_6 : jd cX1_init 6 (.newarray .int) 2 8 := ⟨by decide +kernel, rfl⟩
theorem dd_X1_init_8 : jd cX1_init 8 (.putfield 9) 3 11 := ⟨by decide +kernel, rfl⟩
theorem dd_X1_init_11 : jd cX1_init 11 (.aload_n 0) 1 12 := ⟨by decide +kernel, rfl⟩
theorem dd_X1_init_12 : jd cX1_init 12 (.iconst 5) 1 13 := ⟨by decide +kernel, rfl⟩
theorem dd_X1_init_13 : jd cX1_init 13 (.newarray .int) 2 15 := ⟨by decide +kernel, rfl⟩
theorem dd_X1_init_15 : jd cX1_init 15 (.putfield 15) 3 18 := ⟨by decide +kernel, rfl⟩
theorem dd_X1_init_18 : jd cX1_init 18 (.aload_n 0) 1 19 := ⟨by decide +kernel, rfl⟩
theorem dd_X1_init_19 : jd cX1_init 19 (.iconst 5) 1 20 := ⟨by decide +kernel, rfl⟩
theorem dd_X1_init_20 : jd cX1_init 20 (.newarray .int) 2 22 := ⟨by decide +kernel, rfl⟩
theorem dd_X1_init_22 : jd cX1_init 22 (.putfield 18) 3 25 := ⟨by decide +kernel, rfl⟩
theorem dd_X1_init_25 : jd cX1_init 25 (.aload_n 0) 1 26 := ⟨by decide +kernel, rfl⟩
theorem dd_X1_init_26 : jd cX1_init 26 (.bipush 15) 2 28 := ⟨by decide +kernel, rfl⟩
theorem dd_X1_init_28 : jd cX1_init 28 (.newarray .int) 2 30 := ⟨by decide +kernel, rfl⟩
theorem dd_X1_init_30 : jd cX1_init 30 (.putfield 21) 3 33 := ⟨by decide +kernel, rfl⟩
theorem dd_X1_init_33 : jd cX1_init 33 (.aload_n 0) 1 34 := ⟨by decide +kernel, rfl⟩
theorem dd_X1_init_34 : jd cX1_init 34 (.iconst 3) 1 35 := ⟨by decide +kernel, rfl⟩
theorem dd_X1_init_35 : jd cX1_init 35 (.newarray .int) 2 37 := ⟨by decide +kernel, rfl⟩
theorem dd_X1_init_37 : jd cX1_init 37 (.putfield 24) 3 40 := ⟨by decide +kernel, rfl⟩
theorem dd_X1_init_40 : jd cX1_init 40 (.aload_n 0) 1 41 := ⟨by decide +kernel, rfl⟩
theorem dd_X1_init_41 : jd cX1_init 41 (.iconst 4) 1 42 := ⟨by decide +kernel, rfl⟩
theorem dd_X1_init_42 : jd cX1_init 42 (.newarray .int) 2 44 := ⟨by decide +kernel, rfl⟩
theorem dd_X1_init_44 : jd cX1_init 44 (.putfield 27) 3 47 := ⟨by decide +kernel, rfl⟩
theorem dd_X1_init_47 : jd cX1_init 47 (.aload_n 0) 1 48 := ⟨by decide +kernel, rfl⟩
theorem dd_X1_init_48 : jd cX1_init 48 (.iconst 4) 1 49 := ⟨by decide +kernel, rfl⟩
theorem dd_X1_init_49 : jd cX1_init 49 (.newarray .int) 2 51 := ⟨by decide +kernel, rfl⟩
theorem dd_X1_init_51 : jd cX1_init 51 (.putfield 30) 3 54 := ⟨by decide +kernel, rfl⟩
theorem dd_X1_init_54 : jd cX1_init 54 (.aload_n 0) 1 55 := ⟨by decide +kernel, rfl⟩
theorem dd_X1_init_55 : jd cX1_init 55 (.iconst 4) 1 56 := ⟨by decide +kernel, rfl⟩
theorem dd_X1_init_56 : jd cX1_init 56 (.newarray .int) 2 58 := ⟨by decide +kernel, rfl⟩
theorem dd_X1_init_58 : jd cX1_init 58 (.putfield 33) 3 61 := ⟨by decide +kernel, rfl⟩
theorem dd_X1_init_61 : jd cX1_init 61 (.aload_n 0) 1 62 := ⟨by decide +kernel, rfl⟩
theorem dd_X1_init_62 : jd cX1_init 62 (.iconst 4) 1 63 := ⟨by decide +kernel, rfl⟩
theorem dd_X1_init_63 : jd cX1_init 63 (.newarray .int) 2 65 := ⟨by decide +kernel, rfl⟩
theorem dd_X1_init_65 : jd cX1_init 65 (.putfield 36) 3 68 := ⟨by decide +kernel, rfl⟩
theorem dd_X1_init_68 : jd cX1_init 68 (.aload_n 0) 1 69 := ⟨by decide +kernel, rfl⟩
theorem dd_X1_init_69 : jd cX1_init 69 (.iconst 1) 1 70 := ⟨by decide +kernel, rfl⟩
theorem dd_X1_init_70 : jd cX1_init 70 (.putfield 39) 3 73 := ⟨by decide +kernel, rfl⟩
theorem dd_X1_init_73 : jd cX1_init 73 (.aload_n 0) 1 74 := ⟨by decide +kernel, rfl⟩
theorem dd_X1_init_74 : jd cX1_init 74 (.bipush 6) 2 76 := ⟨by decide +kernel, rfl⟩
theorem dd_X1_init_76 : jd cX1_init 76 (.newarray .int) 2 78 := ⟨by decide +kernel, rfl⟩
theorem dd_X1_init_78 : jd cX1_init 78 (.putfield 43) 3 81 := ⟨by decide +kernel, rfl⟩
theorem dd_X1_init_81 : jd cX1_init 81 (.aload_n 0) 1 82 := ⟨by decide +kernel, rfl⟩
theorem dd_X1_init_82 : jd cX1_init 82 (.bipush 6) 2 84 := ⟨by decide +kernel, rfl⟩
theorem dd_X1_init_84 : jd cX1_init 84 (.newarray .int) 2 86 := ⟨by decide +kernel, rfl⟩
theorem dd_X1_init_86 : jd cX1_init 86 (.putfield 46) 3 89 := ⟨by decide +kernel, rfl⟩
theorem dd_X1_init_89 : jd cX1_init 89 (.return_) 1 90 := ⟨by decide +kernel, rfl⟩
theorem dd_X2_init_0 : jd cX2_init 0 (.aload_n 0) 1 1 := ⟨by decide +kernel, rfl⟩
theorem dd_X2_init_1 : jd cX2_init 1 (.invokespecial 3) 3 4 := ⟨by decide +kernel, rfl⟩
theorem mo_RX2_3 : (Cond.methodLink "MothCustoms$Sheet" 3 Lib.objectInit : Cond) ∈ jj_tb := jj_m (List.mem_of_getElem? (i := 222) (by decide +kernel)) rfl
theorem dd_X2_init_4 : jd cX2_init 4 (.aload_n 0) 1 5 := ⟨by decide +kernel, rfl⟩
theorem dd_X2_init_5 : jd cX2_init 5 (.bipush 40) 2 7 := ⟨by decide +kernel, rfl⟩
theorem dd_X2_init_7 : jd cX2_init 7 (.newarray .int) 2 9 := ⟨by decide +kernel, rfl⟩
theorem dd_X2_init_9 : jd cX2_init 9 (.putfield 9) 3 12 := ⟨by decide +kernel, rfl⟩
theorem dd_X2_init_12 : jd cX2_init 12 (.return_) 1 13 := ⟨by decide +kernel, rfl⟩
theorem dd_X3_init_0 : jd cX3_init 0 (.aload_n 0) 1 1 := ⟨by decide +kernel, rfl⟩
theorem dd_X3_init_1 : jd cX3_init 1 (.invokespecial 3) 3 4 := ⟨by decide +kernel, rfl⟩
theorem mo_RX3_3 : (Cond.methodLink "MothCustoms$Tape" 3 Lib.objectInit : Cond) ∈ jj_tb := jj_m (List.mem_of_getElem? (i := 90) (by decide +kernel)) rfl
theorem dd_X3_init_4 : jd cX3_init 4 (.aload_n 0) 1 5 := ⟨by decide +kernel, rfl⟩
theorem dd_X3_init_5 : jd cX3_init 5 (.sipush 160) 3 8 := ⟨by decide +kernel, rfl⟩
theorem dd_X3_init_8 : jd cX3_init 8 (.newarray .int) 2 10 := ⟨by decide +kernel, rfl⟩
theorem dd_X3_init_10 : jd cX3_init 10 (.putfield 9) 3 13 := ⟨by decide +kernel, rfl⟩
theorem dd_X3_init_13 : jd cX3_init 13 (.aload_n 0) 1 14 := ⟨by decide +kernel, rfl⟩
theorem dd_X3_init_14 : jd cX3_init 14 (.iconst 3) 1 15 := ⟨by decide +kernel, rfl⟩
theorem dd_X3_init_15 : jd cX3_init 15 (.newarray .int) 2 17 := ⟨by decide +kernel, rfl⟩
theorem dd_X3_init_17 : jd cX3_init 17 (.putfield 15) 3 20 := ⟨by decide +kernel, rfl⟩
theorem dd_X3_init_20 : jd cX3_init 20 (.return_) 1 21 := ⟨by decide +kernel, rfl⟩
theorem dd_X0_init_0 : jd cX0_init 0 (.aload_n 0) 1 1 := ⟨by decide +kernel, rfl⟩
theorem dd_X0_init_1 : jd cX0_init 1 (.invokespecial 3) 3 4 := ⟨by decide +kernel, rfl⟩
theorem mo_RX0_3 : (Cond.methodLink "MothCustoms$Search" 3 Lib.objectInit : Cond) ∈ jj_tb := jj_m (List.mem_of_getElem? (i := 244) (by decide +kernel)) rfl
theorem dd_X0_init_4 : jd cX0_init 4 (.aload_n 0) 1 5 := ⟨by decide +kernel, rfl⟩
theorem dd_X0_init_5 : jd cX0_init 5 (.new 9) 3 8 := ⟨by decide +kernel, rfl⟩
theorem cl0_RX0_9 : (Cond.classLink "MothCustoms$Search" 9 "MothCustoms$Shed" : Cond) ∈ jj_tb := jj_m (List.mem_of_getElem? (i := 245) (by decide +kernel)) rfl
theorem cin_X1 : (Cond.instantiable "MothCustoms$Shed" 18 : Cond) ∈ jj_tb := jj_m (List.mem_of_getElem? (i := 131) (by decide +kernel)) rfl
theorem cit_X1 : (Cond.initialized "MothCustoms$Shed" : Cond) ∈ jj_tb := jj_m (List.mem_of_getElem? (i := 66) (by decide +kernel)) rfl
theorem dd_X0_init_8 : jd cX0_init 8 (.dup) 1 9 := ⟨by decide +kernel, rfl⟩
theorem dd_X0_init_9 : jd cX0_init 9 (.invokespecial 11) 3 12 := ⟨by decide +kernel, rfl⟩
theorem dd_X0_init_12 : jd cX0_init 12 (.putfield 12) 3 15 := ⟨by decide +kernel, rfl⟩
theorem dd_X0_init_15 : jd cX0_init 15 (.aload_n 0) 1 16 := ⟨by decide +kernel, rfl⟩
theorem dd_X0_init_16 : jd cX0_init 16 (.iconst 5) 1 17 := ⟨by decide +kernel, rfl⟩
theorem dd_X0_init_17 : jd cX0_init 17 (.newarray .int) 2 19 := ⟨by decide +kernel, rfl⟩
theorem dd_X0_init_19 : jd cX0_init 19 (.putfield 18) 3 22 := ⟨by decide +kernel, rfl⟩
theorem dd_X0_init_22 : jd cX0_init 22 (.aload_n 0) 1 23 := ⟨by decide +kernel, rfl⟩
theorem dd_X0_init_23 : jd cX0_init 23 (.iconst 5) 1 24 := ⟨by decide +kernel, rfl⟩
theorem dd_X0_init_24 : jd cX0_init 24 (.newarray .int) 2 26 := ⟨by decide +kernel, rfl⟩
theorem dd_X0_init_26 : jd cX0_init 26 (.putfield 22) 3 29 := ⟨by decide +kernel, rfl⟩
theorem dd_X0_init_29 : jd cX0_init 29 (.return_) 1 30 := ⟨by decide +kernel, rfl⟩
theorem dd_X4_init_0 : jd cX4_init 0 (.aload_n 0) 1 1 := ⟨by decide +kernel, rfl⟩
theorem dd_X4_init_1 : jd cX4_init 1 (.invokespecial 3) 3 4 := ⟨by decide +kernel, rfl⟩
theorem mo_RX4_3 : (Cond.methodLink "MothCustoms" 3 Lib.objectInit : Cond) ∈ jj_tb := jj_m (List.mem_of_getElem? (i := 82) (by decide +kernel)) rfl
theorem dd_X4_init_4 : jd cX4_init 4 (.aload_n 0) 1 5 := ⟨by decide +kernel, rfl⟩
theorem dd_X4_init_5 : jd cX4_init 5 (.new 9) 3 8 := ⟨by decide +kernel, rfl⟩
theorem cl0_RX4_9 : (Cond.classLink "MothCustoms" 9 "MothCustoms$Tape" : Cond) ∈ jj_tb := jj_m (List.mem_of_getElem? (i := 85) (by decide +kernel)) rfl
theorem cin_X3 : (Cond.instantiable "MothCustoms$Tape" 11 : Cond) ∈ jj_tb := jj_m (List.mem_of_getElem? (i := 86) (by decide +kernel)) rfl
theorem cit_X3 : (Cond.initialized "MothCustoms$Tape" : Cond) ∈ jj_tb := jj_m (List.mem_of_getElem? (i := 65) (by decide +kernel)) rfl
theorem dd_X4_init_8 : jd cX4_init 8 (.dup) 1 9 := ⟨by decide +kernel, rfl⟩
theorem dd_X4_init_9 : jd cX4_init 9 (.invokespecial 11) 3 12 := ⟨by decide +kernel, rfl⟩
theorem dd_X4_init_12 : jd cX4_init 12 (.putfield 12) 3 15 := ⟨by decide +kernel, rfl⟩
theorem dd_X4_init_15 : jd cX4_init 15 (.aload_n 0) 1 16 := ⟨by decide +kernel, rfl⟩
theorem dd_X4_init_16 : jd cX4_init 16 (.new 16) 3 19 := ⟨by decide +kernel, rfl⟩
theorem cl0_RX4_16 : (Cond.classLink "MothCustoms" 16 "MothCustoms$Shed" : Cond) ∈ jj_tb := jj_m (List.mem_of_getElem? (i := 130) (by decide +kernel)) rfl
theorem dd_X4_init_19 : jd cX4_init 19 (.dup) 1 20 := ⟨by decide +kernel, rfl⟩
theorem dd_X4_init_20 : jd cX4_init 20 (.invokespecial 18) 3 23 := ⟨by decide +kernel, rfl⟩
theorem dd_X4_init_23 : jd cX4_init 23 (.putfield 19) 3 26 := ⟨by decide +kernel, rfl⟩
theorem dd_X4_init_26 : jd cX4_init 26 (.aload_n 0) 1 27 := ⟨by decide +kernel, rfl⟩
theorem dd_X4_init_27 : jd cX4_init 27 (.new 16) 3 30 := ⟨by decide +kernel, rfl⟩
theorem dd_X4_init_30 : jd cX4_init 30 (.dup) 1 31 := ⟨by decide +kernel, rfl⟩
theorem dd_X4_init_31 : jd cX4_init 31 (.invokespecial 18) 3 34 := ⟨by decide +kernel, rfl⟩
theorem dd_X4_init_34 : jd cX4_init 34 (.putfield 23) 3 37 := ⟨by decide +kernel, rfl⟩
theorem dd_X4_init_37 : jd cX4_init 37 (.aload_n 0) 1 38 := ⟨by decide +kernel, rfl⟩
theorem dd_X4_init_38 : jd cX4_init 38 (.iconst 2) 1 39 := ⟨by decide +kernel, rfl⟩
theorem dd_X4_init_39 : jd cX4_init 39 (.anewarray 16) 3 42 := ⟨by decide +kernel, rfl⟩
theorem dd_X4_init_42 : jd cX4_init 42 (.putfield 26) 3 45 := ⟨by decide +kernel, rfl⟩
theorem dd_X4_init_45 : jd cX4_init 45 (.iconst 0) 1 46 := ⟨by decide +kernel, rfl⟩
theorem dd_X4_init_46 : jd cX4_init 46 (.istore_n 1) 1 47 := ⟨by decide +kernel, rfl⟩
theorem dd_X4_init_47 : jd cX4_init 47 (.iload_n 1) 1 48 := ⟨by decide +kernel, rfl⟩
theorem dd_X4_init_48 : jd cX4_init 48 (.iconst 2) 1 49 := ⟨by decide +kernel, rfl⟩
theorem dd_X4_init_49 : jd cX4_init 49 (.if_icmp .ge 22) 3 52 := ⟨by decide +kernel, rfl⟩
theorem dd_X4_init_52 : jd cX4_init 52 (.aload_n 0) 1 53 := ⟨by decide +kernel, rfl⟩
theorem dd_X4_init_53 : jd cX4_init 53 (.getfield 26) 3 56 := ⟨by decide +kernel, rfl⟩
theorem dd_X4_init_56 : jd cX4_init 56 (.iload_n 1) 1 57 := ⟨by decide +kernel, rfl⟩
theorem dd_X4_init_57 : jd cX4_init 57 (.new 16) 3 60 := ⟨by decide +kernel, rfl⟩
theorem dd_X4_init_60 : jd cX4_init 60 (.dup) 1 61 := ⟨by decide +kernel, rfl⟩
theorem dd_X4_init_61 : jd cX4_init 61 (.invokespecial 18) 3 64 := ⟨by decide +kernel, rfl⟩
theorem dd_X4_init_64 : jd cX4_init 64 (.aastore) 1 65 := ⟨by decide +kernel, rfl⟩
theorem dd_X4_init_65 : jd cX4_init 65 (.iinc 1 1) 3 68 := ⟨by decide +kernel, rfl⟩
theorem dd_X4_init_68 : jd cX4_init 68 (.goto (-21)) 3 71 := ⟨by decide +kernel, rfl⟩
theorem dd_X4_init_71 : jd cX4_init 71 (.aload_n 0) 1 72 := ⟨by decide +kernel, rfl⟩
theorem dd_X4_init_72 : jd cX4_init 72 (.iconst 4) 1 73 := ⟨by decide +kernel, rfl⟩
theorem dd_X4_init_73 : jd cX4_init 73 (.anewarray 30) 3 76 := ⟨by decide +kernel, rfl⟩
theorem cl0_RX4_30 : (Cond.classLink "MothCustoms" 30 "MothCustoms$Sheet" : Cond) ∈ jj_tb := jj_m (List.mem_of_getElem? (i := 216) (by decide +kernel)) rfl
theorem dd_X4_init_76 : jd cX4_init 76 (.putfield 32) 3 79 := ⟨by decide +kernel, rfl⟩
theorem dd_X4_init_79 : jd cX4_init 79 (.iconst 0) 1 80 := ⟨by decide +kernel, rfl⟩
theorem dd_X4_init_80 : jd cX4_init 80 (.istore_n 1) 1 81 := ⟨by decide +kernel, rfl⟩
theorem dd_X4_init_81 : jd cX4_init 81 (.iload_n 1) 1 82 := ⟨by decide +kernel, rfl⟩
theorem dd_X4_init_82 : jd cX4_init 82 (.iconst 4) 1 83 := ⟨by decide +kernel, rfl⟩
theorem dd_X4_init_83 : jd cX4_init 83 (.if_icmp .ge 22) 3 86 := ⟨by decide +kernel, rfl⟩
theorem dd_X4_init_86 : jd cX4_init 86 (.aload_n 0) 1 87 := ⟨by decide +kernel, rfl⟩
theorem dd_X4_init_87 : jd cX4_init 87 (.getfield 32) 3 90 := ⟨by decide +kernel, rfl⟩
theorem dd_X4_init_90 : jd cX4_init 90 (.iload_n 1) 1 91 := ⟨by decide +kernel, rfl⟩
theorem dd_X4_init_91 : jd cX4_init 91 (.new 30) 3 94 := ⟨by decide +kernel, rfl⟩
theorem cin_X2 : (Cond.instantiable "MothCustoms$Sheet" 4 : Cond) ∈ jj_tb := jj_m (List.mem_of_getElem? (i := 218) (by decide +kernel)) rfl
theorem cit_X2 : (Cond.initialized "MothCustoms$Sheet" : Cond) ∈ jj_tb := jj_m (List.mem_of_getElem? (i := 67) (by decide +kernel)) rfl
theorem dd_X4_init_94 : jd cX4_init 94 (.dup) 1 95 := ⟨by decide +kernel, rfl⟩
theorem dd_X4_init_95 : jd cX4_init 95 (.invokespecial 36) 3 98 := ⟨by decide +kernel, rfl⟩
theorem dd_X4_init_98 : jd cX4_init 98 (.aastore) 1 99 := ⟨by decide +kernel, rfl⟩
theorem dd_X4_init_99 : jd cX4_init 99 (.iinc 1 1) 3 102 := ⟨by decide +kernel, rfl⟩
theorem dd_X4_init_102 : jd cX4_init 102 (.goto (-21)) 3 105 := ⟨by decide +kernel, rfl⟩
theorem dd_X4_init_105 : jd cX4_init 105 (.aload_n 0) 1 106 := ⟨by decide +kernel, rfl⟩
theorem dd_X4_init_106 : jd cX4_init 106 (.new 37) 3 109 := ⟨by decide +kernel, rfl⟩
theorem cl0_RX4_37 : (Cond.classLink "MothCustoms" 37 "MothCustoms$Search" : Cond) ∈ jj_tb := jj_m (List.mem_of_getElem? (i := 239) (by decide +kernel)) rfl
theorem cin_X0 : (Cond.instantiable "MothCustoms$Search" 6 : Cond) ∈ jj_tb := jj_m (List.mem_of_getElem? (i := 240) (by decide +kernel)) rfl
theorem cit_X0 : (Cond.initialized "MothCustoms$Search" : Cond) ∈ jj_tb := jj_m (List.mem_of_getElem? (i := 68) (by decide +kernel)) rfl
theorem dd_X4_init_109 : jd cX4_init 109 (.dup) 1 110 := ⟨by decide +kernel, rfl⟩
theorem dd_X4_init_110 : jd cX4_init 110 (.invokespecial 39) 3 113 := ⟨by decide +kernel, rfl⟩
theorem dd_X4_init_113 : jd cX4_init 113 (.putfield 40) 3 116 := ⟨by decide +kernel, rfl⟩
theorem dd_X4_init_116 : jd cX4_init 116 (.return_) 1 117 := ⟨by decide +kernel, rfl⟩
set_option maxHeartbeats 8000000 in
set_option maxRecDepth 100000 in
theorem tX1_init (l : Launch) : JI l yX1_init cX1_init 1 1 11 61 1 [.int 0, .null, .null, .null, .int 0, .null, .null, .int 0, .null, .null, .null, .null, .int 0, .int 0, .int 0, .int 0, .null, .null] (fun o x => bw_X1 o x s0_X1) bt_X1 := by
  refine JI_of (by decide) (Nat.le_of_ble_eq_true rfl) (fun E h0 hEl hE hret => ?_)
  refine K_aload_n hE dd_X1_init_0 0 rfl rfl ?_
  refine K_obj hE dd_X1_init_1 mo_RX1_3 (Nat.le_of_ble_eq_true rfl) (Nat.le_of_ble_eq_true rfl) ?_
  refine K_aload_n hE dd_X1_init_4 0 rfl rfl ?_
  refine K_iconst hE (v := (5 : Int32)) dd_X1_init_5 (by decide) ?_
  refine K_newa hE (at0 := .int) (ty := .int) (N := 5) dd_X1_init_6 rfl jw_aI (fun cA => vp_cell_i _ _ _) (by decide) (by decide) (by decide) (Nat.le_of_ble_eq_true rfl) (Nat.le_of_ble_eq_true rfl) (fun q1 c1 => ?_)
  refine K_ws (ws' := (h0, .inr (1, [.int 0, .null, .null, .null, .int 0, .null, .null, .int 0, .null, .null, .null, .null, .int 0, .int 0, .int 0, .int 0, .null, .null])) :: ([(q1, .inl (c1, 5, .inl (fun _ => 0)))])) (tys' := [(c1, .int)]) rfl rfl ?_
  refine K_num (cn' := 1) (sn' := 5) rfl rfl ?_
  refine K_putF hE rfl 0 rfl rfl jc_X1 1 (by decide) fl_RX1_9 rfl rfl rfl rfl (Nat.le_of_ble_eq_true rfl) dd_X1_init_8 (ws' := (h0, .inr (1, [.int 0, .ref q1, .null, .null, .int 0, .null, .null, .int 0, .null, .null, .null, .null, .int 0, .int 0, .int 0, .int 0, .null, .null])) :: ([(q1, .inl (c1, 5, .inl (fun _ => 0)))])) rfl ?_
  refine K_aload_n hE dd_X1_init_11 0 rfl rfl ?_
  refine K_iconst hE (v := (5 : Int32)) dd_X1_init_12 (by decide) ?_
  refine K_newa hE (at0 := .int) (ty := .int) (N := 5) dd_X1_init_13 rfl jw_aI (fun cA => vp_cell_i _ _ _) (by decide) (by decide) (by decide) (Nat.le_of_ble_eq_true rfl) (Nat.le_of_ble_eq_true rfl) (fun q2 c2 => ?_)
  refine K_ws (ws' := (h0, .inr (1, [.int 0, .ref q1, .null, .null, .int 0, .null, .null, .int 0, .null, .null, .null, .null, .int 0, .int 0, .int 0, .int 0, .null, .null])) :: ([(q1, .inl (c1, 5, .inl (fun _ => 0)))] ++ [(q2, .inl (c2, 5, .inl (fun _ => 0)))])) (tys' := [(c1, .int)] ++ [(c2, .int)]) rfl rfl ?_
  refine K_num (cn' := 2) (sn' := 10) rfl rfl ?_
  refine K_putF hE rfl 0 rfl rfl jc_X1 2 (by decide) fl_RX1_15 rfl rfl rfl rfl (Nat.le_of_ble_eq_true rfl) dd_X1_init_15 (ws' := (h0, .inr (1, [.int 0, .ref q1, .ref q2, .null, .int 0, .null, .null, .int 0, .null, .null, .null, .null, .int 0, .int 0, .int 0, .int 0, .null, .null])) :: ([(q1, .inl (c1, 5, .inl (fun _ => 0)))] ++ [(q2, .inl (c2, 5, .inl (fun _ => 0)))])) rfl ?_
  refine K_aload_n hE dd_X1_init_18 0 rfl rfl ?_
  refine K_iconst hE (v := (5 : Int32)) dd_X1_init_19 (by decide) ?_
  refine K_newa hE (at0 := .int) (ty := .int) (N := 5) dd_X1_init_20 rfl jw_aI (fun cA => vp_cell_i _ _ _) (by decide) (by decide) (by decide) (Nat.le_of_ble_eq_true rfl) (Nat.le_of_ble_eq_true rfl) (fun q3 c3 => ?_)
  refine K_ws (ws' := (h0, .inr (1, [.int 0, .ref q1, .ref q2, .null, .int 0, .null, .null, .int 0, .null, .null, .null, .null, .int 0, .int 0, .int 0, .int 0, .null, .null])) :: ([(q1, .inl (c1, 5, .inl (fun _ => 0)))] ++ [(q2, .inl (c2, 5, .inl (fun _ => 0)))] ++ [(q3, .inl (c3, 5, .inl (fun _ => 0)))])) (tys' := [(c1, .int)] ++ [(c2, .int)] ++ [(c3, .int)]) rfl rfl ?_
  refine K_num (cn' := 3) (sn' := 15) rfl rfl ?_
  refine K_putF hE rfl 0 rfl rfl jc_X1 3 (by decide) fl_RX1_18 rfl rfl rfl rfl (Nat.le_of_ble_eq_true rfl) dd_X1_init_22 (ws' := (h0, .inr (1, [.int 0, .ref q1, .ref q2, .ref q3, .int 0, .null, .null, .int 0, .null, .null, .null, .null, .int 0, .int 0, .int 0, .int 0, .null, .null])) :: ([(q1, .inl (c1, 5, .inl (fun _ => 0)))] ++ [(q2, .inl (c2, 5, .inl (fun _ => 0)))] ++ [(q3, .inl (c3, 5, .inl (fun _ => 0)))])) rfl ?_
  refine K_aload_n hE dd_X1_init_25 0 rfl rfl ?_
  refine K_bipush hE (v := (15 : Int32)) dd_X1_init_26 (by decide) ?_
  refine K_newa hE (at0 := .int) (ty := .int) (N := 15) dd_X1_init_28 rfl jw_aI (fun cA => vp_cell_i _ _ _) (by decide) (by decide) (by decide) (Nat.le_of_ble_eq_true rfl) (Nat.le_of_ble_eq_true rfl) (fun q4 c4 => ?_)
  refine K_ws (ws' := (h0, .inr (1, [.int 0, .ref q1, .ref q2, .ref q3, .int 0, .null, .null, .int 0, .null, .null, .null, .null, .int 0, .int 0, .int 0, .int 0, .null, .null])) :: ([(q1, .inl (c1, 5, .inl (fun _ => 0)))] ++ [(q2, .inl (c2, 5, .inl (fun _ => 0)))] ++ [(q3, .inl (c3, 5, .inl (fun _ => 0)))] ++ [(q4, .inl (c4, 15, .inl (fun _ => 0)))])) (tys' := [(c1, .int)] ++ [(c2, .int)] ++ [(c3, .int)] ++ [(c4, .int)]) rfl rfl ?_
  refine K_num (cn' := 4) (sn' := 30) rfl rfl ?_
  refine K_putF hE rfl 0 rfl rfl jc_X1 5 (by decide) fl_RX1_21 rfl rfl rfl rfl (Nat.le_of_ble_eq_true rfl) dd_X1_init_30 (ws' := (h0, .inr (1, [.int 0, .ref q1, .ref q2, .ref q3, .int 0, .ref q4, .null, .int 0, .null, .null, .null, .null, .int 0, .int 0, .int 0, .int 0, .null, .null])) :: ([(q1, .inl (c1, 5, .inl (fun _ => 0)))] ++ [(q2, .inl (c2, 5, .inl (fun _ => 0)))] ++ [(q3, .inl (c3, 5, .inl (fun _ => 0)))] ++ [(q4, .inl (c4, 15, .inl (fun _ => 0)))])) rfl ?_
  refine K_aload_n hE dd_X1_init_33 0 rfl rfl ?_
  refine K_iconst hE (v := (3 : Int32)) dd_X1_init_34 (by decide) ?_
  refine K_newa hE (at0 := .int) (ty := .int) (N := 3) dd_X1_init_35 rfl jw_aI (fun cA => vp_cell_i _ _ _) (by decide) (by decide) (by decide) (Nat.le_of_ble_eq_true rfl) (Nat.le_of_ble_eq_true rfl) (fun q5 c5 => ?_)
  refine K_ws (ws' := (h0, .inr (1, [.int 0, .ref q1, .ref q2, .ref q3, .int 0, .ref q4, .null, .int 0, .null, .null, .null, .null, .int 0, .int 0, .int 0, .int 0, .null, .null])) :: ([(q1, .inl (c1, 5, .inl (fun _ => 0)))] ++ [(q2, .inl (c2, 5, .inl (fun _ => 0)))] ++ [(q3, .inl (c3, 5, .inl (fun _ => 0)))] ++ [(q4, .inl (c4, 15, .inl (fun _ => 0)))] ++ [(q5, .inl (c5, 3, .inl (fun _ => 0)))])) (tys' := [(c1, .int)] ++ [(c2, .int)] ++ [(c3, .int)] ++ [(c4, .int)] ++ [(c5, .int)]) rfl rfl ?_
  refine K_num (cn' := 5) (sn' := 33) rfl rfl ?_
  refine K_putF hE rfl 0 rfl rfl jc_X1 6 (by decide) fl_RX1_24 rfl rfl rfl rfl (Nat.le_of_ble_eq_true rfl) dd_X1_init_37 (ws' := (h0, .inr (1, [.int 0, .ref q1, .ref q2, .ref q3, .int 0, .ref q4, .ref q5, .int 0, .null, .null, .null, .null, .int 0, .int 0, .int 0, .int 0, .null, .null])) :: ([(q1, .inl (c1, 5, .inl (fun _ => 0)))] ++ [(q2, .inl (c2, 5, .inl (fun _ => 0)))] ++ [(q3, .inl (c3, 5, .inl (fun _ => 0)))] ++ [(q4, .inl (c4, 15, .inl (fun _ => 0)))] ++ [(q5, .inl (c5, 3, .inl (fun _ => 0)))])) rfl ?_
  refine K_aload_n hE dd_X1_init_40 0 rfl rfl ?_
  refine K_iconst hE (v := (4 : Int32)) dd_X1_init_41 (by decide) ?_
  refine K_newa hE (at0 := .int) (ty := .int) (N := 4) dd_X1_init_42 rfl jw_aI (fun cA => vp_cell_i _ _ _) (by decide) (by decide) (by decide) (Nat.le_of_ble_eq_true rfl) (Nat.le_of_ble_eq_true rfl) (fun q6 c6 => ?_)
  refine K_ws (ws' := (h0, .inr (1, [.int 0, .ref q1, .ref q2, .ref q3, .int 0, .ref q4, .ref q5, .int 0, .null, .null, .null, .null, .int 0, .int 0, .int 0, .int 0, .null, .null])) :: ([(q1, .inl (c1, 5, .inl (fun _ => 0)))] ++ [(q2, .inl (c2, 5, .inl (fun _ => 0)))] ++ [(q3, .inl (c3, 5, .inl (fun _ => 0)))] ++ [(q4, .inl (c4, 15, .inl (fun _ => 0)))] ++ [(q5, .inl (c5, 3, .inl (fun _ => 0)))] ++ [(q6, .inl (c6, 4, .inl (fun _ => 0)))])) (tys' := [(c1, .int)] ++ [(c2, .int)] ++ [(c3, .int)] ++ [(c4, .int)] ++ [(c5, .int)] ++ [(c6, .int)]) rfl rfl ?_
  refine K_num (cn' := 6) (sn' := 37) rfl rfl ?_
  refine K_putF hE rfl 0 rfl rfl jc_X1 8 (by decide) fl_RX1_27 rfl rfl rfl rfl (Nat.le_of_ble_eq_true rfl) dd_X1_init_44 (ws' := (h0, .inr (1, [.int 0, .ref q1, .ref q2, .ref q3, .int 0, .ref q4, .ref q5, .int 0, .ref q6, .null, .null, .null, .int 0, .int 0, .int 0, .int 0, .null, .null])) :: ([(q1, .inl (c1, 5, .inl (fun _ => 0)))] ++ [(q2, .inl (c2, 5, .inl (fun _ => 0)))] ++ [(q3, .inl (c3, 5, .inl (fun _ => 0)))] ++ [(q4, .inl (c4, 15, .inl (fun _ => 0)))] ++ [(q5, .inl (c5, 3, .inl (fun _ => 0)))] ++ [(q6, .inl (c6, 4, .inl (fun _ => 0)))])) rfl ?_
  refine K_aload_n hE dd_X1_init_47 0 rfl rfl ?_
  refine K_iconst hE (v := (4 : Int32)) dd_X1_init_48 (by decide) ?_
  refine K_newa hE (at0 := .int) (ty := .int) (N := 4) dd_X1_init_49 rfl jw_aI (fun cA => vp_cell_i _ _ _) (by decide) (by decide) (by decide) (Nat.le_of_ble_eq_true rfl) (Nat.le_of_ble_eq_true rfl) (fun q7 c7 => ?_)
  refine K_ws (ws' := (h0, .inr (1, [.int 0, .ref q1, .ref q2, .ref q3, .int 0, .ref q4, .ref q5, .int 0, .ref q6, .null, .null, .null, .int 0, .int 0, .int 0, .int 0, .null, .null])) :: ([(q1, .inl (c1, 5, .inl (fun _ => 0)))] ++ [(q2, .inl (c2, 5, .inl (fun _ => 0)))] ++ [(q3, .inl (c3, 5, .inl (fun _ => 0)))] ++ [(q4, .inl (c4, 15, .inl (fun _ => 0)))] ++ [(q5, .inl (c5, 3, .inl (fun _ => 0)))] ++ [(q6, .inl (c6, 4, .inl (fun _ => 0)))] ++ [(q7, .inl (c7, 4, .inl (fun _ => 0)))])) (tys' := [(c1, .int)] ++ [(c2, .int)] ++ [(c3, .int)] ++ [(c4, .int)] ++ [(c5, .int)] ++ [(c6, .int)] ++ [(c7, .int)]) rfl rfl ?_
  refine K_num (cn' := 7) (sn' := 41) rfl rfl ?_
  refine K_putF hE rfl 0 rfl rfl jc_X1 9 (by decide) fl_RX1_30 rfl rfl rfl rfl (Nat.le_of_ble_eq_true rfl) dd_X1_init_51 (ws' := (h0, .inr (1, [.int 0, .ref q1, .ref q2, .ref q3, .int 0, .ref q4, .ref q5, .int 0, .ref q6, .ref q7, .null, .null, .int 0, .int 0, .int 0, .int 0, .null, .null])) :: ([(q1, .inl (c1, 5, .inl (fun _ => 0)))] ++ [(q2, .inl (c2, 5, .inl (fun _ => 0)))] ++ [(q3, .inl (c3, 5, .inl (fun _ => 0)))] ++ [(q4, .inl (c4, 15, .inl (fun _ => 0)))] ++ [(q5, .inl (c5, 3, .inl (fun _ => 0)))] ++ [(q6, .inl (c6, 4, .inl (fun _ => 0)))] ++ [(q7, .inl (c7, 4, .inl (fun _ => 0)))])) rfl ?_
  refine K_aload_n hE dd_X1_init_54 0 rfl rfl ?_
  refine K_iconst hE (v := (4 : Int32)) dd_X1_init_55 (by decide) ?_
  refine K_newa hE (at0 := .int) (ty := .int) (N := 4) dd_X1_init_56 rfl jw_aI (fun cA => vp_cell_i _ _ _) (by decide) (by decide) (by decide) (Nat.le_of_ble_eq_true rfl) (Nat.le_of_ble_eq_true rfl) (fun q8 c8 => ?_)
  refine K_ws (ws' := (h0, .inr (1, [.int 0, .ref q1, .ref q2, .ref q3, .int 0, .ref q4, .ref q5, .int 0, .ref q6, .ref q7, .null, .null, .int 0, .int 0, .int 0, .int 0, .null, .null])) :: ([(q1, .inl (c1, 5, .inl (fun _ => 0)))] ++ [(q2, .inl (c2, 5, .inl (fun _ => 0)))] ++ [(q3, .inl (c3, 5, .inl (fun _ => 0)))] ++ [(q4, .inl (c4, 15, .inl (fun _ => 0)))] ++ [(q5, .inl (c5, 3, .inl (fun _ => 0)))] ++ [(q6, .inl (c6, 4, .inl (fun _ => 0)))] ++ [(q7, .inl (c7, 4, .inl (fun _ => 0)))] ++ [(q8, .inl (c8, 4, .inl (fun _ => 0)))])) (tys' := [(c1, .int)] ++ [(c2, .int)] ++ [(c3, .int)] ++ [(c4, .int)] ++ [(c5, .int)] ++ [(c6, .int)] ++ [(c7, .int)] ++ [(c8, .int)]) rfl rfl ?_
  refine K_num (cn' := 8) (sn' := 45) rfl rfl ?_
  refine K_putF hE rfl 0 rfl rfl jc_X1 10 (by decide) fl_RX1_33 rfl rfl rfl rfl (Nat.le_of_ble_eq_true rfl) dd_X1_init_58 (ws' := (h0, .inr (1, [.int 0, .ref q1, .ref q2, .ref q3, .int 0, .ref q4, .ref q5, .int 0, .ref q6, .ref q7, .ref q8, .null, .int 0, .int 0, .int 0, .int 0, .null, .null])) :: ([(q1, .inl (c1, 5, .inl (fun _ => 0)))] ++ [(q2, .inl (c2, 5, .inl (fun _ => 0)))] ++ [(q3, .inl (c3, 5, .inl (fun _ => 0)))] ++ [(q4, .inl (c4, 15, .inl (fun _ => 0)))] ++ [(q5, .inl (c5, 3, .inl (fun _ => 0)))] ++ [(q6, .inl (c6, 4, .inl (fun _ => 0)))] ++ [(q7, .inl (c7, 4, .inl (fun _ => 0)))] ++ [(q8, .inl (c8, 4, .inl (fun _ => 0)))])) rfl ?_
  refine K_aload_n hE dd_X1_init_61 0 rfl rfl ?_
  refine K_iconst hE (v := (4 : Int32)) dd_X1_init_62 (by decide) ?_
  refine K_newa hE (at0 := .int) (ty := .int) (N := 4) dd_X1_init_63 rfl jw_aI (fun cA => vp_cell_i _ _ _) (by decide) (by decide) (by decide) (Nat.le_of_ble_eq_true rfl) (Nat.le_of_ble_eq_true rfl) (fun q9 c9 => ?_)
  refine K_ws (ws' := (h0, .inr (1, [.int 0, .ref q1, .ref q2, .ref q3, .int 0, .ref q4, .ref q5, .int 0, .ref q6, .ref q7, .ref q8, .null, .int 0, .int 0, .int 0, .int 0, .null, .null])) :: ([(q1, .inl (c1, 5, .inl (fun _ => 0)))] ++ [(q2, .inl (c2, 5, .inl (fun _ => 0)))] ++ [(q3, .inl (c3, 5, .inl (fun _ => 0)))] ++ [(q4, .inl (c4, 15, .inl (fun _ => 0)))] ++ [(q5, .inl (c5, 3, .inl (fun _ => 0)))] ++ [(q6, .inl (c6, 4, .inl (fun _ => 0)))] ++ [(q7, .inl (c7, 4, .inl (fun _ => 0)))] ++ [(q8, .inl (c8, 4, .inl (fun _ => 0)))] ++ [(q9, .inl (c9, 4, .inl (fun _ => 0)))])) (tys' := [(c1, .int)] ++ [(c2, .int)] ++ [(c3, .int)] ++ [(c4, .int)] ++ [(c5, .int)] ++ [(c6, .int)] ++ [(c7, .int)] ++ [(c8, .int)] ++ [(c9, .int)]) rfl rfl ?_
  refine K_num (cn' := 9) (sn' := 49) rfl rfl ?_
  refine K_putF hE rfl 0 rfl rfl jc_X1 11 (by decide) fl_RX1_36 rfl rfl rfl rfl (Nat.le_of_ble_eq_true rfl) dd_X1_init_65 (ws' := (h0, .inr (1, [.int 0, .ref q1, .ref q2, .ref q3, .int 0, .ref q4, .ref q5, .int 0, .ref q6, .ref q7, .ref q8, .ref q9, .int 0, .int 0, .int 0, .int 0, .null, .null])) :: ([(q1, .inl (c1, 5, .inl (fun _ => 0)))] ++ [(q2, .inl (c2, 5, .inl (fun _ => 0)))] ++ [(q3, .inl (c3, 5, .inl (fun _ => 0)))] ++ [(q4, .inl (c4, 15, .inl (fun _ => 0)))] ++ [(q5, .inl (c5, 3, .inl (fun _ => 0)))] ++ [(q6, .inl (c6, 4, .inl (fun _ => 0)))] ++ [(q7, .inl (c7, 4, .inl (fun _ => 0)))] ++ [(q8, .inl (c8, 4, .inl (fun _ => 0)))] ++ [(q9, .inl (c9, 4, .inl (fun _ => 0)))])) rfl ?_
  refine K_aload_n hE dd_X1_init_68 0 rfl rfl ?_
  refine K_iconst hE (v := (1 : Int32)) dd_X1_init_69 (by decide) ?_
  refine K_put hE 0 rfl rfl jc_X1 13 (by decide) fl_RX1_39 rfl rfl rfl (Nat.le_of_ble_eq_true rfl) dd_X1_init_70 (ws' := (h0, .inr (1, [.int 0, .ref q1, .ref q2, .ref q3, .int 0, .ref q4, .ref q5, .int 0, .ref q6, .ref q7, .ref q8, .ref q9, .int 0, .int (1 : Int32), .int 0, .int 0, .null, .null])) :: ([(q1, .inl (c1, 5, .inl (fun _ => 0)))] ++ [(q2, .inl (c2, 5, .inl (fun _ => 0)))] ++ [(q3, .inl (c3, 5, .inl (fun _ => 0)))] ++ [(q4, .inl (c4, 15, .inl (fun _ => 0)))] ++ [(q5, .inl (c5, 3, .inl (fun _ => 0)))] ++ [(q6, .inl (c6, 4, .inl (fun _ => 0)))] ++ [(q7, .inl (c7, 4, .inl (fun _ => 0)))] ++ [(q8, .inl (c8, 4, .inl (fun _ => 0)))] ++ [(q9, .inl (c9, 4, .inl (fun _ => 0)))])) rfl ?_
  refine K_aload_n hE dd_X1_init_73 0 rfl rfl ?_
  refine K_bipush hE (v := (6 : Int32)) dd_X1_init_74 (by decide) ?_
  refine K_newa hE (at0 := .int) (ty := .int) (N := 6) dd_X1_init_76 rfl jw_aI (fun cA => vp_cell_i _ _ _) (by decide) (by decide) (by decide) (Nat.le_of_ble_eq_true rfl) (Nat.le_of_ble_eq_true rfl) (fun q10 c10 => ?_)
  refine K_ws (ws' := (h0, .inr (1, [.int 0, .ref q1, .ref q2, .ref q3, .int 0, .ref q4, .ref q5, .int 0, .ref q6, .ref q7, .ref q8, .ref q9, .int 0, .int (1 : Int32), .int 0, .int 0, .null, .null])) :: ([(q1, .inl (c1, 5, .inl (fun _ => 0)))] ++ [(q2, .inl (c2, 5, .inl (fun _ => 0)))] ++ [(q3, .inl (c3, 5, .inl (fun _ => 0)))] ++ [(q4, .inl (c4, 15, .inl (fun _ => 0)))] ++ [(q5, .inl (c5, 3, .inl (fun _ => 0)))] ++ [(q6, .inl (c6, 4, .inl (fun _ => 0)))] ++ [(q7, .inl (c7, 4, .inl (fun _ => 0)))] ++ [(q8, .inl (c8, 4, .inl (fun _ => 0)))] ++ [(q9, .inl (c9, 4, .inl (fun _ => 0)))] ++ [(q10, .inl (c10, 6, .inl (fun _ => 0)))])) (tys' := [(c1, .int)] ++ [(c2, .int)] ++ [(c3, .int)] ++ [(c4, .int)] ++ [(c5, .int)] ++ [(c6, .int)] ++ [(c7, .int)] ++ [(c8, .int)] ++ [(c9, .int)] ++ [(c10, .int)]) rfl rfl ?_
  refine K_num (cn' := 10) (sn' := 55) rfl rfl ?_
  refine K_putF hE rfl 0 rfl rfl jc_X1 16 (by decide) fl_RX1_43 rfl rfl rfl rfl (Nat.le_of_ble_eq_true rfl) dd_X1_init_78 (ws' := (h0, .inr (1, [.int 0, .ref q1, .ref q2, .ref q3, .int 0, .ref q4, .ref q5, .int 0, .ref q6, .ref q7, .ref q8, .ref q9, .int 0, .int (1 : Int32), .int 0, .int 0, .ref q10, .null])) :: ([(q1, .inl (c1, 5, .inl (fun _ => 0)))] ++ [(q2, .inl (c2, 5, .inl (fun _ => 0)))] ++ [(q3, .inl (c3, 5, .inl (fun _ => 0)))] ++ [(q4, .inl (c4, 15, .inl (fun _ => 0)))] ++ [(q5, .inl (c5, 3, .inl (fun _ => 0)))] ++ [(q6, .inl (c6, 4, .inl (fun _ => 0)))] ++ [(q7, .inl (c7, 4, .inl (fun _ => 0)))] ++ [(q8, .inl (c8, 4, .inl (fun _ => 0)))] ++ [(q9, .inl (c9, 4, .inl (fun _ => 0)))] ++ [(q10, .inl (c10, 6, .inl (fun _ => 0)))])) rfl ?_
  refine K_aload_n hE dd_X1_init_81 0 rfl rfl ?_
  refine K_bipush hE (v := (6 : Int32)) dd_X1_init_82 (by decide) ?_
  refine K_newa hE (at0 := .int) (ty := .int) (N := 6) dd_X1_init_84 rfl jw_aI (fun cA => vp_cell_i _ _ _) (by decide) (by decide) (by decide) (Nat.le_of_ble_eq_true rfl) (Nat.le_of_ble_eq_true rfl) (fun q11 c11 => ?_)
  refine K_ws (ws' := (h0, .inr (1, [.int 0, .ref q1, .ref q2, .ref q3, .int 0, .ref q4, .ref q5, .int 0, .ref q6, .ref q7, .ref q8, .ref q9, .int 0, .int (1 : Int32), .int 0, .int 0, .ref q10, .null])) :: ([(q1, .inl (c1, 5, .inl (fun _ => 0)))] ++ [(q2, .inl (c2, 5, .inl (fun _ => 0)))] ++ [(q3, .inl (c3, 5, .inl (fun _ => 0)))] ++ [(q4, .inl (c4, 15, .inl (fun _ => 0)))] ++ [(q5, .inl (c5, 3, .inl (fun _ => 0)))] ++ [(q6, .inl (c6, 4, .inl (fun _ => 0)))] ++ [(q7, .inl (c7, 4, .inl (fun _ => 0)))] ++ [(q8, .inl (c8, 4, .inl (fun _ => 0)))] ++ [(q9, .inl (c9, 4, .inl (fun _ => 0)))] ++ [(q10, .inl (c10, 6, .inl (fun _ => 0)))] ++ [(q11, .inl (c11, 6, .inl (fun _ => 0)))])) (tys' := [(c1, .int)] ++ [(c2, .int)] ++ [(c3, .int)] ++ [(c4, .int)] ++ [(c5, .int)] ++ [(c6, .int)] ++ [(c7, .int)] ++ [(c8, .int)] ++ [(c9, .int)] ++ [(c10, .int)] ++ [(c11, .int)]) rfl rfl ?_
  refine K_num (cn' := 11) (sn' := 61) rfl rfl ?_
  refine K_putF hE rfl 0 rfl rfl jc_X1 17 (by decide) fl_RX1_46 rfl rfl rfl rfl (Nat.le_of_ble_eq_true rfl) dd_X1_init_86 (ws' := (h0, .inr (1, [.int 0, .ref q1, .ref q2, .ref q3, .int 0, .ref q4, .ref q5, .int 0, .ref q6, .ref q7, .ref q8, .ref q9, .int 0, .int (1 : Int32), .int 0, .int 0, .ref q10, .ref q11])) :: ([(q1, .inl (c1, 5, .inl (fun _ => 0)))] ++ [(q2, .inl (c2, 5, .inl (fun _ => 0)))] ++ [(q3, .inl (c3, 5, .inl (fun _ => 0)))] ++ [(q4, .inl (c4, 15, .inl (fun _ => 0)))] ++ [(q5, .inl (c5, 3, .inl (fun _ => 0)))] ++ [(q6, .inl (c6, 4, .inl (fun _ => 0)))] ++ [(q7, .inl (c7, 4, .inl (fun _ => 0)))] ++ [(q8, .inl (c8, 4, .inl (fun _ => 0)))] ++ [(q9, .inl (c9, 4, .inl (fun _ => 0)))] ++ [(q10, .inl (c10, 6, .inl (fun _ => 0)))] ++ [(q11, .inl (c11, 6, .inl (fun _ => 0)))])) rfl ?_
  exact hret ((fun k => [0, q1, q2, q3, 0, q4, q5, 0, q6, q7, q8, q9, 0, 0, 0, 0, q10, q11].getD k 0), (fun k => [c1, c1, c2, c3, c1, c4, c5, c1, c6, c7, c8, c9, c1, c1, c1, c1, c10, c11].getD k c1)) 89 _ _ dd_X1_init_89
set_option maxHeartbeats 8000000 in
set_option maxRecDepth 100000 in
theorem tX2_init (l : Launch) : JI l yX2_init cX2_init 1 1 1 40 2 [.int 0, .int 0, .int 0, .null] (fun o x => bw_X2 o x s0) bt_X2 := by
  refine JI_of (by decide) (Nat.le_of_ble_eq_true rfl) (fun E h0 hEl hE hret => ?_)
  refine K_aload_n hE dd_X2_init_0 0 rfl rfl ?_
  refine K_obj hE dd_X2_init_1 mo_RX2_3 (Nat.le_of_ble_eq_true rfl) (Nat.le_of_ble_eq_true rfl) ?_
  refine K_aload_n hE dd_X2_init_4 0 rfl rfl ?_
  refine K_bipush hE (v := (40 : Int32)) dd_X2_init_5 (by decide) ?_
  refine K_newa hE (at0 := .int) (ty := .int) (N := 40) dd_X2_init_7 rfl jw_aI (fun cA => vp_cell_i _ _ _) (by decide) (by decide) (by decide) (Nat.le_of_ble_eq_true rfl) (Nat.le_of_ble_eq_true rfl) (fun q1 c1 => ?_)
  refine K_ws (ws' := (h0, .inr (2, [.int 0, .int 0, .int 0, .null])) :: ([(q1, .inl (c1, 40, .inl (fun _ => 0)))])) (tys' := [(c1, .int)]) rfl rfl ?_
  refine K_num (cn' := 1) (sn' := 40) rfl rfl ?_
  refine K_putF hE rfl 0 rfl rfl jc_X2 3 (by decide) fl_RX2_9 rfl rfl rfl rfl (Nat.le_of_ble_eq_true rfl) dd_X2_init_9 (ws' := (h0, .inr (2, [.int 0, .int 0, .int 0, .ref q1])) :: ([(q1, .inl (c1, 40, .inl (fun _ => 0)))])) rfl ?_
  exact hret ((fun k => [0, 0, 0, q1].getD k 0), (fun k => [c1, c1, c1, c1].getD k c1)) 12 _ _ dd_X2_init_12
set_option maxHeartbeats 8000000 in
set_option maxRecDepth 100000 in
theorem tX3_init (l : Launch) : JI l yX3_init cX3_init 1 1 2 163 3 [.null, .int 0, .int 0, .int 0, .null, .int 0, .int 0, .int 0, .int 0, .int 0, .int 0] (fun o x => bw_X3 o x s0) bt_X3 := by
  refine JI_of (by decide) (Nat.le_of_ble_eq_true rfl) (fun E h0 hEl hE hret => ?_)
  refine K_aload_n hE dd_X3_init_0 0 rfl rfl ?_
  refine K_obj hE dd_X3_init_1 mo_RX3_3 (Nat.le_of_ble_eq_true rfl) (Nat.le_of_ble_eq_true rfl) ?_
  refine K_aload_n hE dd_X3_init_4 0 rfl rfl ?_
  refine K_sipush hE (v := (160 : Int32)) dd_X3_init_5 (by decide) ?_
  refine K_newa hE (at0 := .int) (ty := .int) (N := 160) dd_X3_init_8 rfl jw_aI (fun cA => vp_cell_i _ _ _) (by decide) (by decide) (by decide) (Nat.le_of_ble_eq_true rfl) (Nat.le_of_ble_eq_true rfl) (fun q1 c1 => ?_)
  refine K_ws (ws' := (h0, .inr (3, [.null, .int 0, .int 0, .int 0, .null, .int 0, .int 0, .int 0, .int 0, .int 0, .int 0])) :: ([(q1, .inl (c1, 160, .inl (fun _ => 0)))])) (tys' := [(c1, .int)]) rfl rfl ?_
  refine K_num (cn' := 1) (sn' := 160) rfl rfl ?_
  refine K_putF hE rfl 0 rfl rfl jc_X3 0 (by decide) fl_RX3_9 rfl rfl rfl rfl (Nat.le_of_ble_eq_true rfl) dd_X3_init_10 (ws' := (h0, .inr (3, [.ref q1, .int 0, .int 0, .int 0, .null, .int 0, .int 0, .int 0, .int 0, .int 0, .int 0])) :: ([(q1, .inl (c1, 160, .inl (fun _ => 0)))])) rfl ?_
  refine K_aload_n hE dd_X3_init_13 0 rfl rfl ?_
  refine K_iconst hE (v := (3 : Int32)) dd_X3_init_14 (by decide) ?_
  refine K_newa hE (at0 := .int) (ty := .int) (N := 3) dd_X3_init_15 rfl jw_aI (fun cA => vp_cell_i _ _ _) (by decide) (by decide) (by decide) (Nat.le_of_ble_eq_true rfl) (Nat.le_of_ble_eq_true rfl) (fun q2 c2 => ?_)
  refine K_ws (ws' := (h0, .inr (3, [.ref q1, .int 0, .int 0, .int 0, .null, .int 0, .int 0, .int 0, .int 0, .int 0, .int 0])) :: ([(q1, .inl (c1, 160, .inl (fun _ => 0)))] ++ [(q2, .inl (c2, 3, .inl (fun _ => 0)))])) (tys' := [(c1, .int)] ++ [(c2, .int)]) rfl rfl ?_
  refine K_num (cn' := 2) (sn' := 163) rfl rfl ?_
  refine K_putF hE rfl 0 rfl rfl jc_X3 4 (by decide) fl_RX3_15 rfl rfl rfl rfl (Nat.le_of_ble_eq_true rfl) dd_X3_init_17 (ws' := (h0, .inr (3, [.ref q1, .int 0, .int 0, .int 0, .ref q2, .int 0, .int 0, .int 0, .int 0, .int 0, .int 0])) :: ([(q1, .inl (c1, 160, .inl (fun _ => 0)))] ++ [(q2, .inl (c2, 3, .inl (fun _ => 0)))])) rfl ?_
  exact hret ((fun k => [q1, 0, 0, 0, q2].getD k 0), (fun k => [c1, c1, c1, c1, c2].getD k c1)) 20 _ _ dd_X3_init_20
set_option maxHeartbeats 8000000 in
set_option maxRecDepth 100000 in
theorem tX0_init (l : Launch) : JI l yX0_init cX0_init 1 2 14 89 0 [.null, .null, .null, .int 0, .int 0, .int 0] (fun o x => bw_X0 o x s0 s0_X1) bt_X0 := by
  refine JI_of (by decide) (Nat.le_of_ble_eq_true rfl) (fun E h0 hEl hE hret => ?_)
  refine K_aload_n hE dd_X0_init_0 0 rfl rfl ?_
  refine K_obj hE dd_X0_init_1 mo_RX0_3 (Nat.le_of_ble_eq_true rfl) (Nat.le_of_ble_eq_true rfl) ?_
  refine K_aload_n hE dd_X0_init_4 0 rfl rfl ?_
  refine K_new hE (ci := 1) (fs := [.int 0, .null, .null, .null, .int 0, .null, .null, .int 0, .null, .null, .null, .null, .int 0, .int 0, .int 0, .int 0, .null, .null]) dd_X0_init_5 rfl jc_X1 cl0_RX0_9 cin_X1 cit_X1 nd_X1 (Nat.le_of_ble_eq_true rfl) (Nat.le_of_ble_eq_true rfl) (fun q1 => ?_)
  refine K_num (cn' := 1) (sn' := 18) rfl rfl ?_
  refine K_dup hE dd_X0_init_8 rfl ?_
  refine K_init hE (cn := 1) (sn := 18) (st := [.ref q1, .ref h0]) (host := "MothCustoms") (ws := (h0, .inr (0, [.null, .null, .null, .int 0, .int 0, .int 0])) :: ([])) (tX1_init E.2.1) m_X1_init (Or.inr (by decide +kernel)) ⟨Nat.le_of_ble_eq_true rfl, Nat.le_of_ble_eq_true rfl⟩ (Nat.le_of_ble_eq_true rfl) (Nat.le_of_ble_eq_true rfl) (Nat.le_of_ble_eq_true rfl) (Nat.le_of_ble_eq_true rfl) dd_X0_init_9 (fun x1 => ?_)
  refine K_ws (ws' := (h0, .inr (0, [.null, .null, .null, .int 0, .int 0, .int 0])) :: (bw_X1 q1 x1 s0_X1)) (tys' := bt_X1 x1) rfl rfl ?_
  refine K_num (cn' := 12) (sn' := 79) rfl rfl ?_
  refine K_putF hE rfl 0 rfl rfl jc_X0 0 (by decide) fl_RX0_12 rfl rfl rfl rfl (Nat.le_of_ble_eq_true rfl) dd_X0_init_12 (ws' := (h0, .inr (0, [.ref q1, .null, .null, .int 0, .int 0, .int 0])) :: (bw_X1 q1 x1 s0_X1)) rfl ?_
  refine K_aload_n hE dd_X0_init_15 0 rfl rfl ?_
  refine K_iconst hE (v := (5 : Int32)) dd_X0_init_16 (by decide) ?_
  refine K_newa hE (at0 := .int) (ty := .int) (N := 5) dd_X0_init_17 rfl jw_aI (fun cA => vp_cell_i _ _ _) (by decide) (by decide) (by decide) (Nat.le_of_ble_eq_true rfl) (Nat.le_of_ble_eq_true rfl) (fun q2 c2 => ?_)
  refine K_ws (ws' := (h0, .inr (0, [.ref q1, .null, .null, .int 0, .int 0, .int 0])) :: (bw_X1 q1 x1 s0_X1 ++ [(q2, .inl (c2, 5, .inl (fun _ => 0)))])) (tys' := bt_X1 x1 ++ [(c2, .int)]) rfl rfl ?_
  refine K_num (cn' := 13) (sn' := 84) rfl rfl ?_
  refine K_putF hE rfl 0 rfl rfl jc_X0 1 (by decide) fl_RX0_18 rfl rfl rfl rfl (Nat.le_of_ble_eq_true rfl) dd_X0_init_19 (ws' := (h0, .inr (0, [.ref q1, .ref q2, .null, .int 0, .int 0, .int 0])) :: (bw_X1 q1 x1 s0_X1 ++ [(q2, .inl (c2, 5, .inl (fun _ => 0)))])) rfl ?_
  refine K_aload_n hE dd_X0_init_22 0 rfl rfl ?_
  refine K_iconst hE (v := (5 : Int32)) dd_X0_init_23 (by decide) ?_
  refine K_newa hE (at0 := .int) (ty := .int) (N := 5) dd_X0_init_24 rfl jw_aI (fun cA => vp_cell_i _ _ _) (by decide) (by decide) (by decide) (Nat.le_of_ble_eq_true rfl) (Nat.le_of_ble_eq_true rfl) (fun q3 c3 => ?_)
  refine K_ws (ws' := (h0, .inr (0, [.ref q1, .ref q2, .null, .int 0, .int 0, .int 0])) :: (bw_X1 q1 x1 s0_X1 ++ [(q2, .inl (c2, 5, .inl (fun _ => 0)))] ++ [(q3, .inl (c3, 5, .inl (fun _ => 0)))])) (tys' := bt_X1 x1 ++ [(c2, .int)] ++ [(c3, .int)]) rfl rfl ?_
  refine K_num (cn' := 14) (sn' := 89) rfl rfl ?_
  refine K_putF hE rfl 0 rfl rfl jc_X0 2 (by decide) fl_RX0_22 rfl rfl rfl rfl (Nat.le_of_ble_eq_true rfl) dd_X0_init_26 (ws' := (h0, .inr (0, [.ref q1, .ref q2, .ref q3, .int 0, .int 0, .int 0])) :: (bw_X1 q1 x1 s0_X1 ++ [(q2, .inl (c2, 5, .inl (fun _ => 0)))] ++ [(q3, .inl (c3, 5, .inl (fun _ => 0)))])) rfl ?_
  exact hret (q1, x1, (fun k => [0, q2, q3].getD k 0), (fun k => [c2, c2, c3].getD k c2)) 29 _ _ dd_X0_init_29
set_option maxHeartbeats 8000000 in
set_option maxRecDepth 100000 in
theorem tX4_init (l : Launch) : JI l yX4_init cX4_init 2 3 76 767 4 [.null, .null, .null, .null, .null, .null, .int 0, .int 0] (fun o y => bw_X4 o y s0_X4) bt_X4 := by
  refine JI_of (by decide) (Nat.le_of_ble_eq_true rfl) (fun E h0 hEl hE hret => ?_)
  refine K_aload_n hE dd_X4_init_0 0 rfl rfl ?_
  refine K_obj hE dd_X4_init_1 mo_RX4_3 (Nat.le_of_ble_eq_true rfl) (Nat.le_of_ble_eq_true rfl) ?_
  refine K_aload_n hE dd_X4_init_4 0 rfl rfl ?_
  refine K_new hE (ci := 3) (fs := [.null, .int 0, .int 0, .int 0, .null, .int 0, .int 0, .int 0, .int 0, .int 0, .int 0]) dd_X4_init_5 rfl jc_X3 cl0_RX4_9 cin_X3 cit_X3 nd_X3 (Nat.le_of_ble_eq_true rfl) (Nat.le_of_ble_eq_true rfl) (fun q1 => ?_)
  refine K_num (cn' := 1) (sn' := 11) rfl rfl ?_
  refine K_dup hE dd_X4_init_8 rfl ?_
  refine K_init hE (cn := 1) (sn := 11) (st := [.ref q1, .ref h0]) (host := "MothCustoms") (ws := (h0, .inr (4, [.null, .null, .null, .null, .null, .null, .int 0, .int 0])) :: ([])) (tX3_init E.2.1) m_X3_init (Or.inr (by decide +kernel)) ⟨Nat.le_of_ble_eq_true rfl, Nat.le_of_ble_eq_true rfl⟩ (Nat.le_of_ble_eq_true rfl) (Nat.le_of_ble_eq_true rfl) (Nat.le_of_ble_eq_true rfl) (Nat.le_of_ble_eq_true rfl) dd_X4_init_9 (fun x1 => ?_)
  refine K_ws (ws' := (h0, .inr (4, [.null, .null, .null, .null, .null, .null, .int 0, .int 0])) :: (bw_X3 q1 x1 s0)) (tys' := bt_X3 x1) rfl rfl ?_
  refine K_num (cn' := 3) (sn' := 174) rfl rfl ?_
  refine K_putF hE rfl 0 rfl rfl jc_X4 0 (by decide) fl_RX4_12 rfl rfl rfl rfl (Nat.le_of_ble_eq_true rfl) dd_X4_init_12 (ws' := (h0, .inr (4, [.ref q1, .null, .null, .null, .null, .null, .int 0, .int 0])) :: (bw_X3 q1 x1 s0)) rfl ?_
  refine K_aload_n hE dd_X4_init_15 0 rfl rfl ?_
  refine K_new hE (ci := 1) (fs := [.int 0, .null, .null, .null, .int 0, .null, .null, .int 0, .null, .null, .null, .null, .int 0, .int 0, .int 0, .int 0, .null, .null]) dd_X4_init_16 rfl jc_X1 cl0_RX4_16 cin_X1 cit_X1 nd_X1 (Nat.le_of_ble_eq_true rfl) (Nat.le_of_ble_eq_true rfl) (fun q2 => ?_)
  refine K_num (cn' := 4) (sn' := 192) rfl rfl ?_
  refine K_dup hE dd_X4_init_19 rfl ?_
  refine K_init hE (cn := 4) (sn := 192) (st := [.ref q2, .ref h0]) (host := "MothCustoms") (ws := (h0, .inr (4, [.ref q1, .null, .null, .null, .null, .null, .int 0, .int 0])) :: (bw_X3 q1 x1 s0)) (tX1_init E.2.1) m_X1_init (Or.inr (by decide +kernel)) ⟨Nat.le_of_ble_eq_true rfl, Nat.le_of_ble_eq_true rfl⟩ (Nat.le_of_ble_eq_true rfl) (Nat.le_of_ble_eq_true rfl) (Nat.le_of_ble_eq_true rfl) (Nat.le_of_ble_eq_true rfl) dd_X4_init_20 (fun x2 => ?_)
  refine K_ws (ws' := (h0, .inr (4, [.ref q1, .null, .null, .null, .null, .null, .int 0, .int 0])) :: (bw_X3 q1 x1 s0 ++ bw_X1 q2 x2 s0_X1)) (tys' := bt_X3 x1 ++ bt_X1 x2) rfl rfl ?_
  refine K_num (cn' := 15) (sn' := 253) rfl rfl ?_
  refine K_putF hE rfl 0 rfl rfl jc_X4 1 (by decide) fl_RX4_19 rfl rfl rfl rfl (Nat.le_of_ble_eq_true rfl) dd_X4_init_23 (ws' := (h0, .inr (4, [.ref q1, .ref q2, .null, .null, .null, .null, .int 0, .int 0])) :: (bw_X3 q1 x1 s0 ++ bw_X1 q2 x2 s0_X1)) rfl ?_
  refine K_aload_n hE dd_X4_init_26 0 rfl rfl ?_
  refine K_new hE (ci := 1) (fs := [.int 0, .null, .null, .null, .int 0, .null, .null, .int 0, .null, .null, .null, .null, .int 0, .int 0, .int 0, .int 0, .null, .null]) dd_X4_init_27 rfl jc_X1 cl0_RX4_16 cin_X1 cit_X1 nd_X1 (Nat.le_of_ble_eq_true rfl) (Nat.le_of_ble_eq_true rfl) (fun q3 => ?_)
  refine K_num (cn' := 16) (sn' := 271) rfl rfl ?_
  refine K_dup hE dd_X4_init_30 rfl ?_
  refine K_init hE (cn := 16) (sn := 271) (st := [.ref q3, .ref h0]) (host := "MothCustoms") (ws := (h0, .inr (4, [.ref q1, .ref q2, .null, .null, .null, .null, .int 0, .int 0])) :: (bw_X3 q1 x1 s0 ++ bw_X1 q2 x2 s0_X1)) (tX1_init E.2.1) m_X1_init (Or.inr (by decide +kernel)) ⟨Nat.le_of_ble_eq_true rfl, Nat.le_of_ble_eq_true rfl⟩ (Nat.le_of_ble_eq_true rfl) (Nat.le_of_ble_eq_true rfl) (Nat.le_of_ble_eq_true rfl) (Nat.le_of_ble_eq_true rfl) dd_X4_init_31 (fun x3 => ?_)
  refine K_ws (ws' := (h0, .inr (4, [.ref q1, .ref q2, .null, .null, .null, .null, .int 0, .int 0])) :: (bw_X3 q1 x1 s0 ++ bw_X1 q2 x2 s0_X1 ++ bw_X1 q3 x3 s0_X1)) (tys' := bt_X3 x1 ++ bt_X1 x2 ++ bt_X1 x3) rfl rfl ?_
  refine K_num (cn' := 27) (sn' := 332) rfl rfl ?_
  refine K_putF hE rfl 0 rfl rfl jc_X4 2 (by decide) fl_RX4_23 rfl rfl rfl rfl (Nat.le_of_ble_eq_true rfl) dd_X4_init_34 (ws' := (h0, .inr (4, [.ref q1, .ref q2, .ref q3, .null, .null, .null, .int 0, .int 0])) :: (bw_X3 q1 x1 s0 ++ bw_X1 q2 x2 s0_X1 ++ bw_X1 q3 x3 s0_X1)) rfl ?_
  refine K_aload_n hE dd_X4_init_37 0 rfl rfl ?_
  refine K_iconst hE (v := (2 : Int32)) dd_X4_init_38 (by decide) ?_
  refine K_newq hE (C := "MothCustoms$Shed") (N := 2) dd_X4_init_39 cl0_RX4_16 (by decide) (by decide) (by decide) (by decide) (Nat.le_of_ble_eq_true rfl) (Nat.le_of_ble_eq_true rfl) (fun q4 c4 => ?_)
  refine K_ws (ws' := (h0, .inr (4, [.ref q1, .ref q2, .ref q3, .null, .null, .null, .int 0, .int 0])) :: (bw_X3 q1 x1 s0 ++ bw_X1 q2 x2 s0_X1 ++ bw_X1 q3 x3 s0_X1 ++ [(q4, .inl (c4, 2, .inr (.inr (.inr (.inr (fun _ => none))))))])) (tys' := bt_X3 x1 ++ bt_X1 x2 ++ bt_X1 x3 ++ [(c4, .object "MothCustoms$Shed")]) rfl rfl ?_
  refine K_num (cn' := 28) (sn' := 334) rfl rfl ?_
  refine K_putF hE rfl 0 rfl rfl jc_X4 3 (by decide) fl_RX4_26 rfl rfl rfl rfl (Nat.le_of_ble_eq_true rfl) dd_X4_init_42 (ws' := (h0, .inr (4, [.ref q1, .ref q2, .ref q3, .ref q4, .null, .null, .int 0, .int 0])) :: (bw_X3 q1 x1 s0 ++ bw_X1 q2 x2 s0_X1 ++ bw_X1 q3 x3 s0_X1 ++ [(q4, .inl (c4, 2, .inr (.inr (.inr (.inr (fun _ => none))))))])) rfl ?_
  refine K_iconst hE (v := (0 : Int32)) dd_X4_init_45 (by decide) ?_
  refine K_istore_n hE (L' := [(1, .int (0 : Int32)), (0, .ref h0)]) dd_X4_init_46 (Nat.le_of_ble_eq_true rfl) rfl rfl ?_
  refine K_iload_n hE dd_X4_init_47 0 rfl rfl ?_
  refine K_iconst hE (v := (2 : Int32)) dd_X4_init_48 (by decide) ?_
  refine K_geF hE (tgt := 71) dd_X4_init_49 (by decide) (by decide) ?_
  refine K_aload_n hE dd_X4_init_52 1 rfl rfl ?_
  refine K_get hE 0 rfl rfl jc_X4 3 (by decide) fl_RX4_26 (v := .ref q4) rfl dd_X4_init_53 ?_
  refine K_iload_n hE dd_X4_init_56 0 rfl rfl ?_
  refine K_new hE (ci := 1) (fs := [.int 0, .null, .null, .null, .int 0, .null, .null, .int 0, .null, .null, .null, .null, .int 0, .int 0, .int 0, .int 0, .null, .null]) dd_X4_init_57 rfl jc_X1 cl0_RX4_16 cin_X1 cit_X1 nd_X1 (Nat.le_of_ble_eq_true rfl) (Nat.le_of_ble_eq_true rfl) (fun q5 => ?_)
  refine K_num (cn' := 29) (sn' := 352) rfl rfl ?_
  refine K_dup hE dd_X4_init_60 rfl ?_
  refine K_init hE (cn := 29) (sn := 352) (st := [.ref q5, .int (0 : Int32), .ref q4]) (host := "MothCustoms") (ws := (h0, .inr (4, [.ref q1, .ref q2, .ref q3, .ref q4, .null, .null, .int 0, .int 0])) :: (bw_X3 q1 x1 s0 ++ bw_X1 q2 x2 s0_X1 ++ bw_X1 q3 x3 s0_X1 ++ [(q4, .inl (c4, 2, .inr (.inr (.inr (.inr (fun _ => none))))))])) (tX1_init E.2.1) m_X1_init (Or.inr (by decide +kernel)) ⟨Nat.le_of_ble_eq_true rfl, Nat.le_of_ble_eq_true rfl⟩ (Nat.le_of_ble_eq_true rfl) (Nat.le_of_ble_eq_true rfl) (Nat.le_of_ble_eq_true rfl) (Nat.le_of_ble_eq_true rfl) dd_X4_init_61 (fun x5 => ?_)
  refine K_ws (ws' := (h0, .inr (4, [.ref q1, .ref q2, .ref q3, .ref q4, .null, .null, .int 0, .int 0])) :: (bw_X3 q1 x1 s0 ++ bw_X1 q2 x2 s0_X1 ++ bw_X1 q3 x3 s0_X1 ++ [(q4, .inl (c4, 2, .inr (.inr (.inr (.inr (fun _ => none))))))] ++ bw_X1 q5 x5 s0_X1)) (tys' := bt_X3 x1 ++ bt_X1 x2 ++ bt_X1 x3 ++ [(c4, .object "MothCustoms$Shed")] ++ bt_X1 x5) rfl rfl ?_
  refine K_num (cn' := 40) (sn' := 413) rfl rfl ?_
  refine K_astq hE (r := r_X1) (ci := 1) (vs := fs_X1 x5.1 s0_X1) dd_X4_init_64 28 24 29 rfl rfl rfl rfl (vp_in_nI (n := 0) (by decide) (by decide)) (ws' := (h0, .inr (4, [.ref q1, .ref q2, .ref q3, .ref q4, .null, .null, .int 0, .int 0])) :: (bw_X3 q1 x1 s0 ++ bw_X1 q2 x2 s0_X1 ++ bw_X1 q3 x3 s0_X1 ++ [(q4, .inl (c4, 2, .inr (.inr (.inr (.inr (va_up (fun _ => none) (0 : Int32).toNatClampNeg (some q5)))))))] ++ bw_X1 q5 x5 s0_X1)) rfl ?_
  refine K_iinc hE (v := (1 : Int32)) (L' := [(1, .int (1 : Int32)), (0, .ref h0)]) dd_X4_init_65 (j := 0) rfl (by decide) (Nat.le_of_ble_eq_true rfl) rfl ?_
  refine K_goto hE (tgt := 47) dd_X4_init_68 (by decide) ?_
  refine K_iload_n hE dd_X4_init_47 0 rfl rfl ?_
  refine K_iconst hE (v := (2 : Int32)) dd_X4_init_48 (by decide) ?_
  refine K_geF hE (tgt := 71) dd_X4_init_49 (by decide) (by decide) ?_
  refine K_aload_n hE dd_X4_init_52 1 rfl rfl ?_
  refine K_get hE 0 rfl rfl jc_X4 3 (by decide) fl_RX4_26 (v := .ref q4) rfl dd_X4_init_53 ?_
  refine K_iload_n hE dd_X4_init_56 0 rfl rfl ?_
  refine K_new hE (ci := 1) (fs := [.int 0, .null, .null, .null, .int 0, .null, .null, .int 0, .null, .null, .null, .null, .int 0, .int 0, .int 0, .int 0, .null, .null]) dd_X4_init_57 rfl jc_X1 cl0_RX4_16 cin_X1 cit_X1 nd_X1 (Nat.le_of_ble_eq_true rfl) (Nat.le_of_ble_eq_true rfl) (fun q6 => ?_)
  refine K_num (cn' := 41) (sn' := 431) rfl rfl ?_
  refine K_dup hE dd_X4_init_60 rfl ?_
  refine K_init hE (cn := 41) (sn := 431) (st := [.ref q6, .int (1 : Int32), .ref q4]) (host := "MothCustoms") (ws := (h0, .inr (4, [.ref q1, .ref q2, .ref q3, .ref q4, .null, .null, .int 0, .int 0])) :: (bw_X3 q1 x1 s0 ++ bw_X1 q2 x2 s0_X1 ++ bw_X1 q3 x3 s0_X1 ++ [(q4, .inl (c4, 2, .inr (.inr (.inr (.inr (va_up (fun _ => none) (0 : Int32).toNatClampNeg (some q5)))))))] ++ bw_X1 q5 x5 s0_X1)) (tX1_init E.2.1) m_X1_init (Or.inr (by decide +kernel)) ⟨Nat.le_of_ble_eq_true rfl, Nat.le_of_ble_eq_true rfl⟩ (Nat.le_of_ble_eq_true rfl) (Nat.le_of_ble_eq_true rfl) (Nat.le_of_ble_eq_true rfl) (Nat.le_of_ble_eq_true rfl) dd_X4_init_61 (fun x6 => ?_)
  refine K_ws (ws' := (h0, .inr (4, [.ref q1, .ref q2, .ref q3, .ref q4, .null, .null, .int 0, .int 0])) :: (bw_X3 q1 x1 s0 ++ bw_X1 q2 x2 s0_X1 ++ bw_X1 q3 x3 s0_X1 ++ [(q4, .inl (c4, 2, .inr (.inr (.inr (.inr (va_up (fun _ => none) (0 : Int32).toNatClampNeg (some q5)))))))] ++ bw_X1 q5 x5 s0_X1 ++ bw_X1 q6 x6 s0_X1)) (tys' := bt_X3 x1 ++ bt_X1 x2 ++ bt_X1 x3 ++ [(c4, .object "MothCustoms$Shed")] ++ bt_X1 x5 ++ bt_X1 x6) rfl rfl ?_
  refine K_num (cn' := 52) (sn' := 492) rfl rfl ?_
  refine K_astq hE (r := r_X1) (ci := 1) (vs := fs_X1 x6.1 s0_X1) dd_X4_init_64 28 24 41 rfl rfl rfl rfl (vp_in_nI (n := 1) (by decide) (by decide)) (ws' := (h0, .inr (4, [.ref q1, .ref q2, .ref q3, .ref q4, .null, .null, .int 0, .int 0])) :: (bw_X3 q1 x1 s0 ++ bw_X1 q2 x2 s0_X1 ++ bw_X1 q3 x3 s0_X1 ++ [(q4, .inl (c4, 2, .inr (.inr (.inr (.inr (va_up (va_up (fun _ => none) (0 : Int32).toNatClampNeg (some q5)) (1 : Int32).toNatClampNeg (some q6)))))))] ++ bw_X1 q5 x5 s0_X1 ++ bw_X1 q6 x6 s0_X1)) rfl ?_
  refine K_iinc hE (v := (2 : Int32)) (L' := [(1, .int (2 : Int32)), (0, .ref h0)]) dd_X4_init_65 (j := 0) rfl (by decide) (Nat.le_of_ble_eq_true rfl) rfl ?_
  refine K_goto hE (tgt := 47) dd_X4_init_68 (by decide) ?_
  refine K_iload_n hE dd_X4_init_47 0 rfl rfl ?_
  refine K_iconst hE (v := (2 : Int32)) dd_X4_init_48 (by decide) ?_
  refine K_geT hE (tgt := 71) dd_X4_init_49 (by decide) (by decide) ?_
  refine K_aload_n hE dd_X4_init_71 1 rfl rfl ?_
  refine K_iconst hE (v := (4 : Int32)) dd_X4_init_72 (by decide) ?_
  refine K_newq hE (C := "MothCustoms$Sheet") (N := 4) dd_X4_init_73 cl0_RX4_30 (by decide) (by decide) (by decide) (by decide) (Nat.le_of_ble_eq_true rfl) (Nat.le_of_ble_eq_true rfl) (fun q7 c7 => ?_)
  refine K_ws (ws' := (h0, .inr (4, [.ref q1, .ref q2, .ref q3, .ref q4, .null, .null, .int 0, .int 0])) :: (bw_X3 q1 x1 s0 ++ bw_X1 q2 x2 s0_X1 ++ bw_X1 q3 x3 s0_X1 ++ [(q4, .inl (c4, 2, .inr (.inr (.inr (.inr (va_up (va_up (fun _ => none) (0 : Int32).toNatClampNeg (some q5)) (1 : Int32).toNatClampNeg (some q6)))))))] ++ bw_X1 q5 x5 s0_X1 ++ bw_X1 q6 x6 s0_X1 ++ [(q7, .inl (c7, 4, .inr (.inr (.inr (.inr (fun _ => none))))))])) (tys' := bt_X3 x1 ++ bt_X1 x2 ++ bt_X1 x3 ++ [(c4, .object "MothCustoms$Shed")] ++ bt_X1 x5 ++ bt_X1 x6 ++ [(c7, .object "MothCustoms$Sheet")]) rfl rfl ?_
  refine K_num (cn' := 53) (sn' := 496) rfl rfl ?_
  refine K_putF hE rfl 0 rfl rfl jc_X4 4 (by decide) fl_RX4_32 rfl rfl rfl rfl (Nat.le_of_ble_eq_true rfl) dd_X4_init_76 (ws' := (h0, .inr (4, [.ref q1, .ref q2, .ref q3, .ref q4, .ref q7, .null, .int 0, .int 0])) :: (bw_X3 q1 x1 s0 ++ bw_X1 q2 x2 s0_X1 ++ bw_X1 q3 x3 s0_X1 ++ [(q4, .inl (c4, 2, .inr (.inr (.inr (.inr (va_up (va_up (fun _ => none) (0 : Int32).toNatClampNeg (some q5)) (1 : Int32).toNatClampNeg (some q6)))))))] ++ bw_X1 q5 x5 s0_X1 ++ bw_X1 q6 x6 s0_X1 ++ [(q7, .inl (c7, 4, .inr (.inr (.inr (.inr (fun _ => none))))))])) rfl ?_
  refine K_iconst hE (v := (0 : Int32)) dd_X4_init_79 (by decide) ?_
  refine K_istore_n hE (L' := [(1, .int (0 : Int32)), (0, .ref h0)]) dd_X4_init_80 (Nat.le_of_ble_eq_true rfl) rfl rfl ?_
  refine K_iload_n hE dd_X4_init_81 0 rfl rfl ?_
  refine K_iconst hE (v := (4 : Int32)) dd_X4_init_82 (by decide) ?_
  refine K_geF hE (tgt := 105) dd_X4_init_83 (by decide) (by decide) ?_
  refine K_aload_n hE dd_X4_init_86 1 rfl rfl ?_
  refine K_get hE 0 rfl rfl jc_X4 4 (by decide) fl_RX4_32 (v := .ref q7) rfl dd_X4_init_87 ?_
  refine K_iload_n hE dd_X4_init_90 0 rfl rfl ?_
  refine K_new hE (ci := 2) (fs := [.int 0, .int 0, .int 0, .null]) dd_X4_init_91 rfl jc_X2 cl0_RX4_30 cin_X2 cit_X2 nd_X2 (Nat.le_of_ble_eq_true rfl) (Nat.le_of_ble_eq_true rfl) (fun q8 => ?_)
  refine K_num (cn' := 54) (sn' := 500) rfl rfl ?_
  refine K_dup hE dd_X4_init_94 rfl ?_
  refine K_init hE (cn := 54) (sn := 500) (st := [.ref q8, .int (0 : Int32), .ref q7]) (host := "MothCustoms") (ws := (h0, .inr (4, [.ref q1, .ref q2, .ref q3, .ref q4, .ref q7, .null, .int 0, .int 0])) :: (bw_X3 q1 x1 s0 ++ bw_X1 q2 x2 s0_X1 ++ bw_X1 q3 x3 s0_X1 ++ [(q4, .inl (c4, 2, .inr (.inr (.inr (.inr (va_up (va_up (fun _ => none) (0 : Int32).toNatClampNeg (some q5)) (1 : Int32).toNatClampNeg (some q6)))))))] ++ bw_X1 q5 x5 s0_X1 ++ bw_X1 q6 x6 s0_X1 ++ [(q7, .inl (c7, 4, .inr (.inr (.inr (.inr (fun _ => none))))))])) (tX2_init E.2.1) m_X2_init (Or.inr (by decide +kernel)) ⟨Nat.le_of_ble_eq_true rfl, Nat.le_of_ble_eq_true rfl⟩ (Nat.le_of_ble_eq_true rfl) (Nat.le_of_ble_eq_true rfl) (Nat.le_of_ble_eq_true rfl) (Nat.le_of_ble_eq_true rfl) dd_X4_init_95 (fun x8 => ?_)
  refine K_ws (ws' := (h0, .inr (4, [.ref q1, .ref q2, .ref q3, .ref q4, .ref q7, .null, .int 0, .int 0])) :: (bw_X3 q1 x1 s0 ++ bw_X1 q2 x2 s0_X1 ++ bw_X1 q3 x3 s0_X1 ++ [(q4, .inl (c4, 2, .inr (.inr (.inr (.inr (va_up (va_up (fun _ => none) (0 : Int32).toNatClampNeg (some q5)) (1 : Int32).toNatClampNeg (some q6)))))))] ++ bw_X1 q5 x5 s0_X1 ++ bw_X1 q6 x6 s0_X1 ++ [(q7, .inl (c7, 4, .inr (.inr (.inr (.inr (fun _ => none))))))] ++ bw_X2 q8 x8 s0)) (tys' := bt_X3 x1 ++ bt_X1 x2 ++ bt_X1 x3 ++ [(c4, .object "MothCustoms$Shed")] ++ bt_X1 x5 ++ bt_X1 x6 ++ [(c7, .object "MothCustoms$Sheet")] ++ bt_X2 x8) rfl rfl ?_
  refine K_num (cn' := 55) (sn' := 540) rfl rfl ?_
  refine K_astq hE (r := r_X2) (ci := 2) (vs := fs_X2 x8.1 s0) dd_X4_init_98 53 47 54 rfl rfl rfl rfl (vp_in_nI (n := 0) (by decide) (by decide)) (ws' := (h0, .inr (4, [.ref q1, .ref q2, .ref q3, .ref q4, .ref q7, .null, .int 0, .int 0])) :: (bw_X3 q1 x1 s0 ++ bw_X1 q2 x2 s0_X1 ++ bw_X1 q3 x3 s0_X1 ++ [(q4, .inl (c4, 2, .inr (.inr (.inr (.inr (va_up (va_up (fun _ => none) (0 : Int32).toNatClampNeg (some q5)) (1 : Int32).toNatClampNeg (some q6)))))))] ++ bw_X1 q5 x5 s0_X1 ++ bw_X1 q6 x6 s0_X1 ++ [(q7, .inl (c7, 4, .inr (.inr (.inr (.inr (va_up (fun _ => none) (0 : Int32).toNatClampNeg (some q8)))))))] ++ bw_X2 q8 x8 s0)) rfl ?_
  refine K_iinc hE (v := (1 : Int32)) (L' := [(1, .int (1 : Int32)), (0, .ref h0)]) dd_X4_init_99 (j := 0) rfl (by decide) (Nat.le_of_ble_eq_true rfl) rfl ?_
  refine K_goto hE (tgt := 81) dd_X4_init_102 (by decide) ?_
  refine K_iload_n hE dd_X4_init_81 0 rfl rfl ?_
  refine K_iconst hE (v := (4 : Int32)) dd_X4_init_82 (by decide) ?_
  refine K_geF hE (tgt := 105) dd_X4_init_83 (by decide) (by decide) ?_
  refine K_aload_n hE dd_X4_init_86 1 rfl rfl ?_
  refine K_get hE 0 rfl rfl jc_X4 4 (by decide) fl_RX4_32 (v := .ref q7) rfl dd_X4_init_87 ?_
  refine K_iload_n hE dd_X4_init_90 0 rfl rfl ?_
  refine K_new hE (ci := 2) (fs := [.int 0, .int 0, .int 0, .null]) dd_X4_init_91 rfl jc_X2 cl0_RX4_30 cin_X2 cit_X2 nd_X2 (Nat.le_of_ble_eq_true rfl) (Nat.le_of_ble_eq_true rfl) (fun q9 => ?_)
  refine K_num (cn' := 56) (sn' := 544) rfl rfl ?_
  refine K_dup hE dd_X4_init_94 rfl ?_
  refine K_init hE (cn := 56) (sn := 544) (st := [.ref q9, .int (1 : Int32), .ref q7]) (host := "MothCustoms") (ws := (h0, .inr (4, [.ref q1, .ref q2, .ref q3, .ref q4, .ref q7, .null, .int 0, .int 0])) :: (bw_X3 q1 x1 s0 ++ bw_X1 q2 x2 s0_X1 ++ bw_X1 q3 x3 s0_X1 ++ [(q4, .inl (c4, 2, .inr (.inr (.inr (.inr (va_up (va_up (fun _ => none) (0 : Int32).toNatClampNeg (some q5)) (1 : Int32).toNatClampNeg (some q6)))))))] ++ bw_X1 q5 x5 s0_X1 ++ bw_X1 q6 x6 s0_X1 ++ [(q7, .inl (c7, 4, .inr (.inr (.inr (.inr (va_up (fun _ => none) (0 : Int32).toNatClampNeg (some q8)))))))] ++ bw_X2 q8 x8 s0)) (tX2_init E.2.1) m_X2_init (Or.inr (by decide +kernel)) ⟨Nat.le_of_ble_eq_true rfl, Nat.le_of_ble_eq_true rfl⟩ (Nat.le_of_ble_eq_true rfl) (Nat.le_of_ble_eq_true rfl) (Nat.le_of_ble_eq_true rfl) (Nat.le_of_ble_eq_true rfl) dd_X4_init_95 (fun x9 => ?_)
  refine K_ws (ws' := (h0, .inr (4, [.ref q1, .ref q2, .ref q3, .ref q4, .ref q7, .null, .int 0, .int 0])) :: (bw_X3 q1 x1 s0 ++ bw_X1 q2 x2 s0_X1 ++ bw_X1 q3 x3 s0_X1 ++ [(q4, .inl (c4, 2, .inr (.inr (.inr (.inr (va_up (va_up (fun _ => none) (0 : Int32).toNatClampNeg (some q5)) (1 : Int32).toNatClampNeg (some q6)))))))] ++ bw_X1 q5 x5 s0_X1 ++ bw_X1 q6 x6 s0_X1 ++ [(q7, .inl (c7, 4, .inr (.inr (.inr (.inr (va_up (fun _ => none) (0 : Int32).toNatClampNeg (some q8)))))))] ++ bw_X2 q8 x8 s0 ++ bw_X2 q9 x9 s0)) (tys' := bt_X3 x1 ++ bt_X1 x2 ++ bt_X1 x3 ++ [(c4, .object "MothCustoms$Shed")] ++ bt_X1 x5 ++ bt_X1 x6 ++ [(c7, .object "MothCustoms$Sheet")] ++ bt_X2 x8 ++ bt_X2 x9) rfl rfl ?_
  refine K_num (cn' := 57) (sn' := 584) rfl rfl ?_
  refine K_astq hE (r := r_X2) (ci := 2) (vs := fs_X2 x9.1 s0) dd_X4_init_98 53 47 56 rfl rfl rfl rfl (vp_in_nI (n := 1) (by decide) (by decide)) (ws' := (h0, .inr (4, [.ref q1, .ref q2, .ref q3, .ref q4, .ref q7, .null, .int 0, .int 0])) :: (bw_X3 q1 x1 s0 ++ bw_X1 q2 x2 s0_X1 ++ bw_X1 q3 x3 s0_X1 ++ [(q4, .inl (c4, 2, .inr (.inr (.inr (.inr (va_up (va_up (fun _ => none) (0 : Int32).toNatClampNeg (some q5)) (1 : Int32).toNatClampNeg (some q6)))))))] ++ bw_X1 q5 x5 s0_X1 ++ bw_X1 q6 x6 s0_X1 ++ [(q7, .inl (c7, 4, .inr (.inr (.inr (.inr (va_up (va_up (fun _ => none) (0 : Int32).toNatClampNeg (some q8)) (1 : Int32).toNatClampNeg (some q9)))))))] ++ bw_X2 q8 x8 s0 ++ bw_X2 q9 x9 s0)) rfl ?_
  refine K_iinc hE (v := (2 : Int32)) (L' := [(1, .int (2 : Int32)), (0, .ref h0)]) dd_X4_init_99 (j := 0) rfl (by decide) (Nat.le_of_ble_eq_true rfl) rfl ?_
  refine K_goto hE (tgt := 81) dd_X4_init_102 (by decide) ?_
  refine K_iload_n hE dd_X4_init_81 0 rfl rfl ?_
  refine K_iconst hE (v := (4 : Int32)) dd_X4_init_82 (by decide) ?_
  refine K_geF hE (tgt := 105) dd_X4_init_83 (by decide) (by decide) ?_
  refine K_aload_n hE dd_X4_init_86 1 rfl rfl ?_
  refine K_get hE 0 rfl rfl jc_X4 4 (by decide) fl_RX4_32 (v := .ref q7) rfl dd_X4_init_87 ?_
  refine K_iload_n hE dd_X4_init_90 0 rfl rfl ?_
  refine K_new hE (ci := 2) (fs := [.int 0, .int 0, .int 0, .null]) dd_X4_init_91 rfl jc_X2 cl0_RX4_30 cin_X2 cit_X2 nd_X2 (Nat.le_of_ble_eq_true rfl) (Nat.le_of_ble_eq_true rfl) (fun q10 => ?_)
  refine K_num (cn' := 58) (sn' := 588) rfl rfl ?_
  refine K_dup hE dd_X4_init_94 rfl ?_
  refine K_init hE (cn := 58) (sn := 588) (st := [.ref q10, .int (2 : Int32), .ref q7]) (host := "MothCustoms") (ws := (h0, .inr (4, [.ref q1, .ref q2, .ref q3, .ref q4, .ref q7, .null, .int 0, .int 0])) :: (bw_X3 q1 x1 s0 ++ bw_X1 q2 x2 s0_X1 ++ bw_X1 q3 x3 s0_X1 ++ [(q4, .inl (c4, 2, .inr (.inr (.inr (.inr (va_up (va_up (fun _ => none) (0 : Int32).toNatClampNeg (some q5)) (1 : Int32).toNatClampNeg (some q6)))))))] ++ bw_X1 q5 x5 s0_X1 ++ bw_X1 q6 x6 s0_X1 ++ [(q7, .inl (c7, 4, .inr (.inr (.inr (.inr (va_up (va_up (fun _ => none) (0 : Int32).toNatClampNeg (some q8)) (1 : Int32).toNatClampNeg (some q9)))))))] ++ bw_X2 q8 x8 s0 ++ bw_X2 q9 x9 s0)) (tX2_init E.2.1) m_X2_init (Or.inr (by decide +kernel)) ⟨Nat.le_of_ble_eq_true rfl, Nat.le_of_ble_eq_true rfl⟩ (Nat.le_of_ble_eq_true rfl) (Nat.le_of_ble_eq_true rfl) (Nat.le_of_ble_eq_true rfl) (Nat.le_of_ble_eq_true rfl) dd_X4_init_95 (fun x10 => ?_)
  refine K_ws (ws' := (h0, .inr (4, [.ref q1, .ref q2, .ref q3, .ref q4, .ref q7, .null, .int 0, .int 0])) :: (bw_X3 q1 x1 s0 ++ bw_X1 q2 x2 s0_X1 ++ bw_X1 q3 x3 s0_X1 ++ [(q4, .inl (c4, 2, .inr (.inr (.inr (.inr (va_up (va_up (fun _ => none) (0 : Int32).toNatClampNeg (some q5)) (1 : Int32).toNatClampNeg (some q6)))))))] ++ bw_X1 q5 x5 s0_X1 ++ bw_X1 q6 x6 s0_X1 ++ [(q7, .inl (c7, 4, .inr (.inr (.inr (.inr (va_up (va_up (fun _ => none) (0 : Int32).toNatClampNeg (some q8)) (1 : Int32).toNatClampNeg (some q9)))))))] ++ bw_X2 q8 x8 s0 ++ bw_X2 q9 x9 s0 ++ bw_X2 q10 x10 s0)) (tys' := bt_X3 x1 ++ bt_X1 x2 ++ bt_X1 x3 ++ [(c4, .object "MothCustoms$Shed")] ++ bt_X1 x5 ++ bt_X1 x6 ++ [(c7, .object "MothCustoms$Sheet")] ++ bt_X2 x8 ++ bt_X2 x9 ++ bt_X2 x10) rfl rfl ?_
  refine K_num (cn' := 59) (sn' := 628) rfl rfl ?_
  refine K_astq hE (r := r_X2) (ci := 2) (vs := fs_X2 x10.1 s0) dd_X4_init_98 53 47 58 rfl rfl rfl rfl (vp_in_nI (n := 2) (by decide) (by decide)) (ws' := (h0, .inr (4, [.ref q1, .ref q2, .ref q3, .ref q4, .ref q7, .null, .int 0, .int 0])) :: (bw_X3 q1 x1 s0 ++ bw_X1 q2 x2 s0_X1 ++ bw_X1 q3 x3 s0_X1 ++ [(q4, .inl (c4, 2, .inr (.inr (.inr (.inr (va_up (va_up (fun _ => none) (0 : Int32).toNatClampNeg (some q5)) (1 : Int32).toNatClampNeg (some q6)))))))] ++ bw_X1 q5 x5 s0_X1 ++ bw_X1 q6 x6 s0_X1 ++ [(q7, .inl (c7, 4, .inr (.inr (.inr (.inr (va_up (va_up (va_up (fun _ => none) (0 : Int32).toNatClampNeg (some q8)) (1 : Int32).toNatClampNeg (some q9)) (2 : Int32).toNatClampNeg (some q10)))))))] ++ bw_X2 q8 x8 s0 ++ bw_X2 q9 x9 s0 ++ bw_X2 q10 x10 s0)) rfl ?_
  refine K_iinc hE (v := (3 : Int32)) (L' := [(1, .int (3 : Int32)), (0, .ref h0)]) dd_X4_init_99 (j := 0) rfl (by decide) (Nat.le_of_ble_eq_true rfl) rfl ?_
  refine K_goto hE (tgt := 81) dd_X4_init_102 (by decide) ?_
  refine K_iload_n hE dd_X4_init_81 0 rfl rfl ?_
  refine K_iconst hE (v := (4 : Int32)) dd_X4_init_82 (by decide) ?_
  refine K_geF hE (tgt := 105) dd_X4_init_83 (by decide) (by decide) ?_
  refine K_aload_n hE dd_X4_init_86 1 rfl rfl ?_
  refine K_get hE 0 rfl rfl jc_X4 4 (by decide) fl_RX4_32 (v := .ref q7) rfl dd_X4_init_87 ?_
  refine K_iload_n hE dd_X4_init_90 0 rfl rfl ?_
  refine K_new hE (ci := 2) (fs := [.int 0, .int 0, .int 0, .null]) dd_X4_init_91 rfl jc_X2 cl0_RX4_30 cin_X2 cit_X2 nd_X2 (Nat.le_of_ble_eq_true rfl) (Nat.le_of_ble_eq_true rfl) (fun q11 => ?_)
  refine K_num (cn' := 60) (sn' := 632) rfl rfl ?_
  refine K_dup hE dd_X4_init_94 rfl ?_
  refine K_init hE (cn := 60) (sn := 632) (st := [.ref q11, .int (3 : Int32), .ref q7]) (host := "MothCustoms") (ws := (h0, .inr (4, [.ref q1, .ref q2, .ref q3, .ref q4, .ref q7, .null, .int 0, .int 0])) :: (bw_X3 q1 x1 s0 ++ bw_X1 q2 x2 s0_X1 ++ bw_X1 q3 x3 s0_X1 ++ [(q4, .inl (c4, 2, .inr (.inr (.inr (.inr (va_up (va_up (fun _ => none) (0 : Int32).toNatClampNeg (some q5)) (1 : Int32).toNatClampNeg (some q6)))))))] ++ bw_X1 q5 x5 s0_X1 ++ bw_X1 q6 x6 s0_X1 ++ [(q7, .inl (c7, 4, .inr (.inr (.inr (.inr (va_up (va_up (va_up (fun _ => none) (0 : Int32).toNatClampNeg (some q8)) (1 : Int32).toNatClampNeg (some q9)) (2 : Int32).toNatClampNeg (some q10)))))))] ++ bw_X2 q8 x8 s0 ++ bw_X2 q9 x9 s0 ++ bw_X2 q10 x10 s0)) (tX2_init E.2.1) m_X2_init (Or.inr (by decide +kernel)) ⟨Nat.le_of_ble_eq_true rfl, Nat.le_of_ble_eq_true rfl⟩ (Nat.le_of_ble_eq_true rfl) (Nat.le_of_ble_eq_true rfl) (Nat.le_of_ble_eq_true rfl) (Nat.le_of_ble_eq_true rfl) dd_X4_init_95 (fun x11 => ?_)
  refine K_ws (ws' := (h0, .inr (4, [.ref q1, .ref q2, .ref q3, .ref q4, .ref q7, .null, .int 0, .int 0])) :: (bw_X3 q1 x1 s0 ++ bw_X1 q2 x2 s0_X1 ++ bw_X1 q3 x3 s0_X1 ++ [(q4, .inl (c4, 2, .inr (.inr (.inr (.inr (va_up (va_up (fun _ => none) (0 : Int32).toNatClampNeg (some q5)) (1 : Int32).toNatClampNeg (some q6)))))))] ++ bw_X1 q5 x5 s0_X1 ++ bw_X1 q6 x6 s0_X1 ++ [(q7, .inl (c7, 4, .inr (.inr (.inr (.inr (va_up (va_up (va_up (fun _ => none) (0 : Int32).toNatClampNeg (some q8)) (1 : Int32).toNatClampNeg (some q9)) (2 : Int32).toNatClampNeg (some q10)))))))] ++ bw_X2 q8 x8 s0 ++ bw_X2 q9 x9 s0 ++ bw_X2 q10 x10 s0 ++ bw_X2 q11 x11 s0)) (tys' := bt_X3 x1 ++ bt_X1 x2 ++ bt_X1 x3 ++ [(c4, .object "MothCustoms$Shed")] ++ bt_X1 x5 ++ bt_X1 x6 ++ [(c7, .object "MothCustoms$Sheet")] ++ bt_X2 x8 ++ bt_X2 x9 ++ bt_X2 x10 ++ bt_X2 x11) rfl rfl ?_
  refine K_num (cn' := 61) (sn' := 672) rfl rfl ?_
  refine K_astq hE (r := r_X2) (ci := 2) (vs := fs_X2 x11.1 s0) dd_X4_init_98 53 47 60 rfl rfl rfl rfl (vp_in_nI (n := 3) (by decide) (by decide)) (ws' := (h0, .inr (4, [.ref q1, .ref q2, .ref q3, .ref q4, .ref q7, .null, .int 0, .int 0])) :: (bw_X3 q1 x1 s0 ++ bw_X1 q2 x2 s0_X1 ++ bw_X1 q3 x3 s0_X1 ++ [(q4, .inl (c4, 2, .inr (.inr (.inr (.inr (va_up (va_up (fun _ => none) (0 : Int32).toNatClampNeg (some q5)) (1 : Int32).toNatClampNeg (some q6)))))))] ++ bw_X1 q5 x5 s0_X1 ++ bw_X1 q6 x6 s0_X1 ++ [(q7, .inl (c7, 4, .inr (.inr (.inr (.inr (va_up (va_up (va_up (va_up (fun _ => none) (0 : Int32).toNatClampNeg (some q8)) (1 : Int32).toNatClampNeg (some q9)) (2 : Int32).toNatClampNeg (some q10)) (3 : Int32).toNatClampNeg (some q11)))))))] ++ bw_X2 q8 x8 s0 ++ bw_X2 q9 x9 s0 ++ bw_X2 q10 x10 s0 ++ bw_X2 q11 x11 s0)) rfl ?_
  refine K_iinc hE (v := (4 : Int32)) (L' := [(1, .int (4 : Int32)), (0, .ref h0)]) dd_X4_init_99 (j := 0) rfl (by decide) (Nat.le_of_ble_eq_true rfl) rfl ?_
  refine K_goto hE (tgt := 81) dd_X4_init_102 (by decide) ?_
  refine K_iload_n hE dd_X4_init_81 0 rfl rfl ?_
  refine K_iconst hE (v := (4 : Int32)) dd_X4_init_82 (by decide) ?_
  refine K_geT hE (tgt := 105) dd_X4_init_83 (by decide) (by decide) ?_
  refine K_aload_n hE dd_X4_init_105 1 rfl rfl ?_
  refine K_new hE (ci := 0) (fs := [.null, .null, .null, .int 0, .int 0, .int 0]) dd_X4_init_106 rfl jc_X0 cl0_RX4_37 cin_X0 cit_X0 nd_X0 (Nat.le_of_ble_eq_true rfl) (Nat.le_of_ble_eq_true rfl) (fun q12 => ?_)
  refine K_num (cn' := 62) (sn' := 678) rfl rfl ?_
  refine K_dup hE dd_X4_init_109 rfl ?_
  refine K_init hE (cn := 62) (sn := 678) (st := [.ref q12, .ref h0]) (host := "MothCustoms") (ws := (h0, .inr (4, [.ref q1, .ref q2, .ref q3, .ref q4, .ref q7, .null, .int 0, .int 0])) :: (bw_X3 q1 x1 s0 ++ bw_X1 q2 x2 s0_X1 ++ bw_X1 q3 x3 s0_X1 ++ [(q4, .inl (c4, 2, .inr (.inr (.inr (.inr (va_up (va_up (fun _ => none) (0 : Int32).toNatClampNeg (some q5)) (1 : Int32).toNatClampNeg (some q6)))))))] ++ bw_X1 q5 x5 s0_X1 ++ bw_X1 q6 x6 s0_X1 ++ [(q7, .inl (c7, 4, .inr (.inr (.inr (.inr (va_up (va_up (va_up (va_up (fun _ => none) (0 : Int32).toNatClampNeg (some q8)) (1 : Int32).toNatClampNeg (some q9)) (2 : Int32).toNatClampNeg (some q10)) (3 : Int32).toNatClampNeg (some q11)))))))] ++ bw_X2 q8 x8 s0 ++ bw_X2 q9 x9 s0 ++ bw_X2 q10 x10 s0 ++ bw_X2 q11 x11 s0)) (tX0_init E.2.1) m_X0_init (Or.inr (by decide +kernel)) ⟨Nat.le_of_ble_eq_true rfl, Nat.le_of_ble_eq_true rfl⟩ (Nat.le_of_ble_eq_true rfl) (Nat.le_of_ble_eq_true rfl) (Nat.le_of_ble_eq_true rfl) (Nat.le_of_ble_eq_true rfl) dd_X4_init_110 (fun x12 => ?_)
  refine K_ws (ws' := (h0, .inr (4, [.ref q1, .ref q2, .ref q3, .ref q4, .ref q7, .null, .int 0, .int 0])) :: (bw_X3 q1 x1 s0 ++ bw_X1 q2 x2 s0_X1 ++ bw_X1 q3 x3 s0_X1 ++ [(q4, .inl (c4, 2, .inr (.inr (.inr (.inr (va_up (va_up (fun _ => none) (0 : Int32).toNatClampNeg (some q5)) (1 : Int32).toNatClampNeg (some q6)))))))] ++ bw_X1 q5 x5 s0_X1 ++ bw_X1 q6 x6 s0_X1 ++ [(q7, .inl (c7, 4, .inr (.inr (.inr (.inr (va_up (va_up (va_up (va_up (fun _ => none) (0 : Int32).toNatClampNeg (some q8)) (1 : Int32).toNatClampNeg (some q9)) (2 : Int32).toNatClampNeg (some q10)) (3 : Int32).toNatClampNeg (some q11)))))))] ++ bw_X2 q8 x8 s0 ++ bw_X2 q9 x9 s0 ++ bw_X2 q10 x10 s0 ++ bw_X2 q11 x11 s0 ++ bw_X0 q12 x12 s0 s0_X1)) (tys' := bt_X3 x1 ++ bt_X1 x2 ++ bt_X1 x3 ++ [(c4, .object "MothCustoms$Shed")] ++ bt_X1 x5 ++ bt_X1 x6 ++ [(c7, .object "MothCustoms$Sheet")] ++ bt_X2 x8 ++ bt_X2 x9 ++ bt_X2 x10 ++ bt_X2 x11 ++ bt_X0 x12) rfl rfl ?_
  refine K_num (cn' := 76) (sn' := 767) rfl rfl ?_
  refine K_putF hE rfl 0 rfl rfl jc_X4 5 (by decide) fl_RX4_40 rfl rfl rfl rfl (Nat.le_of_ble_eq_true rfl) dd_X4_init_113 (ws' := (h0, .inr (4, [.ref q1, .ref q2, .ref q3, .ref q4, .ref q7, .ref q12, .int 0, .int 0])) :: (bw_X3 q1 x1 s0 ++ bw_X1 q2 x2 s0_X1 ++ bw_X1 q3 x3 s0_X1 ++ [(q4, .inl (c4, 2, .inr (.inr (.inr (.inr (va_up (va_up (fun _ => none) (0 : Int32).toNatClampNeg (some q5)) (1 : Int32).toNatClampNeg (some q6)))))))] ++ bw_X1 q5 x5 s0_X1 ++ bw_X1 q6 x6 s0_X1 ++ [(q7, .inl (c7, 4, .inr (.inr (.inr (.inr (va_up (va_up (va_up (va_up (fun _ => none) (0 : Int32).toNatClampNeg (some q8)) (1 : Int32).toNatClampNeg (some q9)) (2 : Int32).toNatClampNeg (some q10)) (3 : Int32).toNatClampNeg (some q11)))))))] ++ bw_X2 q8 x8 s0 ++ bw_X2 q9 x9 s0 ++ bw_X2 q10 x10 s0 ++ bw_X2 q11 x11 s0 ++ bw_X0 q12 x12 s0 s0_X1)) rfl ?_
  refine K_qeq 28 rfl (g := fun j => some (((fun k => [h0, q1, q2, q3, q5, q6, q8, q9, q10, q11, q12, x12.1].getD k 0)) (4 + j))) (fun j hj => by have h : j = 0 ∨ j = 1 := (by omega); rcases h with rfl | rfl <;> rfl) (ws' := (h0, .inr (4, [.ref q1, .ref q2, .ref q3, .ref q4, .ref q7, .ref q12, .int 0, .int 0])) :: (bw_X3 q1 x1 s0 ++ bw_X1 q2 x2 s0_X1 ++ bw_X1 q3 x3 s0_X1 ++ [(q4, .inl (c4, 2, .inr (.inr (.inr (.inr (fun j => some (((fun k => [h0, q1, q2, q3, q5, q6, q8, q9, q10, q11, q12, x12.1].getD k 0)) (4 + j))))))))] ++ bw_X1 q5 x5 s0_X1 ++ bw_X1 q6 x6 s0_X1 ++ [(q7, .inl (c7, 4, .inr (.inr (.inr (.inr (va_up (va_up (va_up (va_up (fun _ => none) (0 : Int32).toNatClampNeg (some q8)) (1 : Int32).toNatClampNeg (some q9)) (2 : Int32).toNatClampNeg (some q10)) (3 : Int32).toNatClampNeg (some q11)))))))] ++ bw_X2 q8 x8 s0 ++ bw_X2 q9 x9 s0 ++ bw_X2 q10 x10 s0 ++ bw_X2 q11 x11 s0 ++ bw_X0 q12 x12 s0 s0_X1)) rfl ?_
  refine K_qeq 53 rfl (g := fun j => some (((fun k => [h0, q1, q2, q3, q5, q6, q8, q9, q10, q11, q12, x12.1].getD k 0)) (6 + j))) (fun j hj => by have h : j = 0 ∨ j = 1 ∨ j = 2 ∨ j = 3 := (by omega); rcases h with rfl | rfl | rfl | rfl <;> rfl) (ws' := (h0, .inr (4, [.ref q1, .ref q2, .ref q3, .ref q4, .ref q7, .ref q12, .int 0, .int 0])) :: (bw_X3 q1 x1 s0 ++ bw_X1 q2 x2 s0_X1 ++ bw_X1 q3 x3 s0_X1 ++ [(q4, .inl (c4, 2, .inr (.inr (.inr (.inr (fun j => some (((fun k => [h0, q1, q2, q3, q5, q6, q8, q9, q10, q11, q12, x12.1].getD k 0)) (4 + j))))))))] ++ bw_X1 q5 x5 s0_X1 ++ bw_X1 q6 x6 s0_X1 ++ [(q7, .inl (c7, 4, .inr (.inr (.inr (.inr (fun j => some (((fun k => [h0, q1, q2, q3, q5, q6, q8, q9, q10, q11, q12, x12.1].getD k 0)) (6 + j))))))))] ++ bw_X2 q8 x8 s0 ++ bw_X2 q9 x9 s0 ++ bw_X2 q10 x10 s0 ++ bw_X2 q11 x11 s0 ++ bw_X0 q12 x12 s0 s0_X1)) rfl ?_
  exact hret ((fun k => [h0, q1, q2, q3, q5, q6, q8, q9, q10, q11, q12, x12.1].getD k 0), (fun k => [((fun k => [0, 0, 0, q4, q7].getD k 0), (fun k => [c4, c4, c4, c4, c7].getD k c4)), x1, x2, x3, x5, x6, x8, x9, x10, x11, x12.2.2, x12.2.1].getD k (x2))) 116 _ _ dd_X4_init_116
