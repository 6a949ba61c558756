set_option maxHeartbeats 8000000 in
set_option maxRecDepth 100000 in
theorem bv_X5 (D : va_G) (K Z : Nat → Nat) (o : Nat) (x : (Nat → Nat) × (Nat → ClassId)) : vX5 (D, vwCl, bt_X5 x, fun S => bw_X5 o x S, K, Z) o x.1 :=
  ⟨⟨0, 5, rfl, fun X => ⟨rfl, fun k hk v => by
    simp only [sc_X5, List.mem_cons, List.not_mem_nil, or_false] at hk
    rcases hk with rfl | rfl | rfl | rfl | rfl | rfl | rfl | rfl | rfl | rfl | rfl | rfl | rfl | rfl | rfl <;> rfl⟩⟩, fun x hx => by
    simp only [ar_X5, List.mem_cons, List.not_mem_nil, or_false] at hx
    rcases hx with rfl | rfl | rfl | rfl | rfl | rfl | rfl | rfl | rfl | rfl
    · exact ⟨1, 0, x.2 0, rfl, fun X => ⟨rfl, fun f => rfl⟩⟩
    · exact ⟨2, 1, x.2 1, rfl, fun X => ⟨rfl, fun f => rfl⟩⟩
    · exact ⟨3, 2, x.2 2, rfl, fun X => ⟨rfl, fun f => rfl⟩⟩
    · exact ⟨4, 3, x.2 5, rfl, fun X => ⟨rfl, fun f => rfl⟩⟩
    · exact ⟨5, 4, x.2 11, rfl, fun X => ⟨rfl, fun f => rfl⟩⟩
    · exact ⟨6, 5, x.2 19, rfl, fun X => ⟨rfl, fun f => rfl⟩⟩
    · exact ⟨7, 6, x.2 20, rfl, fun X => ⟨rfl, fun f => rfl⟩⟩
    · exact ⟨8, 7, x.2 21, rfl, fun X => ⟨rfl, fun f => rfl⟩⟩
    · exact ⟨9, 8, x.2 22, rfl, fun X => ⟨rfl, fun f => rfl⟩⟩
    · exact ⟨10, 9, x.2 24, rfl, fun X => ⟨rfl, fun f => rfl⟩⟩⟩
theorem dd_X5_init_83 : jd cX5_init 83 (.iconst 0) 1 84 := ⟨by decide +kernel, rfl⟩
theorem dd_X5_init_84 : jd cX5_init 84 (.istore_n 1) 1 85 := ⟨by decide +kernel, rfl⟩
theorem dd_X5_init_85 : jd cX5_init 85 (.iload_n 1) 1 86 := ⟨by decide +kernel, rfl⟩
theorem dd_X5_init_86 : jd cX5_init 86 (.iconst 4) 1 87 := ⟨by decide +kernel, rfl⟩
theorem dd_X5_init_90 : jd cX5_init 90 (.aload_n 0) 1 91 := ⟨by decide +kernel, rfl⟩
theorem dd_X5_init_91 : jd cX5_init 91 (.getfield 29) 3 94 := ⟨by decide +kernel, rfl⟩
theorem dd_X5_init_94 : jd cX5_init 94 (.iload_n 1) 1 95 := ⟨by decide +kernel, rfl⟩
theorem dd_X5_init_95 : jd cX5_init 95 (.bipush (-4)) 2 97 := ⟨by decide +kernel, rfl⟩
theorem dd_X5_init_97 : jd cX5_init 97 (.iastore) 1 98 := ⟨by decide +kernel, rfl⟩
theorem dd_X5_init_98 : jd cX5_init 98 (.iinc 1 1) 3 101 := ⟨by decide +kernel, rfl⟩
theorem dd_X5_init_101 : jd cX5_init 101 (.goto (-16)) 3 104 := ⟨by decide +kernel, rfl⟩
theorem dd_X5_init_87 : jd cX5_init 87 (.if_icmp .ge 17) 3 90 := ⟨by decide +kernel, rfl⟩
theorem dd_X5_init_104 : jd cX5_init 104 (.aload_n 0) 1 105 := ⟨by decide +kernel, rfl⟩
theorem dd_X5_init_105 : jd cX5_init 105 (.invokevirtual 41) 3 108 := ⟨by decide +kernel, rfl⟩
theorem dd_X5_init_108 : jd cX5_init 108 (.aload_n 0) 1 109 := ⟨by decide +kernel, rfl⟩
theorem dd_X5_init_109 : jd cX5_init 109 (.invokevirtual 44) 3 112 := ⟨by decide +kernel, rfl⟩
theorem dd_X5_init_112 : jd cX5_init 112 (.return_) 1 113 := ⟨by decide +kernel, rfl⟩
def fX5_init_L85  (k104 : M2 → Option (M2)) : Nat → Int32 → M2 → Option (M2)
  | 0, _, _ => none
  | n_ + 1, v1, S2 =>
    if (4 : Int32) ≤ v1 then
      k104 S2
    else
      bnd v1 4 <|
      lt (va_up S2 20 (upd (S2 20) v1.toNatClampNeg (-4 : Int32))) fun S3 =>
      lt (v1 + (1 : Int32)) fun x4 =>
      fX5_init_L85 k104 n_ x4 S3

set_option maxHeartbeats 4000000 in
set_option maxRecDepth 100000 in
theorem tX5_init_L85 {V : JV M2} {b : Nat} {a : Nat → Nat} (hv : vX5 V b a)  {E : JE (M2) Unit} (hE : JOk V E cX5_init yX5_init.cls 2 7 none jj_v) {k104 : M2 → Option (M2)} (hk104 : ∀ p, J V E (fun q => ((), q)) (k104 p) 104 [(0, .ref b)] [] p) : ∀ (n_ : Nat) (v1 : Int32) (S2 : M2), J V E (fun q => ((), q)) (fX5_init_L85 k104 n_ v1 S2) 85 [(0, .ref b), (1, .int v1)] [] S2 := by
  intro n_
  induction n_ with
  | zero =>
    intros
    exact J_none
  | succ n_ ih =>
    intros v1 S2
    rw [fX5_init_L85]
    refine J_iload_n hE dd_X5_init_85 1 rfl rfl ?_
    refine J_iconst hE (v := (4 : Int32)) dd_X5_init_86 (by decide) ?_
    refine J_icmp_ge hE (tgt := 104) dd_X5_init_87 (by decide) (fun c5 => ?_) (fun c5 => ?_)
    · refine J_sub [0] rfl ?_
      exact hk104 S2
    · refine J_aload_n hE dd_X5_init_90 0 rfl rfl ?_
      refine J_get hE (hv.ob _) jc_X5 20 (by decide) fl_RX5_29 (v := .ref (a 20)) rfl dd_X5_init_91 ?_
      refine J_iload_n hE dd_X5_init_94 1 rfl rfl ?_
      refine J_bipush hE (v := (-4 : Int32)) dd_X5_init_95 (by decide) ?_
      refine J_ast hE hv 20 (N := 4) (by decide) dd_X5_init_97 ?_
      refine J_letS (fun S3 => ?_)
      refine J_iincL hE (v := (v1 + (1 : Int32))) (Lf := fun x4 => [(1, .int x4), (0, .ref b)]) dd_X5_init_98 (j := 1) rfl (congrArg (v1 + ·) (by decide)) (Nat.le_of_ble_eq_true rfl) (fun _ => rfl) (fun x4 => ?_)
      refine J_goto hE (tgt := 85) dd_X5_init_101 (by decide) ?_
      refine J_sub [1, 0] rfl ?_
      exact ih x4 S3
def fX5_init (S : M2) : Option M2 :=
  fX5_init_L85 
    (fun p6 =>
      (fX5_firstDraft  p6).bind fun q7 =>
      lt (q7) fun S8 =>
      (fX5_keepDraft  S8).bind fun q9 =>
      lt (q9) fun S10 =>
      some S10)
    400 (0 : Int32) S
set_option maxHeartbeats 4000000 in
set_option maxRecDepth 100000 in
theorem tX5_tail {V : JV M2} {b : Nat} {a : Nat → Nat} (hv : vX5 V b a) {E : JE (M2) Unit} (hE : JOk V E cX5_init yX5_init.cls 2 7 none jj_v) (S : M2) : J V E (fun q => ((), q)) (fX5_init S) 83 [(0, .ref b)] [] S := by
  unfold fX5_init
  refine J_iconst hE (v := (0 : Int32)) dd_X5_init_83 (by decide) ?_
  refine J_istore_n hE (L' := [(1, .int (0 : Int32)), (0, .ref b)]) dd_X5_init_84 (Nat.le_of_ble_eq_true rfl) rfl rfl ?_
  refine J_sub [1, 0] rfl ?_
  refine tX5_init_L85 hv  hE (fun p6 => ?_) 400 (0 : Int32) S
  show J V E _ _ 104 [(0, .ref b)] [] p6
  refine J_aload_n hE dd_X5_init_104 0 rfl rfl ?_
  refine J_invVwv hE (e := fun x => x) (As := []) (st := []) (tX5_firstDraft E.2.1 hv p6 ) (hv.ob _) m_X5_firstDraft rfl ml_RX5_41 (Nat.le_of_ble_eq_true rfl) (Nat.le_of_ble_eq_true rfl) rfl (Nat.le_of_ble_eq_true rfl) dd_X5_init_105 (fun q7 => ?_)
  refine J_letS (fun S8 => ?_)
  refine J_aload_n hE dd_X5_init_108 0 rfl rfl ?_
  refine J_invVwv hE (e := fun x => x) (As := []) (st := []) (tX5_keepDraft E.2.1 hv S8 ) (hv.ob _) m_X5_keepDraft rfl ml_RX5_44 (Nat.le_of_ble_eq_true rfl) (Nat.le_of_ble_eq_true rfl) rfl (Nat.le_of_ble_eq_true rfl) dd_X5_init_109 (fun q9 => ?_)
  refine J_letS (fun S10 => ?_)
  exact J_vret hE dd_X5_init_112 rfl rfl
theorem dd_X5_init_0 : jd cX5_init 0 (.aload_n 0) 1 1 := ⟨by decide +kernel, rfl⟩
theorem dd_X5_init_1 : jd cX5_init 1 (.invokespecial 1) 3 4 := ⟨by decide +kernel, rfl⟩
theorem mo_RX5_1 : (Cond.methodLink "MothCustomsModel" 1 Lib.objectInit : Cond) ∈ jj_tb := jj_m (List.mem_of_getElem? (i := 796) (by decide +kernel)) rfl
theorem dd_X5_init_4 : jd cX5_init 4 (.aload_n 0) 1 5 := ⟨by decide +kernel, rfl⟩
theorem dd_X5_init_5 : jd cX5_init 5 (.sipush 186) 3 8 := ⟨by decide +kernel, rfl⟩
theorem dd_X5_init_8 : jd cX5_init 8 (.newarray .int) 2 10 := ⟨by decide +kernel, rfl⟩
theorem dd_X5_init_10 : jd cX5_init 10 (.putfield 7) 3 13 := ⟨by decide +kernel, rfl⟩
theorem dd_X5_init_13 : jd cX5_init 13 (.aload_n 0) 1 14 := ⟨by decide +kernel, rfl⟩
theorem dd_X5_init_14 : jd cX5_init 14 (.bipush 62) 2 16 := ⟨by decide +kernel, rfl⟩
theorem dd_X5_init_16 : jd cX5_init 16 (.newarray .int) 2 18 := ⟨by decide +kernel, rfl⟩
theorem dd_X5_init_18 : jd cX5_init 18 (.putfield 13) 3 21 := ⟨by decide +kernel, rfl⟩
theorem dd_X5_init_21 : jd cX5_init 21 (.aload_n 0) 1 22 := ⟨by decide +kernel, rfl⟩
theorem dd_X5_init_22 : jd cX5_init 22 (.iconst 2) 1 23 := ⟨by decide +kernel, rfl⟩
theorem dd_X5_init_23 : jd cX5_init 23 (.newarray .boolean) 2 25 := ⟨by decide +kernel, rfl⟩
theorem dd_X5_init_25 : jd cX5_init 25 (.putfield 16) 3 28 := ⟨by decide +kernel, rfl⟩
theorem dd_X5_init_28 : jd cX5_init 28 (.aload_n 0) 1 29 := ⟨by decide +kernel, rfl⟩
theorem dd_X5_init_29 : jd cX5_init 29 (.bipush 62) 2 31 := ⟨by decide +kernel, rfl⟩
theorem dd_X5_init_31 : jd cX5_init 31 (.newarray .int) 2 33 := ⟨by decide +kernel, rfl⟩
theorem dd_X5_init_33 : jd cX5_init 33 (.putfield 20) 3 36 := ⟨by decide +kernel, rfl⟩
theorem dd_X5_init_36 : jd cX5_init 36 (.aload_n 0) 1 37 := ⟨by decide +kernel, rfl⟩
theorem dd_X5_init_37 : jd cX5_init 37 (.sipush 160) 3 40 := ⟨by decide +kernel, rfl⟩
theorem dd_X5_init_40 : jd cX5_init 40 (.newarray .int) 2 42 := ⟨by decide +kernel, rfl⟩
theorem dd_X5_init_42 : jd cX5_init 42 (.putfield 23) 3 45 := ⟨by decide +kernel, rfl⟩
theorem dd_X5_init_45 : jd cX5_init 45 (.aload_n 0) 1 46 := ⟨by decide +kernel, rfl⟩
theorem dd_X5_init_46 : jd cX5_init 46 (.iconst 5) 1 47 := ⟨by decide +kernel, rfl⟩
theorem dd_X5_init_47 : jd cX5_init 47 (.newarray .int) 2 49 := ⟨by decide +kernel, rfl⟩
theorem dd_X5_init_49 : jd cX5_init 49 (.putfield 26) 3 52 := ⟨by decide +kernel, rfl⟩
theorem dd_X5_init_52 : jd cX5_init 52 (.aload_n 0) 1 53 := ⟨by decide +kernel, rfl⟩
theorem dd_X5_init_53 : jd cX5_init 53 (.iconst 4) 1 54 := ⟨by decide +kernel, rfl⟩
theorem dd_X5_init_54 : jd cX5_init 54 (.newarray .int) 2 56 := ⟨by decide +kernel, rfl⟩
theorem dd_X5_init_56 : jd cX5_init 56 (.putfield 29) 3 59 := ⟨by decide +kernel, rfl⟩
theorem dd_X5_init_59 : jd cX5_init 59 (.aload_n 0) 1 60 := ⟨by decide +kernel, rfl⟩
theorem dd_X5_init_60 : jd cX5_init 60 (.iconst 4) 1 61 := ⟨by decide +kernel, rfl⟩
theorem dd_X5_init_61 : jd cX5_init 61 (.newarray .int) 2 63 := ⟨by decide +kernel, rfl⟩
theorem dd_X5_init_63 : jd cX5_init 63 (.putfield 32) 3 66 := ⟨by decide +kernel, rfl⟩
theorem dd_X5_init_66 : jd cX5_init 66 (.aload_n 0) 1 67 := ⟨by decide +kernel, rfl⟩
theorem dd_X5_init_67 : jd cX5_init 67 (.sipush 160) 3 70 := ⟨by decide +kernel, rfl⟩
theorem dd_X5_init_70 : jd cX5_init 70 (.newarray .int) 2 72 := ⟨by decide +kernel, rfl⟩
theorem dd_X5_init_72 : jd cX5_init 72 (.putfield 35) 3 75 := ⟨by decide +kernel, rfl⟩
theorem dd_X5_init_75 : jd cX5_init 75 (.aload_n 0) 1 76 := ⟨by decide +kernel, rfl⟩
theorem dd_X5_init_76 : jd cX5_init 76 (.bipush 62) 2 78 := ⟨by decide +kernel, rfl⟩
theorem dd_X5_init_78 : jd cX5_init 78 (.newarray .int) 2 80 := ⟨by decide +kernel, rfl⟩
theorem dd_X5_init_80 : jd cX5_init 80 (.putfield 38) 3 83 := ⟨by decide +kernel, rfl⟩
def s1_X5 : M2 := (fX5_init s0).getD s0
theorem s1_ok : fX5_init s0 = some s1_X5 := by
  have h : (fX5_init s0).isSome = true := by decide +kernel
  unfold s1_X5
  cases hq : fX5_init s0 with
  | none => rw [hq] at h; cases h
  | some q => rfl
set_option maxHeartbeats 8000000 in
set_option maxRecDepth 100000 in
theorem tX5_init (l : Launch) : JI l yX5_init cX5_init 2 8 10 707 5 [.null, .null, .null, .int 0, .int 0, .null, .int 0, .int 0, .int 0, .int 0, .int 0, .null, .int 0, .int 0, .int 0, .int 0, .int 0, .int 0, .int 0, .null, .null, .null, .null, .int 0, .null] (fun o x => bw_X5 o x s1_X5) bt_X5 := by
  intro D K Z h0 sz
  refine Met.ofW (cc := cX5_init) (maxL := 2) (ret := none) (by decide) rfl ?_
  intro p e s m args below meth c s₁ B hml hv
  obtain ⟨rfl, hsz, hP, hK, hD0, hSt, hAO1, hAO2⟩ := hv
  subst hsz
  have hts0 := atoms_spec (ws := .code yX5_init cX5_init 2 none :: jj_tb) B.pre
  have hts : ∀ w ∈ jj_tb, w.before [Value.ref h0].toArray s = true := fun w hw => hts0 w (List.mem_cons_of_mem _ hw)
  have hD := hD0.self (sz := s.heap.size)
  have hl := lv_entry [.ref h0] (n := 2) (Nat.le_of_ble_eq_true rfl)
  rw [lg_entry_eq]
  have hlocks := B.notSynchronized
  generalize hAe : va_A [(h0, .inr (5, [.null, .null, .null, .int 0, .int 0, .null, .int 0, .int 0, .int 0, .int 0, .int 0, .null, .int 0, .int 0, .int 0, .int 0, .int 0, .int 0, .int 0, .null, .null, .null, .null, .int 0, .null]))] s.heap.size = A at hD hSt ⊢
  have hA : ∀ q : Nat, s.heap.size ≤ q → A q := fun q h => by rw [← hAe]; exact Or.inr h
  generalize hQ : MQ below _ _ s _ _ _ = Q
  have hE : KOk (p, l, e, jj_Ra 8 10 707, s, m, [Value.ref h0].toArray, below, meth, c, 2, A, Q, D, K, Z) cX5_init yX5_init.cls 2 yX5_init.name (jj_Ra 8 10 707) := ⟨B.exec, B.bytes, ⟨hml, rfl⟩, findClass_of_methodNamed B.named, hts, ⟨(name_of_methodNamed B.named B.method).1, rfl⟩, hA, hSt, hAO1, hAO2⟩
  refine (?_ : KJ (p, l, e, jj_Ra 8 10 707, s, m, [Value.ref h0].toArray, below, meth, c, 2, A, Q, D, K, Z) [(h0, .inr (5, [.null, .null, .null, .int 0, .int 0, .null, .int 0, .int 0, .int 0, .int 0, .int 0, .null, .int 0, .int 0, .int 0, .int 0, .int 0, .int 0, .int 0, .null, .null, .null, .null, .int 0, .null]))] [] 0 0 0 [(0, .ref h0)] []) _ _ _ hK hP hD va_S.rf hl
  refine K_aload_n hE dd_X5_init_0 0 rfl rfl ?_
  refine K_obj hE dd_X5_init_1 mo_RX5_1 (Nat.le_of_ble_eq_true rfl) (Nat.le_of_ble_eq_true rfl) ?_
  refine K_aload_n hE dd_X5_init_4 0 rfl rfl ?_
  refine K_sipush hE (v := (186 : Int32)) dd_X5_init_5 (by decide) ?_
  refine K_newa hE (at0 := .int) (ty := .int) (N := 186) dd_X5_init_8 rfl jw_aI (fun cA => vp_cell_i _ _ _) (by decide) (by decide) (by decide) (Nat.le_of_ble_eq_true rfl) (Nat.le_of_ble_eq_true rfl) (fun q1 c1 => ?_)
  refine K_ws (ws' := (h0, .inr (5, [.null, .null, .null, .int 0, .int 0, .null, .int 0, .int 0, .int 0, .int 0, .int 0, .null, .int 0, .int 0, .int 0, .int 0, .int 0, .int 0, .int 0, .null, .null, .null, .null, .int 0, .null])) :: ([(q1, .inl (c1, 186, .inl (fun _ => 0)))])) (tys' := [(c1, .int)]) rfl rfl ?_
  refine K_num (cn' := 1) (sn' := 186) rfl rfl ?_
  refine K_putF hE rfl 0 rfl rfl jc_X5 0 (by decide) fl_RX5_7 rfl rfl rfl rfl (Nat.le_of_ble_eq_true rfl) dd_X5_init_10 (ws' := (h0, .inr (5, [.ref q1, .null, .null, .int 0, .int 0, .null, .int 0, .int 0, .int 0, .int 0, .int 0, .null, .int 0, .int 0, .int 0, .int 0, .int 0, .int 0, .int 0, .null, .null, .null, .null, .int 0, .null])) :: ([(q1, .inl (c1, 186, .inl (fun _ => 0)))])) rfl ?_
  refine K_aload_n hE dd_X5_init_13 0 rfl rfl ?_
  refine K_bipush hE (v := (62 : Int32)) dd_X5_init_14 (by decide) ?_
  refine K_newa hE (at0 := .int) (ty := .int) (N := 62) dd_X5_init_16 rfl jw_aI (fun cA => vp_cell_i _ _ _) (by decide) (by decide) (by decide) (Nat.le_of_ble_eq_true rfl) (Nat.le_of_ble_eq_true rfl) (fun q2 c2 => ?_)
  refine K_ws (ws' := (h0, .inr (5, [.ref q1, .null, .null, .int 0, .int 0, .null, .int 0, .int 0, .int 0, .int 0, .int 0, .null, .int 0, .int 0, .int 0, .int 0, .int 0, .int 0, .int 0, .null, .null, .null, .null, .int 0, .null])) :: ([(q1, .inl (c1, 186, .inl (fun _ => 0)))] ++ [(q2, .inl (c2, 62, .inl (fun _ => 0)))])) (tys' := [(c1, .int)] ++ [(c2, .int)]) rfl rfl ?_
  refine K_num (cn' := 2) (sn' := 248) rfl rfl ?_
  refine K_putF hE rfl 0 rfl rfl jc_X5 1 (by decide) fl_RX5_13 rfl rfl rfl rfl (Nat.le_of_ble_eq_true rfl) dd_X5_init_18 (ws' := (h0, .inr (5, [.ref q1, .ref q2, .null, .int 0, .int 0, .null, .int 0, .int 0, .int 0, .int 0, .int 0, .null, .int 0, .int 0, .int 0, .int 0, .int 0, .int 0, .int 0, .null, .null, .null, .null, .int 0, .null])) :: ([(q1, .inl (c1, 186, .inl (fun _ => 0)))] ++ [(q2, .inl (c2, 62, .inl (fun _ => 0)))])) rfl ?_
  refine K_aload_n hE dd_X5_init_21 0 rfl rfl ?_
  refine K_iconst hE (v := (2 : Int32)) dd_X5_init_22 (by decide) ?_
  refine K_newa hE (at0 := .boolean) (ty := .boolean) (N := 2) dd_X5_init_23 rfl jw_aZ (fun cA => vp_cell_i _ _ _) (by decide) (by decide) (by decide) (Nat.le_of_ble_eq_true rfl) (Nat.le_of_ble_eq_true rfl) (fun q3 c3 => ?_)
  refine K_ws (ws' := (h0, .inr (5, [.ref q1, .ref q2, .null, .int 0, .int 0, .null, .int 0, .int 0, .int 0, .int 0, .int 0, .null, .int 0, .int 0, .int 0, .int 0, .int 0, .int 0, .int 0, .null, .null, .null, .null, .int 0, .null])) :: ([(q1, .inl (c1, 186, .inl (fun _ => 0)))] ++ [(q2, .inl (c2, 62, .inl (fun _ => 0)))] ++ [(q3, .inl (c3, 2, .inl (fun _ => 0)))])) (tys' := [(c1, .int)] ++ [(c2, .int)] ++ [(c3, .boolean)]) rfl rfl ?_
  refine K_num (cn' := 3) (sn' := 250) rfl rfl ?_
  refine K_putF hE rfl 0 rfl rfl jc_X5 2 (by decide) fl_RX5_16 rfl rfl rfl rfl (Nat.le_of_ble_eq_true rfl) dd_X5_init_25 (ws' := (h0, .inr (5, [.ref q1, .ref q2, .ref q3, .int 0, .int 0, .null, .int 0, .int 0, .int 0, .int 0, .int 0, .null, .int 0, .int 0, .int 0, .int 0, .int 0, .int 0, .int 0, .null, .null, .null, .null, .int 0, .null])) :: ([(q1, .inl (c1, 186, .inl (fun _ => 0)))] ++ [(q2, .inl (c2, 62, .inl (fun _ => 0)))] ++ [(q3, .inl (c3, 2, .inl (fun _ => 0)))])) rfl ?_
  refine K_aload_n hE dd_X5_init_28 0 rfl rfl ?_
  refine K_bipush hE (v := (62 : Int32)) dd_X5_init_29 (by decide) ?_
  refine K_newa hE (at0 := .int) (ty := .int) (N := 62) dd_X5_init_31 rfl jw_aI (fun cA => vp_cell_i _ _ _) (by decide) (by decide) (by decide) (Nat.le_of_ble_eq_true rfl) (Nat.le_of_ble_eq_true rfl) (fun q4 c4 => ?_)
  refine K_ws (ws' := (h0, .inr (5, [.ref q1, .ref q2, .ref q3, .int 0, .int 0, .null, .int 0, .int 0, .int 0, .int 0, .int 0, .null, .int 0, .int 0, .int 0, .int 0, .int 0, .int 0, .int 0, .null, .null, .null, .null, .int 0, .null])) :: ([(q1, .inl (c1, 186, .inl (fun _ => 0)))] ++ [(q2, .inl (c2, 62, .inl (fun _ => 0)))] ++ [(q3, .inl (c3, 2, .inl (fun _ => 0)))] ++ [(q4, .inl (c4, 62, .inl (fun _ => 0)))])) (tys' := [(c1, .int)] ++ [(c2, .int)] ++ [(c3, .boolean)] ++ [(c4, .int)]) rfl rfl ?_
  refine K_num (cn' := 4) (sn' := 312) rfl rfl ?_
  refine K_putF hE rfl 0 rfl rfl jc_X5 5 (by decide) fl_RX5_20 rfl rfl rfl rfl (Nat.le_of_ble_eq_true rfl) dd_X5_init_33 (ws' := (h0, .inr (5, [.ref q1, .ref q2, .ref q3, .int 0, .int 0, .ref q4, .int 0, .int 0, .int 0, .int 0, .int 0, .null, .int 0, .int 0, .int 0, .int 0, .int 0, .int 0, .int 0, .null, .null, .null, .null, .int 0, .null])) :: ([(q1, .inl (c1, 186, .inl (fun _ => 0)))] ++ [(q2, .inl (c2, 62, .inl (fun _ => 0)))] ++ [(q3, .inl (c3, 2, .inl (fun _ => 0)))] ++ [(q4, .inl (c4, 62, .inl (fun _ => 0)))])) rfl ?_
  refine K_aload_n hE dd_X5_init_36 0 rfl rfl ?_
  refine K_sipush hE (v := (160 : Int32)) dd_X5_init_37 (by decide) ?_
  refine K_newa hE (at0 := .int) (ty := .int) (N := 160) dd_X5_init_40 rfl jw_aI (fun cA => vp_cell_i _ _ _) (by decide) (by decide) (by decide) (Nat.le_of_ble_eq_true rfl) (Nat.le_of_ble_eq_true rfl) (fun q5 c5 => ?_)
  refine K_ws (ws' := (h0, .inr (5, [.ref q1, .ref q2, .ref q3, .int 0, .int 0, .ref q4, .int 0, .int 0, .int 0, .int 0, .int 0, .null, .int 0, .int 0, .int 0, .int 0, .int 0, .int 0, .int 0, .null, .null, .null, .null, .int 0, .null])) :: ([(q1, .inl (c1, 186, .inl (fun _ => 0)))] ++ [(q2, .inl (c2, 62, .inl (fun _ => 0)))] ++ [(q3, .inl (c3, 2, .inl (fun _ => 0)))] ++ [(q4, .inl (c4, 62, .inl (fun _ => 0)))] ++ [(q5, .inl (c5, 160, .inl (fun _ => 0)))])) (tys' := [(c1, .int)] ++ [(c2, .int)] ++ [(c3, .boolean)] ++ [(c4, .int)] ++ [(c5, .int)]) rfl rfl ?_
  refine K_num (cn' := 5) (sn' := 472) rfl rfl ?_
  refine K_putF hE rfl 0 rfl rfl jc_X5 11 (by decide) fl_RX5_23 rfl rfl rfl rfl (Nat.le_of_ble_eq_true rfl) dd_X5_init_42 (ws' := (h0, .inr (5, [.ref q1, .ref q2, .ref q3, .int 0, .int 0, .ref q4, .int 0, .int 0, .int 0, .int 0, .int 0, .ref q5, .int 0, .int 0, .int 0, .int 0, .int 0, .int 0, .int 0, .null, .null, .null, .null, .int 0, .null])) :: ([(q1, .inl (c1, 186, .inl (fun _ => 0)))] ++ [(q2, .inl (c2, 62, .inl (fun _ => 0)))] ++ [(q3, .inl (c3, 2, .inl (fun _ => 0)))] ++ [(q4, .inl (c4, 62, .inl (fun _ => 0)))] ++ [(q5, .inl (c5, 160, .inl (fun _ => 0)))])) rfl ?_
  refine K_aload_n hE dd_X5_init_45 0 rfl rfl ?_
  refine K_iconst hE (v := (5 : Int32)) dd_X5_init_46 (by decide) ?_
  refine K_newa hE (at0 := .int) (ty := .int) (N := 5) dd_X5_init_47 rfl jw_aI (fun cA => vp_cell_i _ _ _) (by decide) (by decide) (by decide) (Nat.le_of_ble_eq_true rfl) (Nat.le_of_ble_eq_true rfl) (fun q6 c6 => ?_)
  refine K_ws (ws' := (h0, .inr (5, [.ref q1, .ref q2, .ref q3, .int 0, .int 0, .ref q4, .int 0, .int 0, .int 0, .int 0, .int 0, .ref q5, .int 0, .int 0, .int 0, .int 0, .int 0, .int 0, .int 0, .null, .null, .null, .null, .int 0, .null])) :: ([(q1, .inl (c1, 186, .inl (fun _ => 0)))] ++ [(q2, .inl (c2, 62, .inl (fun _ => 0)))] ++ [(q3, .inl (c3, 2, .inl (fun _ => 0)))] ++ [(q4, .inl (c4, 62, .inl (fun _ => 0)))] ++ [(q5, .inl (c5, 160, .inl (fun _ => 0)))] ++ [(q6, .inl (c6, 5, .inl (fun _ => 0)))])) (tys' := [(c1, .int)] ++ [(c2, .int)] ++ [(c3, .boolean)] ++ [(c4, .int)] ++ [(c5, .int)] ++ [(c6, .int)]) rfl rfl ?_
  refine K_num (cn' := 6) (sn' := 477) rfl rfl ?_
  refine K_putF hE rfl 0 rfl rfl jc_X5 19 (by decide) fl_RX5_26 rfl rfl rfl rfl (Nat.le_of_ble_eq_true rfl) dd_X5_init_49 (ws' := (h0, .inr (5, [.ref q1, .ref q2, .ref q3, .int 0, .int 0, .ref q4, .int 0, .int 0, .int 0, .int 0, .int 0, .ref q5, .int 0, .int 0, .int 0, .int 0, .int 0, .int 0, .int 0, .ref q6, .null, .null, .null, .int 0, .null])) :: ([(q1, .inl (c1, 186, .inl (fun _ => 0)))] ++ [(q2, .inl (c2, 62, .inl (fun _ => 0)))] ++ [(q3, .inl (c3, 2, .inl (fun _ => 0)))] ++ [(q4, .inl (c4, 62, .inl (fun _ => 0)))] ++ [(q5, .inl (c5, 160, .inl (fun _ => 0)))] ++ [(q6, .inl (c6, 5, .inl (fun _ => 0)))])) rfl ?_
  refine K_aload_n hE dd_X5_init_52 0 rfl rfl ?_
  refine K_iconst hE (v := (4 : Int32)) dd_X5_init_53 (by decide) ?_
  refine K_newa hE (at0 := .int) (ty := .int) (N := 4) dd_X5_init_54 rfl jw_aI (fun cA => vp_cell_i _ _ _) (by decide) (by decide) (by decide) (Nat.le_of_ble_eq_true rfl) (Nat.le_of_ble_eq_true rfl) (fun q7 c7 => ?_)
  refine K_ws (ws' := (h0, .inr (5, [.ref q1, .ref q2, .ref q3, .int 0, .int 0, .ref q4, .int 0, .int 0, .int 0, .int 0, .int 0, .ref q5, .int 0, .int 0, .int 0, .int 0, .int 0, .int 0, .int 0, .ref q6, .null, .null, .null, .int 0, .null])) :: ([(q1, .inl (c1, 186, .inl (fun _ => 0)))] ++ [(q2, .inl (c2, 62, .inl (fun _ => 0)))] ++ [(q3, .inl (c3, 2, .inl (fun _ => 0)))] ++ [(q4, .inl (c4, 62, .inl (fun _ => 0)))] ++ [(q5, .inl (c5, 160, .inl (fun _ => 0)))] ++ [(q6, .inl (c6, 5, .inl (fun _ => 0)))] ++ [(q7, .inl (c7, 4, .inl (fun _ => 0)))])) (tys' := [(c1, .int)] ++ [(c2, .int)] ++ [(c3, .boolean)] ++ [(c4, .int)] ++ [(c5, .int)] ++ [(c6, .int)] ++ [(c7, .int)]) rfl rfl ?_
  refine K_num (cn' := 7) (sn' := 481) rfl rfl ?_
  refine K_putF hE rfl 0 rfl rfl jc_X5 20 (by decide) fl_RX5_29 rfl rfl rfl rfl (Nat.le_of_ble_eq_true rfl) dd_X5_init_56 (ws' := (h0, .inr (5, [.ref q1, .ref q2, .ref q3, .int 0, .int 0, .ref q4, .int 0, .int 0, .int 0, .int 0, .int 0, .ref q5, .int 0, .int 0, .int 0, .int 0, .int 0, .int 0, .int 0, .ref q6, .ref q7, .null, .null, .int 0, .null])) :: ([(q1, .inl (c1, 186, .inl (fun _ => 0)))] ++ [(q2, .inl (c2, 62, .inl (fun _ => 0)))] ++ [(q3, .inl (c3, 2, .inl (fun _ => 0)))] ++ [(q4, .inl (c4, 62, .inl (fun _ => 0)))] ++ [(q5, .inl (c5, 160, .inl (fun _ => 0)))] ++ [(q6, .inl (c6, 5, .inl (fun _ => 0)))] ++ [(q7, .inl (c7, 4, .inl (fun _ => 0)))])) rfl ?_
  refine K_aload_n hE dd_X5_init_59 0 rfl rfl ?_
  refine K_iconst hE (v := (4 : Int32)) dd_X5_init_60 (by decide) ?_
  refine K_newa hE (at0 := .int) (ty := .int) (N := 4) dd_X5_init_61 rfl jw_aI (fun cA => vp_cell_i _ _ _) (by decide) (by decide) (by decide) (Nat.le_of_ble_eq_true rfl) (Nat.le_of_ble_eq_true rfl) (fun q8 c8 => ?_)
  refine K_ws (ws' := (h0, .inr (5, [.ref q1, .ref q2, .ref q3, .int 0, .int 0, .ref q4, .int 0, .int 0, .int 0, .int 0, .int 0, .ref q5, .int 0, .int 0, .int 0, .int 0, .int 0, .int 0, .int 0, .ref q6, .ref q7, .null, .null, .int 0, .null])) :: ([(q1, .inl (c1, 186, .inl (fun _ => 0)))] ++ [(q2, .inl (c2, 62, .inl (fun _ => 0)))] ++ [(q3, .inl (c3, 2, .inl (fun _ => 0)))] ++ [(q4, .inl (c4, 62, .inl (fun _ => 0)))] ++ [(q5, .inl (c5, 160, .inl (fun _ => 0)))] ++ [(q6, .inl (c6, 5, .inl (fun _ => 0)))] ++ [(q7, .inl (c7, 4, .inl (fun _ => 0)))] ++ [(q8, .inl (c8, 4, .inl (fun _ => 0)))])) (tys' := [(c1, .int)] ++ [(c2, .int)] ++ [(c3, .boolean)] ++ [(c4, .int)] ++ [(c5, .int)] ++ [(c6, .int)] ++ [(c7, .int)] ++ [(c8, .int)]) rfl rfl ?_
  refine K_num (cn' := 8) (sn' := 485) rfl rfl ?_
  refine K_putF hE rfl 0 rfl rfl jc_X5 21 (by decide) fl_RX5_32 rfl rfl rfl rfl (Nat.le_of_ble_eq_true rfl) dd_X5_init_63 (ws' := (h0, .inr (5, [.ref q1, .ref q2, .ref q3, .int 0, .int 0, .ref q4, .int 0, .int 0, .int 0, .int 0, .int 0, .ref q5, .int 0, .int 0, .int 0, .int 0, .int 0, .int 0, .int 0, .ref q6, .ref q7, .ref q8, .null, .int 0, .null])) :: ([(q1, .inl (c1, 186, .inl (fun _ => 0)))] ++ [(q2, .inl (c2, 62, .inl (fun _ => 0)))] ++ [(q3, .inl (c3, 2, .inl (fun _ => 0)))] ++ [(q4, .inl (c4, 62, .inl (fun _ => 0)))] ++ [(q5, .inl (c5, 160, .inl (fun _ => 0)))] ++ [(q6, .inl (c6, 5, .inl (fun _ => 0)))] ++ [(q7, .inl (c7, 4, .inl (fun _ => 0)))] ++ [(q8, .inl (c8, 4, .inl (fun _ => 0)))])) rfl ?_
  refine K_aload_n hE dd_X5_init_66 0 rfl rfl ?_
  refine K_sipush hE (v := (160 : Int32)) dd_X5_init_67 (by decide) ?_
  refine K_newa hE (at0 := .int) (ty := .int) (N := 160) dd_X5_init_70 rfl jw_aI (fun cA => vp_cell_i _ _ _) (by decide) (by decide) (by decide) (Nat.le_of_ble_eq_true rfl) (Nat.le_of_ble_eq_true rfl) (fun q9 c9 => ?_)
  refine K_ws (ws' := (h0, .inr (5, [.ref q1, .ref q2, .ref q3, .int 0, .int 0, .ref q4, .int 0, .int 0, .int 0, .int 0, .int 0, .ref q5, .int 0, .int 0, .int 0, .int 0, .int 0, .int 0, .int 0, .ref q6, .ref q7, .ref q8, .null, .int 0, .null])) :: ([(q1, .inl (c1, 186, .inl (fun _ => 0)))] ++ [(q2, .inl (c2, 62, .inl (fun _ => 0)))] ++ [(q3, .inl (c3, 2, .inl (fun _ => 0)))] ++ [(q4, .inl (c4, 62, .inl (fun _ => 0)))] ++ [(q5, .inl (c5, 160, .inl (fun _ => 0)))] ++ [(q6, .inl (c6, 5, .inl (fun _ => 0)))] ++ [(q7, .inl (c7, 4, .inl (fun _ => 0)))] ++ [(q8, .inl (c8, 4, .inl (fun _ => 0)))] ++ [(q9, .inl (c9, 160, .inl (fun _ => 0)))])) (tys' := [(c1, .int)] ++ [(c2, .int)] ++ [(c3, .boolean)] ++ [(c4, .int)] ++ [(c5, .int)] ++ [(c6, .int)] ++ [(c7, .int)] ++ [(c8, .int)] ++ [(c9, .int)]) rfl rfl ?_
  refine K_num (cn' := 9) (sn' := 645) rfl rfl ?_
  refine K_putF hE rfl 0 rfl rfl jc_X5 22 (by decide) fl_RX5_35 rfl rfl rfl rfl (Nat.le_of_ble_eq_true rfl) dd_X5_init_72 (ws' := (h0, .inr (5, [.ref q1, .ref q2, .ref q3, .int 0, .int 0, .ref q4, .int 0, .int 0, .int 0, .int 0, .int 0, .ref q5, .int 0, .int 0, .int 0, .int 0, .int 0, .int 0, .int 0, .ref q6, .ref q7, .ref q8, .ref q9, .int 0, .null])) :: ([(q1, .inl (c1, 186, .inl (fun _ => 0)))] ++ [(q2, .inl (c2, 62, .inl (fun _ => 0)))] ++ [(q3, .inl (c3, 2, .inl (fun _ => 0)))] ++ [(q4, .inl (c4, 62, .inl (fun _ => 0)))] ++ [(q5, .inl (c5, 160, .inl (fun _ => 0)))] ++ [(q6, .inl (c6, 5, .inl (fun _ => 0)))] ++ [(q7, .inl (c7, 4, .inl (fun _ => 0)))] ++ [(q8, .inl (c8, 4, .inl (fun _ => 0)))] ++ [(q9, .inl (c9, 160, .inl (fun _ => 0)))])) rfl ?_
  refine K_aload_n hE dd_X5_init_75 0 rfl rfl ?_
  refine K_bipush hE (v := (62 : Int32)) dd_X5_init_76 (by decide) ?_
  refine K_newa hE (at0 := .int) (ty := .int) (N := 62) dd_X5_init_78 rfl jw_aI (fun cA => vp_cell_i _ _ _) (by decide) (by decide) (by decide) (Nat.le_of_ble_eq_true rfl) (Nat.le_of_ble_eq_true rfl) (fun q10 c10 => ?_)
  refine K_ws (ws' := (h0, .inr (5, [.ref q1, .ref q2, .ref q3, .int 0, .int 0, .ref q4, .int 0, .int 0, .int 0, .int 0, .int 0, .ref q5, .int 0, .int 0, .int 0, .int 0, .int 0, .int 0, .int 0, .ref q6, .ref q7, .ref q8, .ref q9, .int 0, .null])) :: ([(q1, .inl (c1, 186, .inl (fun _ => 0)))] ++ [(q2, .inl (c2, 62, .inl (fun _ => 0)))] ++ [(q3, .inl (c3, 2, .inl (fun _ => 0)))] ++ [(q4, .inl (c4, 62, .inl (fun _ => 0)))] ++ [(q5, .inl (c5, 160, .inl (fun _ => 0)))] ++ [(q6, .inl (c6, 5, .inl (fun _ => 0)))] ++ [(q7, .inl (c7, 4, .inl (fun _ => 0)))] ++ [(q8, .inl (c8, 4, .inl (fun _ => 0)))] ++ [(q9, .inl (c9, 160, .inl (fun _ => 0)))] ++ [(q10, .inl (c10, 62, .inl (fun _ => 0)))])) (tys' := [(c1, .int)] ++ [(c2, .int)] ++ [(c3, .boolean)] ++ [(c4, .int)] ++ [(c5, .int)] ++ [(c6, .int)] ++ [(c7, .int)] ++ [(c8, .int)] ++ [(c9, .int)] ++ [(c10, .int)]) rfl rfl ?_
  refine K_num (cn' := 10) (sn' := 707) rfl rfl ?_
  refine K_putF hE rfl 0 rfl rfl jc_X5 24 (by decide) fl_RX5_38 rfl rfl rfl rfl (Nat.le_of_ble_eq_true rfl) dd_X5_init_80 (ws' := (h0, .inr (5, [.ref q1, .ref q2, .ref q3, .int 0, .int 0, .ref q4, .int 0, .int 0, .int 0, .int 0, .int 0, .ref q5, .int 0, .int 0, .int 0, .int 0, .int 0, .int 0, .int 0, .ref q6, .ref q7, .ref q8, .ref q9, .int 0, .ref q10])) :: ([(q1, .inl (c1, 186, .inl (fun _ => 0)))] ++ [(q2, .inl (c2, 62, .inl (fun _ => 0)))] ++ [(q3, .inl (c3, 2, .inl (fun _ => 0)))] ++ [(q4, .inl (c4, 62, .inl (fun _ => 0)))] ++ [(q5, .inl (c5, 160, .inl (fun _ => 0)))] ++ [(q6, .inl (c6, 5, .inl (fun _ => 0)))] ++ [(q7, .inl (c7, 4, .inl (fun _ => 0)))] ++ [(q8, .inl (c8, 4, .inl (fun _ => 0)))] ++ [(q9, .inl (c9, 160, .inl (fun _ => 0)))] ++ [(q10, .inl (c10, 62, .inl (fun _ => 0)))])) rfl ?_
  refine K_ws (ws' := bw_X5 h0 ((fun k => [q1, q2, q3, 0, 0, q4, 0, 0, 0, 0, 0, q5, 0, 0, 0, 0, 0, 0, 0, q6, q7, q8, q9, 0, q10].getD k 0), (fun k => [c1, c2, c3, c1, c1, c4, c1, c1, c1, c1, c1, c5, c1, c1, c1, c1, c1, c1, c1, c6, c7, c8, c9, c1, c10].getD k c1)) s0) (tys' := bt_X5 ((fun k => [q1, q2, q3, 0, 0, q4, 0, 0, 0, 0, 0, q5, 0, 0, 0, 0, 0, 0, 0, q6, q7, q8, q9, 0, q10].getD k 0), (fun k => [c1, c2, c3, c1, c1, c4, c1, c1, c1, c1, c1, c5, c1, c1, c1, c1, c1, c1, c1, c6, c7, c8, c9, c1, c10].getD k c1))) rfl rfl ?_
  generalize ((fun k => [q1, q2, q3, 0, 0, q4, 0, 0, 0, 0, 0, q5, 0, 0, 0, 0, 0, 0, 0, q6, q7, q8, q9, 0, q10].getD k 0), (fun k => [c1, c2, c3, c1, c1, c4, c1, c1, c1, c1, c1, c5, c1, c1, c1, c1, c1, c1, c1, c6, c7, c8, c9, c1, c10].getD k c1)) = x
  intro H locs ls hK hP hD hS hl
  have z := tX5_tail (V := (D, vwCl, bt_X5 x, fun S => bw_X5 h0 x S, K, Z)) (bv_X5 D K Z h0 x) (E := (p, l, e, jj_Ra 8 10 707, s, m, [Value.ref h0].toArray, below, meth, c, 2, A, 10, 707, Q, ((), s1_X5))) ⟨B.exec, B.bytes, ⟨hml, rfl⟩, findClass_of_methodNamed B.named, hts, ⟨Nat.le_of_ble_eq_true rfl, Nat.le_of_ble_eq_true rfl, Nat.le_refl _, Nat.le_refl _⟩, hK, hA, hSt, fun i H1 locs1 ls1 pc1 hP1 hD1 hS1 hi hd1 => ?_⟩ s0
  · exact z (by rw [s1_ok]; rfl) H locs ls hP hD hS hl
  · rcases hi with ⟨-, -, e3⟩ | ⟨x, e1, -⟩ | ⟨ty, x, e1, -⟩
    · rw [e3] at hd1
      subst hQ
      exact W.vret B.exec B.bytes B.returns (fun t ht hW => ⟨⟨rfl, x, by rw [ht]; exact hP1, va_K.moved hW.alike hK, hD1⟩, hS1.F ht⟩) hS1.2.2 hd1 hlocks
    · cases e1
    · cases e1
