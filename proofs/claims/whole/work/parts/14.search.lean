theorem dd_X0_weighFolding_0 : jd cX0_weighFolding 0 (.aload_n 0) 1 1 := ⟨by decide +kernel, rfl⟩
theorem fl_RX0_12 : (Cond.fieldLink "MothCustoms$Search" 12 "MothCustoms$Search" "tried" "LMothCustoms$Shed;" : Cond) ∈ jj_tb := jj_m (List.mem_of_getElem? (i := 247) (by decide +kernel)) rfl
theorem dd_X0_weighFolding_1 : jd cX0_weighFolding 1 (.getfield 12) 3 4 := ⟨by decide +kernel, rfl⟩
theorem dd_X0_weighFolding_4 : jd cX0_weighFolding 4 (.aload_n 1) 1 5 := ⟨by decide +kernel, rfl⟩
theorem ml_RX0_59 : (Cond.methodLink "MothCustoms$Search" 59 yX1_copyHolesFrom : Cond) ∈ jj_tb := jj_m (List.mem_of_getElem? (i := 643) (by decide +kernel)) rfl
theorem dd_X0_weighFolding_5 : jd cX0_weighFolding 5 (.invokevirtual 59) 3 8 := ⟨by decide +kernel, rfl⟩
theorem dd_X0_weighFolding_8 : jd cX0_weighFolding 8 (.aload_n 0) 1 9 := ⟨by decide +kernel, rfl⟩
theorem dd_X0_weighFolding_9 : jd cX0_weighFolding 9 (.getfield 12) 3 12 := ⟨by decide +kernel, rfl⟩
theorem dd_X0_weighFolding_12 : jd cX0_weighFolding 12 (.bipush 15) 2 14 := ⟨by decide +kernel, rfl⟩
theorem ml_RX0_62 : (Cond.methodLink "MothCustoms$Search" 62 yX1_letLoose : Cond) ∈ jj_tb := jj_m (List.mem_of_getElem? (i := 644) (by decide +kernel)) rfl
theorem dd_X0_weighFolding_14 : jd cX0_weighFolding 14 (.invokevirtual 62) 3 17 := ⟨by decide +kernel, rfl⟩
theorem dd_X0_weighFolding_17 : jd cX0_weighFolding 17 (.aload_n 0) 1 18 := ⟨by decide +kernel, rfl⟩
theorem dd_X0_weighFolding_18 : jd cX0_weighFolding 18 (.getfield 12) 3 21 := ⟨by decide +kernel, rfl⟩
theorem ml_RX0_66 : (Cond.methodLink "MothCustoms$Search" 66 yX1_dutyOfAll : Cond) ∈ jj_tb := jj_m (List.mem_of_getElem? (i := 645) (by decide +kernel)) rfl
theorem dd_X0_weighFolding_21 : jd cX0_weighFolding 21 (.invokevirtual 66) 3 24 := ⟨by decide +kernel, rfl⟩
theorem dd_X0_weighFolding_24 : jd cX0_weighFolding 24 (.istore_n 2) 1 25 := ⟨by decide +kernel, rfl⟩
theorem dd_X0_weighFolding_25 : jd cX0_weighFolding 25 (.iload_n 2) 1 26 := ⟨by decide +kernel, rfl⟩
theorem dd_X0_weighFolding_26 : jd cX0_weighFolding 26 (.aload_n 0) 1 27 := ⟨by decide +kernel, rfl⟩
theorem fl_RX0_32 : (Cond.fieldLink "MothCustoms$Search" 32 "MothCustoms$Search" "least" "I" : Cond) ∈ jj_tb := jj_m (List.mem_of_getElem? (i := 251) (by decide +kernel)) rfl
theorem dd_X0_weighFolding_27 : jd cX0_weighFolding 27 (.getfield 32) 3 30 := ⟨by decide +kernel, rfl⟩
theorem dd_X0_weighFolding_52 : jd cX0_weighFolding 52 (.return_) 1 53 := ⟨by decide +kernel, rfl⟩
theorem dd_X0_weighFolding_33 : jd cX0_weighFolding 33 (.aload_n 0) 1 34 := ⟨by decide +kernel, rfl⟩
theorem dd_X0_weighFolding_34 : jd cX0_weighFolding 34 (.iload_n 2) 1 35 := ⟨by decide +kernel, rfl⟩
theorem dd_X0_weighFolding_35 : jd cX0_weighFolding 35 (.putfield 32) 3 38 := ⟨by decide +kernel, rfl⟩
theorem dd_X0_weighFolding_38 : jd cX0_weighFolding 38 (.aload_n 0) 1 39 := ⟨by decide +kernel, rfl⟩
theorem fl_RX0_18 : (Cond.fieldLink "MothCustoms$Search" 18 "MothCustoms$Search" "codes" "[I" : Cond) ∈ jj_tb := jj_m (List.mem_of_getElem? (i := 248) (by decide +kernel)) rfl
theorem dd_X0_weighFolding_39 : jd cX0_weighFolding 39 (.getfield 18) 3 42 := ⟨by decide +kernel, rfl⟩
theorem dd_X0_weighFolding_42 : jd cX0_weighFolding 42 (.iconst 0) 1 43 := ⟨by decide +kernel, rfl⟩
theorem dd_X0_weighFolding_43 : jd cX0_weighFolding 43 (.aload_n 0) 1 44 := ⟨by decide +kernel, rfl⟩
theorem fl_RX0_22 : (Cond.fieldLink "MothCustoms$Search" 22 "MothCustoms$Search" "bestCodes" "[I" : Cond) ∈ jj_tb := jj_m (List.mem_of_getElem? (i := 249) (by decide +kernel)) rfl
theorem dd_X0_weighFolding_44 : jd cX0_weighFolding 44 (.getfield 22) 3 47 := ⟨by decide +kernel, rfl⟩
theorem dd_X0_weighFolding_47 : jd cX0_weighFolding 47 (.iconst 0) 1 48 := ⟨by decide +kernel, rfl⟩
theorem dd_X0_weighFolding_48 : jd cX0_weighFolding 48 (.iconst 5) 1 49 := ⟨by decide +kernel, rfl⟩
theorem ml_RX0_70 : (Cond.methodLink "MothCustoms$Search" 70 arraycopyName : Cond) ∈ jj_tb := jj_m (List.mem_of_getElem? (i := 646) (by decide +kernel)) rfl
theorem dd_X0_weighFolding_49 : jd cX0_weighFolding 49 (.invokestatic 70) 3 52 := ⟨by decide +kernel, rfl⟩
theorem dd_X0_weighFolding_30 : jd cX0_weighFolding 30 (.if_icmp .ge 22) 3 33 := ⟨by decide +kernel, rfl⟩
theorem m_X0_weighFolding : jmS yX0_weighFolding cX0_weighFolding 3 none 2 := ⟨(jj_m (w := Cond.code yX0_weighFolding cX0_weighFolding 3 none) (List.mem_of_getElem? (i := 642) (by decide +kernel)) rfl), (jj_m (w := Cond.initialized yX0_weighFolding.cls) (List.mem_of_getElem? (i := 68) (by decide +kernel)) rfl), ⟨by decide, by decide⟩, by decide +kernel⟩
theorem s_X0_weighFolding : (Cond.static yX0_weighFolding : Cond) ∈ jj_tb := (jj_m (w := Cond.static yX0_weighFolding) (List.mem_of_getElem? (i := 641) (by decide +kernel)) rfl)
def fX0_weighFolding  (T : M2) (S : M2) (N : M2) : Option (M2 × M2) :=
  (fX1_copyHolesFrom  S N).bind fun q1 =>
  lt (q1) fun S2 =>
  (fX1_letLoose (15 : Int32) S2).bind fun q3 =>
  lt (q3) fun S4 =>
  (fX1_dutyOfAll  S4).bind fun r5 =>
  if (T 3 0) ≤ r5 then
    some (T, S4)
  else
    lt (va_up T 3 (fun _ => r5)) fun T6 =>
    lt (va_up T6 2 (va_cpy (T6 1) (T6 2) 0 0 5)) fun T7 =>
    some (T7, S4)

set_option maxHeartbeats 4000000 in
set_option maxRecDepth 100000 in
theorem tX0_weighFolding (l : Launch) {V : JV (M2 × M2)} {b : Nat} {a : Nat → Nat} {b2 : Nat} {a2 : Nat → Nat} {b3 : Nat} {a3 : Nat → Nat} {N : M2} (hv1 : v1X0 V b a b2) (hv2 : v2X1 V b2 a2) (hr : rX1 V b3 a3 N) (T : M2) (S : M2)  : JC l V yX0_weighFolding cX0_weighFolding 3 none jj_v 4 [.ref b, .ref b3] (T, S) ((fX0_weighFolding  T S N).map (fun q => ((), q))) := by
  refine jj_of (by decide) (Nat.le_of_ble_eq_true rfl) (fun E hlE hE => ?_)
  unfold fX0_weighFolding
  refine J_sub (L' := [(0, .ref b), (1, .ref b3)]) [0, 1] rfl ?_
  refine J_aload_n hE dd_X0_weighFolding_0 0 rfl rfl ?_
  refine J_get hE (hv1.ob _) jc_X0 0 (by decide) fl_RX0_12 (v := .ref b2) rfl dd_X0_weighFolding_1 ?_
  refine J_aload_n hE dd_X0_weighFolding_4 1 rfl rfl ?_
  refine J_invVwv hE (e := fun S => (T, S)) (As := [.ref b3]) (st := []) (JC.lift_v (e := fun S => (T, S)) (tX1_copyHolesFrom E.2.1 (v2X1s hv2 T) (rX1s hr T) S ) rfl) (hv2.ob _) m_X1_copyHolesFrom rfl ml_RX0_59 (Nat.le_of_ble_eq_true rfl) (Nat.le_of_ble_eq_true rfl) rfl (Nat.le_of_ble_eq_true rfl) dd_X0_weighFolding_5 (fun q1 => ?_)
  refine J_let2 (T := T) (fun S2 => ?_)
  refine J_aload_n hE dd_X0_weighFolding_8 0 rfl rfl ?_
  refine J_get hE (hv1.ob _) jc_X0 0 (by decide) fl_RX0_12 (v := .ref b2) rfl dd_X0_weighFolding_9 ?_
  refine J_bipush hE (v := (15 : Int32)) dd_X0_weighFolding_12 (by decide) ?_
  refine J_invVwv hE (e := fun S => (T, S)) (As := [.int (15 : Int32)]) (st := []) (JC.lift_v (e := fun S => (T, S)) (tX1_letLoose E.2.1 (v2X1s hv2 T) S2 (15 : Int32)) rfl) (hv2.ob _) m_X1_letLoose rfl ml_RX0_62 (Nat.le_of_ble_eq_true rfl) (Nat.le_of_ble_eq_true rfl) rfl (Nat.le_of_ble_eq_true rfl) dd_X0_weighFolding_14 (fun q3 => ?_)
  refine J_let2 (T := T) (fun S4 => ?_)
  refine J_aload_n hE dd_X0_weighFolding_17 0 rfl rfl ?_
  refine J_get hE (hv1.ob _) jc_X0 0 (by decide) fl_RX0_12 (v := .ref b2) rfl dd_X0_weighFolding_18 ?_
  refine J_invVri hE (As := []) (st := []) (JC.lift_r (e := fun S => (T, S)) (tX1_dutyOfAll E.2.1 (v2X1s hv2 T) S4 ) rfl) (hv2.ob _) m_X1_dutyOfAll rfl ml_RX0_66 (Nat.le_of_ble_eq_true rfl) (Nat.le_of_ble_eq_true rfl) rfl (Nat.le_of_ble_eq_true rfl) dd_X0_weighFolding_21 (fun r5 => ?_)
  refine J_istore_n hE (L' := [(2, .int r5), (0, .ref b), (1, .ref b3)]) dd_X0_weighFolding_24 (Nat.le_of_ble_eq_true rfl) rfl rfl ?_
  refine J_iload_n hE dd_X0_weighFolding_25 0 rfl rfl ?_
  refine J_aload_n hE dd_X0_weighFolding_26 1 rfl rfl ?_
  refine J_get hE (hv1.ob _) jc_X0 3 (by decide) fl_RX0_32 (v := .int (T 3 0)) rfl dd_X0_weighFolding_27 ?_
  refine J_icmp_ge hE (tgt := 52) dd_X0_weighFolding_30 (by decide) (fun c8 => ?_) (fun c8 => ?_)
  · exact J_vret hE dd_X0_weighFolding_52 rfl rfl
  · refine J_aload_n hE dd_X0_weighFolding_33 1 rfl rfl ?_
    refine J_iload_n hE dd_X0_weighFolding_34 0 rfl rfl ?_
    refine J_put hE hv1 jc_X0 3 (by decide) (by decide) fl_RX0_32 rfl rfl rfl (Nat.le_of_ble_eq_true rfl) dd_X0_weighFolding_35 ?_
    refine J_let1 (S := S4) (fun T6 => ?_)
    refine J_aload_n hE dd_X0_weighFolding_38 1 rfl rfl ?_
    refine J_get hE (hv1.ob _) jc_X0 1 (by decide) fl_RX0_18 (v := .ref (a 1)) rfl dd_X0_weighFolding_39 ?_
    refine J_iconst hE (v := (0 : Int32)) dd_X0_weighFolding_42 (by decide) ?_
    refine J_aload_n hE dd_X0_weighFolding_43 1 rfl rfl ?_
    refine J_get hE (hv1.ob _) jc_X0 2 (by decide) fl_RX0_22 (v := .ref (a 2)) rfl dd_X0_weighFolding_44 ?_
    refine J_iconst hE (v := (0 : Int32)) dd_X0_weighFolding_47 (by decide) ?_
    refine J_iconst hE (v := (5 : Int32)) dd_X0_weighFolding_48 (by decide) ?_
    refine J_copy hE hv1 2 (N := 5) (by decide) (hv1.arr 1 (n := 5) (ty := .int) (by decide) _) (by decide) (by decide) ml_RX0_70 (Nat.le_of_ble_eq_true rfl) (Nat.le_of_ble_eq_true rfl) dd_X0_weighFolding_49 ?_
    refine J_let1 (S := S4) (fun T7 => ?_)
    exact J_vret hE dd_X0_weighFolding_52 rfl rfl
theorem dd_X0_placeFrom_0 : jd cX0_placeFrom 0 (.iload_n 2) 1 1 := ⟨by decide +kernel, rfl⟩
theorem dd_X0_placeFrom_1 : jd cX0_placeFrom 1 (.aload_n 1) 1 2 := ⟨by decide +kernel, rfl⟩
theorem fl_RX0_43 : (Cond.fieldLink "MothCustoms$Search" 43 "MothCustoms$Shed" "bolts" "I" : Cond) ∈ jj_tb := jj_m (List.mem_of_getElem? (i := 138) (by decide +kernel)) rfl
theorem dd_X0_placeFrom_2 : jd cX0_placeFrom 2 (.getfield 43) 3 5 := ⟨by decide +kernel, rfl⟩
theorem dd_X0_placeFrom_14 : jd cX0_placeFrom 14 (.iconst 0) 1 15 := ⟨by decide +kernel, rfl⟩
theorem dd_X0_placeFrom_15 : jd cX0_placeFrom 15 (.istore 4) 2 17 := ⟨by decide +kernel, rfl⟩
theorem dd_X0_placeFrom_17 : jd cX0_placeFrom 17 (.iload 4) 2 19 := ⟨by decide +kernel, rfl⟩
theorem dd_X0_placeFrom_19 : jd cX0_placeFrom 19 (.iconst 3) 1 20 := ⟨by decide +kernel, rfl⟩
theorem dd_X0_placeFrom_23 : jd cX0_placeFrom 23 (.aload_n 0) 1 24 := ⟨by decide +kernel, rfl⟩
theorem dd_X0_placeFrom_24 : jd cX0_placeFrom 24 (.getfield 12) 3 27 := ⟨by decide +kernel, rfl⟩
theorem fl_RX0_29 : (Cond.fieldLink "MothCustoms$Search" 29 "MothCustoms$Shed" "height" "[I" : Cond) ∈ jj_tb := jj_m (List.mem_of_getElem? (i := 153) (by decide +kernel)) rfl
theorem dd_X0_placeFrom_27 : jd cX0_placeFrom 27 (.getfield 29) 3 30 := ⟨by decide +kernel, rfl⟩
theorem dd_X0_placeFrom_30 : jd cX0_placeFrom 30 (.iload 4) 2 32 := ⟨by decide +kernel, rfl⟩
theorem dd_X0_placeFrom_32 : jd cX0_placeFrom 32 (.iaload) 1 33 := ⟨by decide +kernel, rfl⟩
theorem dd_X0_placeFrom_33 : jd cX0_placeFrom 33 (.istore 5) 2 35 := ⟨by decide +kernel, rfl⟩
theorem dd_X0_placeFrom_35 : jd cX0_placeFrom 35 (.iconst 0) 1 36 := ⟨by decide +kernel, rfl⟩
theorem dd_X0_placeFrom_36 : jd cX0_placeFrom 36 (.istore 6) 2 38 := ⟨by decide +kernel, rfl⟩
theorem dd_X0_placeFrom_38 : jd cX0_placeFrom 38 (.iload 6) 2 40 := ⟨by decide +kernel, rfl⟩
theorem dd_X0_placeFrom_40 : jd cX0_placeFrom 40 (.aload_n 1) 1 41 := ⟨by decide +kernel, rfl⟩
theorem dd_X0_placeFrom_41 : jd cX0_placeFrom 41 (.getfield 43) 3 44 := ⟨by decide +kernel, rfl⟩
theorem dd_X0_placeFrom_47 : jd cX0_placeFrom 47 (.iload 4) 2 49 := ⟨by decide +kernel, rfl⟩
theorem dd_X0_placeFrom_49 : jd cX0_placeFrom 49 (.iconst 5) 1 50 := ⟨by decide +kernel, rfl⟩
theorem dd_X0_placeFrom_50 : jd cX0_placeFrom 50 (.imul) 1 51 := ⟨by decide +kernel, rfl⟩
theorem dd_X0_placeFrom_51 : jd cX0_placeFrom 51 (.iload 6) 2 53 := ⟨by decide +kernel, rfl⟩
theorem dd_X0_placeFrom_53 : jd cX0_placeFrom 53 (.iadd) 1 54 := ⟨by decide +kernel, rfl⟩
theorem dd_X0_placeFrom_54 : jd cX0_placeFrom 54 (.istore 7) 2 56 := ⟨by decide +kernel, rfl⟩
theorem dd_X0_placeFrom_56 : jd cX0_placeFrom 56 (.iconst 0) 1 57 := ⟨by decide +kernel, rfl⟩
theorem dd_X0_placeFrom_57 : jd cX0_placeFrom 57 (.iload 6) 2 59 := ⟨by decide +kernel, rfl⟩
theorem dd_X0_placeFrom_59 : jd cX0_placeFrom 59 (.iconst 1) 1 60 := ⟨by decide +kernel, rfl⟩
theorem dd_X0_placeFrom_60 : jd cX0_placeFrom 60 (.iadd) 1 61 := ⟨by decide +kernel, rfl⟩
theorem dd_X0_placeFrom_61 : jd cX0_placeFrom 61 (.iload 5) 2 63 := ⟨by decide +kernel, rfl⟩
theorem dd_X0_placeFrom_63 : jd cX0_placeFrom 63 (.isub) 1 64 := ⟨by decide +kernel, rfl⟩
theorem ml_RX0_50 : (Cond.methodLink "MothCustoms$Search" 50 Lib.Math.max.name : Cond) ∈ jj_tb := jj_m (List.mem_of_getElem? (i := 647) (by decide +kernel)) rfl
theorem dd_X0_placeFrom_64 : jd cX0_placeFrom 64 (.invokestatic 50) 3 67 := ⟨by decide +kernel, rfl⟩
theorem dd_X0_placeFrom_67 : jd cX0_placeFrom 67 (.istore 8) 2 69 := ⟨by decide +kernel, rfl⟩
theorem dd_X0_placeFrom_69 : jd cX0_placeFrom 69 (.aload_n 0) 1 70 := ⟨by decide +kernel, rfl⟩
theorem fl_RX0_36 : (Cond.fieldLink "MothCustoms$Search" 36 "MothCustoms$Search" "taken" "I" : Cond) ∈ jj_tb := jj_m (List.mem_of_getElem? (i := 253) (by decide +kernel)) rfl
theorem dd_X0_placeFrom_70 : jd cX0_placeFrom 70 (.getfield 36) 3 73 := ⟨by decide +kernel, rfl⟩
theorem dd_X0_placeFrom_73 : jd cX0_placeFrom 73 (.iload 7) 2 75 := ⟨by decide +kernel, rfl⟩
theorem dd_X0_placeFrom_75 : jd cX0_placeFrom 75 (.ishr) 1 76 := ⟨by decide +kernel, rfl⟩
theorem dd_X0_placeFrom_76 : jd cX0_placeFrom 76 (.iconst 1) 1 77 := ⟨by decide +kernel, rfl⟩
theorem dd_X0_placeFrom_77 : jd cX0_placeFrom 77 (.iand) 1 78 := ⟨by decide +kernel, rfl⟩
theorem dd_X0_placeFrom_78 : jd cX0_placeFrom 78 (.iconst 1) 1 79 := ⟨by decide +kernel, rfl⟩
theorem dd_X0_placeFrom_82 : jd cX0_placeFrom 82 (.iload_n 3) 1 83 := ⟨by decide +kernel, rfl⟩
theorem dd_X0_placeFrom_83 : jd cX0_placeFrom 83 (.iload 8) 2 85 := ⟨by decide +kernel, rfl⟩
theorem dd_X0_placeFrom_85 : jd cX0_placeFrom 85 (.iadd) 1 86 := ⟨by decide +kernel, rfl⟩
theorem dd_X0_placeFrom_86 : jd cX0_placeFrom 86 (.aload_n 1) 1 87 := ⟨by decide +kernel, rfl⟩
theorem dd_X0_placeFrom_87 : jd cX0_placeFrom 87 (.getfield 43) 3 90 := ⟨by decide +kernel, rfl⟩
theorem dd_X0_placeFrom_93 : jd cX0_placeFrom 93 (.aload_n 0) 1 94 := ⟨by decide +kernel, rfl⟩
theorem dd_X0_placeFrom_94 : jd cX0_placeFrom 94 (.getfield 32) 3 97 := ⟨by decide +kernel, rfl⟩
theorem dd_X0_placeFrom_103 : jd cX0_placeFrom 103 (.aload_n 0) 1 104 := ⟨by decide +kernel, rfl⟩
theorem dd_X0_placeFrom_104 : jd cX0_placeFrom 104 (.dup) 1 105 := ⟨by decide +kernel, rfl⟩
theorem dd_X0_placeFrom_105 : jd cX0_placeFrom 105 (.getfield 36) 3 108 := ⟨by decide +kernel, rfl⟩
theorem dd_X0_placeFrom_108 : jd cX0_placeFrom 108 (.iconst 1) 1 109 := ⟨by decide +kernel, rfl⟩
theorem dd_X0_placeFrom_109 : jd cX0_placeFrom 109 (.iload 7) 2 111 := ⟨by decide +kernel, rfl⟩
theorem dd_X0_placeFrom_111 : jd cX0_placeFrom 111 (.ishl) 1 112 := ⟨by decide +kernel, rfl⟩
theorem dd_X0_placeFrom_112 : jd cX0_placeFrom 112 (.ior) 1 113 := ⟨by decide +kernel, rfl⟩
theorem dd_X0_placeFrom_113 : jd cX0_placeFrom 113 (.putfield 36) 3 116 := ⟨by decide +kernel, rfl⟩
theorem dd_X0_placeFrom_116 : jd cX0_placeFrom 116 (.aload_n 0) 1 117 := ⟨by decide +kernel, rfl⟩
theorem dd_X0_placeFrom_117 : jd cX0_placeFrom 117 (.getfield 12) 3 120 := ⟨by decide +kernel, rfl⟩
theorem fl_RX0_56 : (Cond.fieldLink "MothCustoms$Search" 56 "MothCustoms$Shed" "lying" "[I" : Cond) ∈ jj_tb := jj_m (List.mem_of_getElem? (i := 150) (by decide +kernel)) rfl
theorem dd_X0_placeFrom_120 : jd cX0_placeFrom 120 (.getfield 56) 3 123 := ⟨by decide +kernel, rfl⟩
theorem dd_X0_placeFrom_123 : jd cX0_placeFrom 123 (.iload 7) 2 125 := ⟨by decide +kernel, rfl⟩
theorem dd_X0_placeFrom_125 : jd cX0_placeFrom 125 (.iload_n 2) 1 126 := ⟨by decide +kernel, rfl⟩
theorem dd_X0_placeFrom_126 : jd cX0_placeFrom 126 (.iastore) 1 127 := ⟨by decide +kernel, rfl⟩
theorem dd_X0_placeFrom_127 : jd cX0_placeFrom 127 (.aload_n 0) 1 128 := ⟨by decide +kernel, rfl⟩
theorem dd_X0_placeFrom_128 : jd cX0_placeFrom 128 (.getfield 12) 3 131 := ⟨by decide +kernel, rfl⟩
theorem dd_X0_placeFrom_131 : jd cX0_placeFrom 131 (.getfield 29) 3 134 := ⟨by decide +kernel, rfl⟩
theorem dd_X0_placeFrom_134 : jd cX0_placeFrom 134 (.iload 4) 2 136 := ⟨by decide +kernel, rfl⟩
theorem dd_X0_placeFrom_136 : jd cX0_placeFrom 136 (.iload 5) 2 138 := ⟨by decide +kernel, rfl⟩
theorem dd_X0_placeFrom_138 : jd cX0_placeFrom 138 (.iload 8) 2 140 := ⟨by decide +kernel, rfl⟩
theorem dd_X0_placeFrom_140 : jd cX0_placeFrom 140 (.iadd) 1 141 := ⟨by decide +kernel, rfl⟩
theorem dd_X0_placeFrom_141 : jd cX0_placeFrom 141 (.iastore) 1 142 := ⟨by decide +kernel, rfl⟩
theorem dd_X0_placeFrom_142 : jd cX0_placeFrom 142 (.aload_n 0) 1 143 := ⟨by decide +kernel, rfl⟩
theorem dd_X0_placeFrom_143 : jd cX0_placeFrom 143 (.getfield 18) 3 146 := ⟨by decide +kernel, rfl⟩
theorem dd_X0_placeFrom_146 : jd cX0_placeFrom 146 (.iload_n 2) 1 147 := ⟨by decide +kernel, rfl⟩
theorem dd_X0_placeFrom_147 : jd cX0_placeFrom 147 (.bipush 10) 2 149 := ⟨by decide +kernel, rfl⟩
theorem dd_X0_placeFrom_149 : jd cX0_placeFrom 149 (.iload 4) 2 151 := ⟨by decide +kernel, rfl⟩
theorem dd_X0_placeFrom_151 : jd cX0_placeFrom 151 (.imul) 1 152 := ⟨by decide +kernel, rfl⟩
theorem dd_X0_placeFrom_152 : jd cX0_placeFrom 152 (.iload 6) 2 154 := ⟨by decide +kernel, rfl⟩
theorem dd_X0_placeFrom_154 : jd cX0_placeFrom 154 (.iadd) 1 155 := ⟨by decide +kernel, rfl⟩
theorem dd_X0_placeFrom_155 : jd cX0_placeFrom 155 (.iastore) 1 156 := ⟨by decide +kernel, rfl⟩
theorem dd_X0_placeFrom_156 : jd cX0_placeFrom 156 (.aload_n 0) 1 157 := ⟨by decide +kernel, rfl⟩
theorem dd_X0_placeFrom_157 : jd cX0_placeFrom 157 (.aload_n 1) 1 158 := ⟨by decide +kernel, rfl⟩
theorem dd_X0_placeFrom_158 : jd cX0_placeFrom 158 (.iload_n 2) 1 159 := ⟨by decide +kernel, rfl⟩
theorem dd_X0_placeFrom_159 : jd cX0_placeFrom 159 (.iconst 1) 1 160 := ⟨by decide +kernel, rfl⟩
theorem dd_X0_placeFrom_160 : jd cX0_placeFrom 160 (.iadd) 1 161 := ⟨by decide +kernel, rfl⟩
theorem dd_X0_placeFrom_161 : jd cX0_placeFrom 161 (.iload_n 3) 1 162 := ⟨by decide +kernel, rfl⟩
theorem dd_X0_placeFrom_162 : jd cX0_placeFrom 162 (.iload 8) 2 164 := ⟨by decide +kernel, rfl⟩
theorem dd_X0_placeFrom_164 : jd cX0_placeFrom 164 (.iadd) 1 165 := ⟨by decide +kernel, rfl⟩
theorem ml_RX0_39 : (Cond.methodLink "MothCustoms$Search" 39 yX0_placeFrom : Cond) ∈ jj_tb := jj_m (List.mem_of_getElem? (i := 637) (by decide +kernel)) rfl
theorem m_X0_placeFrom : jmS yX0_placeFrom cX0_placeFrom 9 none 4 := ⟨(jj_m (w := Cond.code yX0_placeFrom cX0_placeFrom 9 none) (List.mem_of_getElem? (i := 639) (by decide +kernel)) rfl), (jj_m (w := Cond.initialized yX0_placeFrom.cls) (List.mem_of_getElem? (i := 68) (by decide +kernel)) rfl), ⟨by decide, by decide⟩, by decide +kernel⟩
theorem s_X0_placeFrom : (Cond.static yX0_placeFrom : Cond) ∈ jj_tb := (jj_m (w := Cond.static yX0_placeFrom) (List.mem_of_getElem? (i := 638) (by decide +kernel)) rfl)
theorem dd_X0_placeFrom_165 : jd cX0_placeFrom 165 (.invokestatic 39) 3 168 := ⟨by decide +kernel, rfl⟩
theorem dd_X0_placeFrom_168 : jd cX0_placeFrom 168 (.aload_n 0) 1 169 := ⟨by decide +kernel, rfl⟩
theorem dd_X0_placeFrom_169 : jd cX0_placeFrom 169 (.getfield 12) 3 172 := ⟨by decide +kernel, rfl⟩
theorem dd_X0_placeFrom_172 : jd cX0_placeFrom 172 (.getfield 29) 3 175 := ⟨by decide +kernel, rfl⟩
theorem dd_X0_placeFrom_175 : jd cX0_placeFrom 175 (.iload 4) 2 177 := ⟨by decide +kernel, rfl⟩
theorem dd_X0_placeFrom_177 : jd cX0_placeFrom 177 (.iload 5) 2 179 := ⟨by decide +kernel, rfl⟩
theorem dd_X0_placeFrom_179 : jd cX0_placeFrom 179 (.iastore) 1 180 := ⟨by decide +kernel, rfl⟩
theorem dd_X0_placeFrom_180 : jd cX0_placeFrom 180 (.aload_n 0) 1 181 := ⟨by decide +kernel, rfl⟩
theorem dd_X0_placeFrom_181 : jd cX0_placeFrom 181 (.dup) 1 182 := ⟨by decide +kernel, rfl⟩
theorem dd_X0_placeFrom_182 : jd cX0_placeFrom 182 (.getfield 36) 3 185 := ⟨by decide +kernel, rfl⟩
theorem dd_X0_placeFrom_185 : jd cX0_placeFrom 185 (.iconst 1) 1 186 := ⟨by decide +kernel, rfl⟩
theorem dd_X0_placeFrom_186 : jd cX0_placeFrom 186 (.iload 7) 2 188 := ⟨by decide +kernel, rfl⟩
theorem dd_X0_placeFrom_188 : jd cX0_placeFrom 188 (.ishl) 1 189 := ⟨by decide +kernel, rfl⟩
theorem dd_X0_placeFrom_189 : jd cX0_placeFrom 189 (.iconst (-1)) 1 190 := ⟨by decide +kernel, rfl⟩
theorem dd_X0_placeFrom_190 : jd cX0_placeFrom 190 (.ixor) 1 191 := ⟨by decide +kernel, rfl⟩
theorem dd_X0_placeFrom_191 : jd cX0_placeFrom 191 (.iand) 1 192 := ⟨by decide +kernel, rfl⟩
theorem dd_X0_placeFrom_192 : jd cX0_placeFrom 192 (.putfield 36) 3 195 := ⟨by decide +kernel, rfl⟩
theorem dd_X0_placeFrom_100 : jd cX0_placeFrom 100 (.goto 95) 3 103 := ⟨by decide +kernel, rfl⟩
theorem dd_X0_placeFrom_97 : jd cX0_placeFrom 97 (.ifCond .ne 6) 3 100 := ⟨by decide +kernel, rfl⟩
theorem dd_X0_placeFrom_90 : jd cX0_placeFrom 90 (.if_icmp .gt 105) 3 93 := ⟨by decide +kernel, rfl⟩
theorem dd_X0_placeFrom_79 : jd cX0_placeFrom 79 (.if_icmp .eq 116) 3 82 := ⟨by decide +kernel, rfl⟩
theorem dd_X0_placeFrom_195 : jd cX0_placeFrom 195 (.iinc 6 1) 3 198 := ⟨by decide +kernel, rfl⟩
theorem dd_X0_placeFrom_198 : jd cX0_placeFrom 198 (.goto (-160)) 3 201 := ⟨by decide +kernel, rfl⟩
theorem dd_X0_placeFrom_44 : jd cX0_placeFrom 44 (.if_icmp .ge 157) 3 47 := ⟨by decide +kernel, rfl⟩
theorem dd_X0_placeFrom_201 : jd cX0_placeFrom 201 (.iinc 4 1) 3 204 := ⟨by decide +kernel, rfl⟩
theorem dd_X0_placeFrom_204 : jd cX0_placeFrom 204 (.goto (-187)) 3 207 := ⟨by decide +kernel, rfl⟩
theorem dd_X0_placeFrom_20 : jd cX0_placeFrom 20 (.if_icmp .ge 187) 3 23 := ⟨by decide +kernel, rfl⟩
theorem dd_X0_placeFrom_207 : jd cX0_placeFrom 207 (.return_) 1 208 := ⟨by decide +kernel, rfl⟩
theorem dd_X0_placeFrom_8 : jd cX0_placeFrom 8 (.aload_n 0) 1 9 := ⟨by decide +kernel, rfl⟩
theorem dd_X0_placeFrom_9 : jd cX0_placeFrom 9 (.aload_n 1) 1 10 := ⟨by decide +kernel, rfl⟩
theorem ml_RX0_46 : (Cond.methodLink "MothCustoms$Search" 46 yX0_weighFolding : Cond) ∈ jj_tb := jj_m (List.mem_of_getElem? (i := 640) (by decide +kernel)) rfl
theorem dd_X0_placeFrom_10 : jd cX0_placeFrom 10 (.invokestatic 46) 3 13 := ⟨by decide +kernel, rfl⟩
theorem dd_X0_placeFrom_13 : jd cX0_placeFrom 13 (.return_) 1 14 := ⟨by decide +kernel, rfl⟩
theorem dd_X0_placeFrom_5 : jd cX0_placeFrom 5 (.if_icmp .lt 9) 3 8 := ⟨by decide +kernel, rfl⟩
def fX0_placeFrom_L38 (T : M2) (S : M2) (i2 : Int32) (i3 : Int32) (N : M2) (self : Int32 → Int32 → M2 → M2 → Option (M2 × M2)) (v1 : Int32) (x4 : Int32) (k201 : (M2 × M2) → Option (M2 × M2)) : Nat → Int32 → M2 → M2 → Option (M2 × M2)
  | 0, _, _, _ => none
  | n_ + 1, v5, T6, S7 =>
    if (N 0 0) ≤ v5 then
      k201 (T6, S7)
    else
      lt (((v1 * (5 : Int32)) + v5)) fun x8 =>
      lt ((if (0 : Int32) < ((v5 + (1 : Int32)) - x4) then ((v5 + (1 : Int32)) - x4) else (0 : Int32))) fun x9 =>
      jn (α := Option (M2 × M2)) (β := M2 × M2) (fun j10 =>
        if (((T6 4 0) >>> (x8 &&& 31)) &&& (1 : Int32)) = (1 : Int32) then
          j10 (T6, S7)
        else
          if (N 0 0) < (i3 + x9) then
            j10 (T6, S7)
          else
            if (T6 3 0) = 0 then
              j10 (T6, S7)
            else
              lt (va_up T6 4 (fun _ => ((T6 4 0) ||| ((1 : Int32) <<< (x8 &&& 31))))) fun T11 =>
              bnd x8 15 <|
              lt (va_up S7 5 (upd (S7 5) x8.toNatClampNeg i2)) fun S12 =>
              bnd v1 3 <|
              lt (va_up S12 6 (upd (S12 6) v1.toNatClampNeg (x4 + x9))) fun S13 =>
              bnd i2 5 <|
              lt (va_up T11 1 (upd (T11 1) i2.toNatClampNeg (((10 : Int32) * v1) + v5))) fun T14 =>
              (self (i2 + (1 : Int32)) (i3 + x9) T14 S13).bind fun q15 =>
              lt q15.1 fun T16 => lt q15.2 fun S17 =>
              bnd v1 3 <|
              lt (va_up S17 6 (upd (S17 6) v1.toNatClampNeg x4)) fun S18 =>
              lt (va_up T16 4 (fun _ => ((T16 4 0) &&& (((1 : Int32) <<< (x8 &&& 31)) ^^^ (-1 : Int32))))) fun T19 =>
              j10 (T19, S18)) (fun p23 => 
        lt (v5 + (1 : Int32)) fun x24 =>
        fX0_placeFrom_L38 T S i2 i3 N self v1 x4 k201 n_ x24 p23.1 p23.2)

def fX0_placeFrom_L17 (T : M2) (S : M2) (i2 : Int32) (i3 : Int32) (N : M2) (self : Int32 → Int32 → M2 → M2 → Option (M2 × M2)) (k207 : (M2 × M2) → Option (M2 × M2)) : Nat → Int32 → M2 → M2 → Option (M2 × M2)
  | 0, _, _, _ => none
  | n_ + 1, v1, T2, S3 =>
    if (3 : Int32) ≤ v1 then
      k207 (T2, S3)
    else
      bnd v1 3 <|
      lt ((S3 6 v1.toNatClampNeg)) fun x4 =>
      fX0_placeFrom_L38 T S i2 i3 N self v1 x4
        (fun p26 =>
          lt (v1 + (1 : Int32)) fun x27 =>
          fX0_placeFrom_L17 T S i2 i3 N self k207 n_ x27 p26.1 p26.2)
        400 (0 : Int32) T2 S3

def fX0_placeFrom : Nat → Int32 → Int32 → M2 → M2 → M2 → Option (M2 × M2)
  | 0, _, _, _, _, _ => none
  | n_ + 1, i2, i3, T, S, N =>
    if i2 < (N 0 0) then
      fX0_placeFrom_L17 T S i2 i3 N (fun i2 i3 T S => fX0_placeFrom n_ i2 i3 T S N)
        (fun p29 =>
          some (p29.1, p29.2))
        400 (0 : Int32) T S
    else
      (fX0_weighFolding  T S N).bind fun q30 =>
      lt q30.1 fun T31 => lt q30.2 fun S32 =>
      some (T31, S32)

set_option maxHeartbeats 4000000 in
set_option maxRecDepth 100000 in
theorem tX0_placeFrom_L38 {V : JV (M2 × M2)} {b : Nat} {a : Nat → Nat} {b2 : Nat} {a2 : Nat → Nat} {b3 : Nat} {a3 : Nat → Nat} {N : M2} (hv1 : v1X0 V b a b2) (hv2 : v2X1 V b2 a2) (hr : rX1 V b3 a3 N) (T : M2) (S : M2) (i2 : Int32) (i3 : Int32) (self : Int32 → Int32 → M2 → M2 → Option (M2 × M2)) (v1 : Int32) (x4 : Int32) {E : JE (M2 × M2) Unit} {d dS : Nat} (hE : JOk V E cX0_placeFrom yX0_placeFrom.cls 9 d none jj_v) (hd0 : 5 ≤ d) (hdS : dS + 1 ≤ d) (hself : ∀ (T S : M2) (i2 i3 : Int32), JC E.2.1 V yX0_placeFrom cX0_placeFrom 9 none jj_v dS [.ref b, .ref b3, .int i2, .int i3] (T, S) ((self i2 i3 T S).map (fun q => ((), q)))) {k201 : (M2 × M2) → Option (M2 × M2)} (hk201 : ∀ p, J V E (fun q => ((), q)) (k201 p) 201 [(0, .ref b), (1, .ref b3), (2, .int i2), (3, .int i3), (4, .int v1)] [] (p.1, p.2)) : ∀ (n_ : Nat) (v5 : Int32) (T6 : M2) (S7 : M2), J V E (fun q => ((), q)) (fX0_placeFrom_L38 T S i2 i3 N self v1 x4 k201 n_ v5 T6 S7) 38 [(0, .ref b), (1, .ref b3), (2, .int i2), (3, .int i3), (4, .int v1), (5, .int x4), (6, .int v5)] [] (T6, S7) := by
  intro n_
  induction n_ with
  | zero =>
    intros
    exact J_none
  | succ n_ ih =>
    intros v5 T6 S7
    rw [fX0_placeFrom_L38]
    refine J_iload hE dd_X0_placeFrom_38 6 rfl ?_
    refine J_aload_n hE dd_X0_placeFrom_40 1 rfl rfl ?_
    refine J_get hE (hr.ob _) jc_X1 0 (by decide) fl_RX0_43 (v := .int (N 0 0)) rfl dd_X0_placeFrom_41 ?_
    refine J_icmp_ge hE (tgt := 201) dd_X0_placeFrom_44 (by decide) (fun c25 => ?_) (fun c25 => ?_)
    · refine J_sub [0, 1, 2, 3, 4] rfl ?_
      exact hk201 (T6, S7)
    · refine J_iload hE dd_X0_placeFrom_47 4 rfl ?_
      refine J_iconst hE (v := (5 : Int32)) dd_X0_placeFrom_49 (by decide) ?_
      refine J_imul hE dd_X0_placeFrom_50 ?_
      refine J_iload hE dd_X0_placeFrom_51 6 rfl ?_
      refine J_iadd hE dd_X0_placeFrom_53 ?_
      refine J_leti (fun x8 => ?_)
      refine J_istore hE (L' := [(7, .int x8), (0, .ref b), (1, .ref b3), (2, .int i2), (3, .int i3), (4, .int v1), (5, .int x4), (6, .int v5)]) dd_X0_placeFrom_54 (Nat.le_of_ble_eq_true rfl) rfl ?_
      refine J_iconst hE (v := (0 : Int32)) dd_X0_placeFrom_56 (by decide) ?_
      refine J_iload hE dd_X0_placeFrom_57 7 rfl ?_
      refine J_iconst hE (v := (1 : Int32)) dd_X0_placeFrom_59 (by decide) ?_
      refine J_iadd hE dd_X0_placeFrom_60 ?_
      refine J_iload hE dd_X0_placeFrom_61 6 rfl ?_
      refine J_isub hE dd_X0_placeFrom_63 ?_
      refine J_max hE ml_RX0_50 (Nat.le_trans (Nat.le_of_ble_eq_true rfl) (Nat.mul_le_mul_left 60 hd0)) (Nat.le_trans (Nat.le_of_ble_eq_true rfl) hd0) dd_X0_placeFrom_64 ?_
      refine J_leti (fun x9 => ?_)
      refine J_istore hE (L' := [(8, .int x9), (7, .int x8), (0, .ref b), (1, .ref b3), (2, .int i2), (3, .int i3), (4, .int v1), (5, .int x4), (6, .int v5)]) dd_X0_placeFrom_67 (Nat.le_of_ble_eq_true rfl) rfl ?_
      refine J_aload_n hE dd_X0_placeFrom_69 2 rfl rfl ?_
      refine J_get hE (hv1.ob _) jc_X0 4 (by decide) fl_RX0_36 (v := .int (T6 4 0)) rfl dd_X0_placeFrom_70 ?_
      refine J_iload hE dd_X0_placeFrom_73 1 rfl ?_
      refine J_ishr hE dd_X0_placeFrom_75 ?_
      refine J_iconst hE (v := (1 : Int32)) dd_X0_placeFrom_76 (by decide) ?_
      refine J_iand hE dd_X0_placeFrom_77 ?_
      refine J_iconst hE (v := (1 : Int32)) dd_X0_placeFrom_78 (by decide) ?_
      refine J_jn (m := 195) (Lf := fun p23 => [(0, .ref b), (1, .ref b3), (2, .int i2), (3, .int i3), (4, .int v1), (5, .int x4), (6, .int v5)]) (sf := fun p23 => []) (Xf := fun p23 => (p23.1, p23.2)) (fun p23 => ?_) (fun hj10 => ?_)
      · show J V E _ _ 195 [(0, .ref b), (1, .ref b3), (2, .int i2), (3, .int i3), (4, .int v1), (5, .int x4), (6, .int v5)] [] (p23.1, p23.2)
        refine J_iincL hE (v := (v5 + (1 : Int32))) (Lf := fun x24 => [(6, .int x24), (0, .ref b), (1, .ref b3), (2, .int i2), (3, .int i3), (4, .int v1), (5, .int x4)]) dd_X0_placeFrom_195 (j := 6) rfl (congrArg (v5 + ·) (by decide)) (Nat.le_of_ble_eq_true rfl) (fun _ => rfl) (fun x24 => ?_)
        refine J_goto hE (tgt := 38) dd_X0_placeFrom_198 (by decide) ?_
        refine J_sub [1, 2, 3, 4, 5, 6, 0] rfl ?_
        exact ih x24 p23.1 p23.2
      · refine J_icmp_eq hE (tgt := 195) dd_X0_placeFrom_79 (by decide) (fun c22 => ?_) (fun c22 => ?_)
        · refine J_sub [2, 3, 4, 5, 6, 7, 8] rfl ?_
          exact hj10 (T6, S7)
        · refine J_iload_n hE dd_X0_placeFrom_82 5 rfl rfl ?_
          refine J_iload hE dd_X0_placeFrom_83 0 rfl ?_
          refine J_iadd hE dd_X0_placeFrom_85 ?_
          refine J_aload_n hE dd_X0_placeFrom_86 3 rfl rfl ?_
          refine J_get hE (hr.ob _) jc_X1 0 (by decide) fl_RX0_43 (v := .int (N 0 0)) rfl dd_X0_placeFrom_87 ?_
          refine J_icmp_gt hE (tgt := 195) dd_X0_placeFrom_90 (by decide) (fun c21 => ?_) (fun c21 => ?_)
          · refine J_sub [2, 3, 4, 5, 6, 7, 8] rfl ?_
            exact hj10 (T6, S7)
          · refine J_aload_n hE dd_X0_placeFrom_93 2 rfl rfl ?_
            refine J_get hE (hv1.ob _) jc_X0 3 (by decide) fl_RX0_32 (v := .int (T6 3 0)) rfl dd_X0_placeFrom_94 ?_
            refine J_if_ne hE (tgt := 103) dd_X0_placeFrom_97 (by decide) (fun c20 => ?_) (fun c20 => ?_)
            · refine J_aload_n hE dd_X0_placeFrom_103 2 rfl rfl ?_
              refine J_dup hE dd_X0_placeFrom_104 rfl ?_
              refine J_get hE (hv1.ob _) jc_X0 4 (by decide) fl_RX0_36 (v := .int (T6 4 0)) rfl dd_X0_placeFrom_105 ?_
              refine J_iconst hE (v := (1 : Int32)) dd_X0_placeFrom_108 (by decide) ?_
              refine J_iload hE dd_X0_placeFrom_109 1 rfl ?_
              refine J_ishl hE dd_X0_placeFrom_111 ?_
              refine J_ior hE dd_X0_placeFrom_112 ?_
              refine J_put hE hv1 jc_X0 4 (by decide) (by decide) fl_RX0_36 rfl rfl rfl (Nat.le_of_ble_eq_true rfl) dd_X0_placeFrom_113 ?_
              refine J_let1 (S := S7) (fun T11 => ?_)
              refine J_aload_n hE dd_X0_placeFrom_116 2 rfl rfl ?_
              refine J_get hE (hv1.ob _) jc_X0 0 (by decide) fl_RX0_12 (v := .ref b2) rfl dd_X0_placeFrom_117 ?_
              refine J_get hE (hv2.ob _) jc_X1 5 (by decide) fl_RX0_56 (v := .ref (a2 5)) rfl dd_X0_placeFrom_120 ?_
              refine J_iload hE dd_X0_placeFrom_123 1 rfl ?_
              refine J_iload_n hE dd_X0_placeFrom_125 4 rfl rfl ?_
              refine J_ast hE hv2 5 (N := 15) (by decide) dd_X0_placeFrom_126 ?_
              refine J_let2 (T := T11) (fun S12 => ?_)
              refine J_aload_n hE dd_X0_placeFrom_127 2 rfl rfl ?_
              refine J_get hE (hv1.ob _) jc_X0 0 (by decide) fl_RX0_12 (v := .ref b2) rfl dd_X0_placeFrom_128 ?_
              refine J_get hE (hv2.ob _) jc_X1 6 (by decide) fl_RX0_29 (v := .ref (a2 6)) rfl dd_X0_placeFrom_131 ?_
              refine J_iload hE dd_X0_placeFrom_134 6 rfl ?_
              refine J_iload hE dd_X0_placeFrom_136 7 rfl ?_
              refine J_iload hE dd_X0_placeFrom_138 0 rfl ?_
              refine J_iadd hE dd_X0_placeFrom_140 ?_
              refine J_ast hE hv2 6 (N := 3) (by decide) dd_X0_placeFrom_141 ?_
              refine J_let2 (T := T11) (fun S13 => ?_)
              refine J_aload_n hE dd_X0_placeFrom_142 2 rfl rfl ?_
              refine J_get hE (hv1.ob _) jc_X0 1 (by decide) fl_RX0_18 (v := .ref (a 1)) rfl dd_X0_placeFrom_143 ?_
              refine J_iload_n hE dd_X0_placeFrom_146 4 rfl rfl ?_
              refine J_bipush hE (v := (10 : Int32)) dd_X0_placeFrom_147 (by decide) ?_
              refine J_iload hE dd_X0_placeFrom_149 6 rfl ?_
              refine J_imul hE dd_X0_placeFrom_151 ?_
              refine J_iload hE dd_X0_placeFrom_152 8 rfl ?_
              refine J_iadd hE dd_X0_placeFrom_154 ?_
              refine J_ast hE hv1 1 (N := 5) (by decide) dd_X0_placeFrom_155 ?_
              refine J_let1 (S := S13) (fun T14 => ?_)
              refine J_aload_n hE dd_X0_placeFrom_156 2 rfl rfl ?_
              refine J_aload_n hE dd_X0_placeFrom_157 3 rfl rfl ?_
              refine J_iload_n hE dd_X0_placeFrom_158 4 rfl rfl ?_
              refine J_iconst hE (v := (1 : Int32)) dd_X0_placeFrom_159 (by decide) ?_
              refine J_iadd hE dd_X0_placeFrom_160 ?_
              refine J_iload_n hE dd_X0_placeFrom_161 5 rfl rfl ?_
              refine J_iload hE dd_X0_placeFrom_162 0 rfl ?_
              refine J_iadd hE dd_X0_placeFrom_164 ?_
              refine J_invSwv hE (e := fun x => x) (As := [.ref b, .ref b3, .int (i2 + (1 : Int32)), .int (i3 + x9)]) (st := []) (hself T14 S13 (i2 + (1 : Int32)) (i3 + x9)) m_X0_placeFrom s_X0_placeFrom rfl ml_RX0_39 hdS (Nat.le_of_ble_eq_true rfl) rfl (Nat.le_of_ble_eq_true rfl) dd_X0_placeFrom_165 (fun q15 => ?_)
              refine J_letP (fun T16 S17 => ?_)
              refine J_aload_n hE dd_X0_placeFrom_168 2 rfl rfl ?_
              refine J_get hE (hv1.ob _) jc_X0 0 (by decide) fl_RX0_12 (v := .ref b2) rfl dd_X0_placeFrom_169 ?_
              refine J_get hE (hv2.ob _) jc_X1 6 (by decide) fl_RX0_29 (v := .ref (a2 6)) rfl dd_X0_placeFrom_172 ?_
              refine J_iload hE dd_X0_placeFrom_175 6 rfl ?_
              refine J_iload hE dd_X0_placeFrom_177 7 rfl ?_
              refine J_ast hE hv2 6 (N := 3) (by decide) dd_X0_placeFrom_179 ?_
              refine J_let2 (T := T16) (fun S18 => ?_)
              refine J_aload_n hE dd_X0_placeFrom_180 2 rfl rfl ?_
              refine J_dup hE dd_X0_placeFrom_181 rfl ?_
              refine J_get hE (hv1.ob _) jc_X0 4 (by decide) fl_RX0_36 (v := .int (T16 4 0)) rfl dd_X0_placeFrom_182 ?_
              refine J_iconst hE (v := (1 : Int32)) dd_X0_placeFrom_185 (by decide) ?_
              refine J_iload hE dd_X0_placeFrom_186 1 rfl ?_
              refine J_ishl hE dd_X0_placeFrom_188 ?_
              refine J_iconst hE (v := (-1 : Int32)) dd_X0_placeFrom_189 (by decide) ?_
              refine J_ixor hE dd_X0_placeFrom_190 ?_
              refine J_iand hE dd_X0_placeFrom_191 ?_
              refine J_put hE hv1 jc_X0 4 (by decide) (by decide) fl_RX0_36 rfl rfl rfl (Nat.le_of_ble_eq_true rfl) dd_X0_placeFrom_192 ?_
              refine J_let1 (S := S18) (fun T19 => ?_)
              refine J_sub [2, 3, 4, 5, 6, 7, 8] rfl ?_
              exact hj10 (T19, S18)
            · refine J_goto hE (tgt := 195) dd_X0_placeFrom_100 (by decide) ?_
              refine J_sub [2, 3, 4, 5, 6, 7, 8] rfl ?_
              exact hj10 (T6, S7)
set_option maxHeartbeats 4000000 in
set_option maxRecDepth 100000 in
theorem tX0_placeFrom_L17 {V : JV (M2 × M2)} {b : Nat} {a : Nat → Nat} {b2 : Nat} {a2 : Nat → Nat} {b3 : Nat} {a3 : Nat → Nat} {N : M2} (hv1 : v1X0 V b a b2) (hv2 : v2X1 V b2 a2) (hr : rX1 V b3 a3 N) (T : M2) (S : M2) (i2 : Int32) (i3 : Int32) (self : Int32 → Int32 → M2 → M2 → Option (M2 × M2)) {E : JE (M2 × M2) Unit} {d dS : Nat} (hE : JOk V E cX0_placeFrom yX0_placeFrom.cls 9 d none jj_v) (hd0 : 5 ≤ d) (hdS : dS + 1 ≤ d) (hself : ∀ (T S : M2) (i2 i3 : Int32), JC E.2.1 V yX0_placeFrom cX0_placeFrom 9 none jj_v dS [.ref b, .ref b3, .int i2, .int i3] (T, S) ((self i2 i3 T S).map (fun q => ((), q)))) {k207 : (M2 × M2) → Option (M2 × M2)} (hk207 : ∀ p, J V E (fun q => ((), q)) (k207 p) 207 [] [] (p.1, p.2)) : ∀ (n_ : Nat) (v1 : Int32) (T2 : M2) (S3 : M2), J V E (fun q => ((), q)) (fX0_placeFrom_L17 T S i2 i3 N self k207 n_ v1 T2 S3) 17 [(0, .ref b), (1, .ref b3), (2, .int i2), (3, .int i3), (4, .int v1)] [] (T2, S3) := by
  intro n_
  induction n_ with
  | zero =>
    intros
    exact J_none
  | succ n_ ih =>
    intros v1 T2 S3
    rw [fX0_placeFrom_L17]
    refine J_iload hE dd_X0_placeFrom_17 4 rfl ?_
    refine J_iconst hE (v := (3 : Int32)) dd_X0_placeFrom_19 (by decide) ?_
    refine J_icmp_ge hE (tgt := 207) dd_X0_placeFrom_20 (by decide) (fun c28 => ?_) (fun c28 => ?_)
    · refine J_sub [] rfl ?_
      exact hk207 (T2, S3)
    · refine J_aload_n hE dd_X0_placeFrom_23 0 rfl rfl ?_
      refine J_get hE (hv1.ob _) jc_X0 0 (by decide) fl_RX0_12 (v := .ref b2) rfl dd_X0_placeFrom_24 ?_
      refine J_get hE (hv2.ob _) jc_X1 6 (by decide) fl_RX0_29 (v := .ref (a2 6)) rfl dd_X0_placeFrom_27 ?_
      refine J_iload hE dd_X0_placeFrom_30 4 rfl ?_
      refine J_ald hE (hv2.arr 6 (n := 3) (ty := .int) (by decide) _) dd_X0_placeFrom_32 ?_
      refine J_leti (fun x4 => ?_)
      refine J_istore hE (L' := [(5, .int x4), (0, .ref b), (1, .ref b3), (2, .int i2), (3, .int i3), (4, .int v1)]) dd_X0_placeFrom_33 (Nat.le_of_ble_eq_true rfl) rfl ?_
      refine J_iconst hE (v := (0 : Int32)) dd_X0_placeFrom_35 (by decide) ?_
      refine J_istore hE (L' := [(6, .int (0 : Int32)), (5, .int x4), (0, .ref b), (1, .ref b3), (2, .int i2), (3, .int i3), (4, .int v1)]) dd_X0_placeFrom_36 (Nat.le_of_ble_eq_true rfl) rfl ?_
      refine J_sub [2, 3, 4, 5, 6, 1, 0] rfl ?_
      refine tX0_placeFrom_L38 hv1 hv2 hr T S i2 i3 self v1 x4 hE hd0 hdS hself (fun p26 => ?_) 400 (0 : Int32) T2 S3
      show J V E _ _ 201 [(0, .ref b), (1, .ref b3), (2, .int i2), (3, .int i3), (4, .int v1)] [] (p26.1, p26.2)
      refine J_iincL hE (v := (v1 + (1 : Int32))) (Lf := fun x27 => [(4, .int x27), (0, .ref b), (1, .ref b3), (2, .int i2), (3, .int i3)]) dd_X0_placeFrom_201 (j := 4) rfl (congrArg (v1 + ·) (by decide)) (Nat.le_of_ble_eq_true rfl) (fun _ => rfl) (fun x27 => ?_)
      refine J_goto hE (tgt := 17) dd_X0_placeFrom_204 (by decide) ?_
      refine J_sub [1, 2, 3, 4, 0] rfl ?_
      exact ih x27 p26.1 p26.2
set_option maxHeartbeats 4000000 in
set_option maxRecDepth 100000 in
theorem tX0_placeFrom (l : Launch) : ∀ (n_ : Nat) {V : JV (M2 × M2)} {b : Nat} {a : Nat → Nat} {b2 : Nat} {a2 : Nat → Nat} {b3 : Nat} {a3 : Nat → Nat} {N : M2} (hv1 : v1X0 V b a b2) (hv2 : v2X1 V b2 a2) (hr : rX1 V b3 a3 N) (T S : M2) (i2 : Int32) (i3 : Int32), JC l V yX0_placeFrom cX0_placeFrom 9 none jj_v (5 + n_) [.ref b, .ref b3, .int i2, .int i3] (T, S) ((fX0_placeFrom n_ i2 i3 T S N).map (fun q => ((), q))) := by
  intro n_
  induction n_ with
  | zero =>
    intros
    rw [fX0_placeFrom]
    exact JC_none
  | succ n_ ih =>
    intro V b a b2 a2 b3 a3 N hv1 hv2 hr T S i2 i3
    refine jj_of (by decide) (Nat.le_of_ble_eq_true rfl) (fun E hlE hE => ?_)
    have hself := fun (T S : M2) (i2 i3 : Int32) => ih (V := V) hv1 hv2 hr T S i2 i3
    rw [← hlE] at hself
    have hd0 : 5 ≤ 5 + (n_ + 1) := by omega
    have hdS : 5 + n_ + 1 ≤ 5 + (n_ + 1) := by omega
    rw [fX0_placeFrom]
    refine J_sub (L' := [(0, .ref b), (1, .ref b3), (2, .int i2), (3, .int i3)]) [0, 1, 2, 3] rfl ?_
    refine J_iload_n hE dd_X0_placeFrom_0 2 rfl rfl ?_
    refine J_aload_n hE dd_X0_placeFrom_1 1 rfl rfl ?_
    refine J_get hE (hr.ob _) jc_X1 0 (by decide) fl_RX0_43 (v := .int (N 0 0)) rfl dd_X0_placeFrom_2 ?_
    refine J_icmp_lt hE (tgt := 14) dd_X0_placeFrom_5 (by decide) (fun c33 => ?_) (fun c33 => ?_)
    · refine J_iconst hE (v := (0 : Int32)) dd_X0_placeFrom_14 (by decide) ?_
      refine J_istore hE (L' := [(4, .int (0 : Int32)), (0, .ref b), (1, .ref b3), (2, .int i2), (3, .int i3)]) dd_X0_placeFrom_15 (Nat.le_of_ble_eq_true rfl) rfl ?_
      refine J_sub [1, 2, 3, 4, 0] rfl ?_
      refine tX0_placeFrom_L17 hv1 hv2 hr T S i2 i3 (fun i2 i3 T S => fX0_placeFrom n_ i2 i3 T S N) hE hd0 hdS hself (fun p29 => ?_) 400 (0 : Int32) T S
      show J V E _ _ 207 [] [] (p29.1, p29.2)
      exact J_vret hE dd_X0_placeFrom_207 rfl rfl
    · refine J_aload_n hE dd_X0_placeFrom_8 0 rfl rfl ?_
      refine J_aload_n hE dd_X0_placeFrom_9 1 rfl rfl ?_
      refine J_invSwv hE (e := fun x => x) (As := [.ref b, .ref b3]) (st := []) (tX0_weighFolding E.2.1 hv1 hv2 hr T S ) m_X0_weighFolding s_X0_weighFolding rfl ml_RX0_46 (Nat.le_trans (Nat.le_of_ble_eq_true rfl) hd0) (Nat.le_of_ble_eq_true rfl) rfl (Nat.le_of_ble_eq_true rfl) dd_X0_placeFrom_10 (fun q30 => ?_)
      refine J_letP (fun T31 S32 => ?_)
      exact J_vret hE dd_X0_placeFrom_13 rfl rfl
theorem dd_X0_findBest_0 : jd cX0_findBest 0 (.aload_n 0) 1 1 := ⟨by decide +kernel, rfl⟩
theorem dd_X0_findBest_1 : jd cX0_findBest 1 (.getfield 12) 3 4 := ⟨by decide +kernel, rfl⟩
theorem dd_X0_findBest_4 : jd cX0_findBest 4 (.aload_n 1) 1 5 := ⟨by decide +kernel, rfl⟩
theorem ml_RX0_25 : (Cond.methodLink "MothCustoms$Search" 25 yX1_copyFrom : Cond) ∈ jj_tb := jj_m (List.mem_of_getElem? (i := 636) (by decide +kernel)) rfl
theorem dd_X0_findBest_5 : jd cX0_findBest 5 (.invokevirtual 25) 3 8 := ⟨by decide +kernel, rfl⟩
theorem dd_X0_findBest_8 : jd cX0_findBest 8 (.iconst 0) 1 9 := ⟨by decide +kernel, rfl⟩
theorem dd_X0_findBest_9 : jd cX0_findBest 9 (.istore_n 2) 1 10 := ⟨by decide +kernel, rfl⟩
theorem dd_X0_findBest_10 : jd cX0_findBest 10 (.iload_n 2) 1 11 := ⟨by decide +kernel, rfl⟩
theorem dd_X0_findBest_11 : jd cX0_findBest 11 (.iconst 3) 1 12 := ⟨by decide +kernel, rfl⟩
theorem dd_X0_findBest_15 : jd cX0_findBest 15 (.aload_n 0) 1 16 := ⟨by decide +kernel, rfl⟩
theorem dd_X0_findBest_16 : jd cX0_findBest 16 (.getfield 12) 3 19 := ⟨by decide +kernel, rfl⟩
theorem dd_X0_findBest_19 : jd cX0_findBest 19 (.getfield 29) 3 22 := ⟨by decide +kernel, rfl⟩
theorem dd_X0_findBest_22 : jd cX0_findBest 22 (.iload_n 2) 1 23 := ⟨by decide +kernel, rfl⟩
theorem dd_X0_findBest_23 : jd cX0_findBest 23 (.iconst 0) 1 24 := ⟨by decide +kernel, rfl⟩
theorem dd_X0_findBest_24 : jd cX0_findBest 24 (.iastore) 1 25 := ⟨by decide +kernel, rfl⟩
theorem dd_X0_findBest_25 : jd cX0_findBest 25 (.iinc 2 1) 3 28 := ⟨by decide +kernel, rfl⟩
theorem dd_X0_findBest_28 : jd cX0_findBest 28 (.goto (-18)) 3 31 := ⟨by decide +kernel, rfl⟩
theorem dd_X0_findBest_12 : jd cX0_findBest 12 (.if_icmp .ge 19) 3 15 := ⟨by decide +kernel, rfl⟩
theorem dd_X0_findBest_31 : jd cX0_findBest 31 (.aload_n 0) 1 32 := ⟨by decide +kernel, rfl⟩
theorem dd_X0_findBest_32 : jd cX0_findBest 32 (.sipush 406) 3 35 := ⟨by decide +kernel, rfl⟩
theorem dd_X0_findBest_35 : jd cX0_findBest 35 (.putfield 32) 3 38 := ⟨by decide +kernel, rfl⟩
theorem dd_X0_findBest_38 : jd cX0_findBest 38 (.aload_n 0) 1 39 := ⟨by decide +kernel, rfl⟩
theorem dd_X0_findBest_39 : jd cX0_findBest 39 (.iconst 0) 1 40 := ⟨by decide +kernel, rfl⟩
theorem dd_X0_findBest_40 : jd cX0_findBest 40 (.putfield 36) 3 43 := ⟨by decide +kernel, rfl⟩
theorem dd_X0_findBest_43 : jd cX0_findBest 43 (.aload_n 0) 1 44 := ⟨by decide +kernel, rfl⟩
theorem dd_X0_findBest_44 : jd cX0_findBest 44 (.aload_n 1) 1 45 := ⟨by decide +kernel, rfl⟩
theorem dd_X0_findBest_45 : jd cX0_findBest 45 (.iconst 0) 1 46 := ⟨by decide +kernel, rfl⟩
theorem dd_X0_findBest_46 : jd cX0_findBest 46 (.iconst 0) 1 47 := ⟨by decide +kernel, rfl⟩
theorem dd_X0_findBest_47 : jd cX0_findBest 47 (.invokestatic 39) 3 50 := ⟨by decide +kernel, rfl⟩
theorem dd_X0_findBest_50 : jd cX0_findBest 50 (.return_) 1 51 := ⟨by decide +kernel, rfl⟩
theorem m_X0_findBest : jmV yX0_findBest cX0_findBest 3 none 1 := ⟨⟨(jj_m (w := Cond.code yX0_findBest cX0_findBest 3 none) (List.mem_of_getElem? (i := 635) (by decide +kernel)) rfl), (jj_m (w := Cond.initialized yX0_findBest.cls) (List.mem_of_getElem? (i := 68) (by decide +kernel)) rfl), ⟨by decide, by decide⟩, by decide +kernel⟩, (jj_m (w := Cond.instanceMethod yX0_findBest) (List.mem_of_getElem? (i := 633) (by decide +kernel)) rfl), (jj_m (w := Cond.selects yX0_findBest.cls yX0_findBest yX0_findBest) (List.mem_of_getElem? (i := 634) (by decide +kernel)) rfl)⟩
def fX0_findBest_L10 (T : M2) (N : M2) (k31 : (M2 × M2) → Option (M2 × M2)) : Nat → Int32 → M2 → M2 → Option (M2 × M2)
  | 0, _, _, _ => none
  | n_ + 1, v3, T4, S5 =>
    if (3 : Int32) ≤ v3 then
      k31 (T4, S5)
    else
      bnd v3 3 <|
      lt (va_up S5 6 (upd (S5 6) v3.toNatClampNeg (0 : Int32))) fun S6 =>
      lt (v3 + (1 : Int32)) fun x7 =>
      fX0_findBest_L10 T N k31 n_ x7 T4 S6

def fX0_findBest  (T : M2) (S : M2) (N : M2) : Option (M2 × M2) :=
  (fX1_copyFrom  S N).bind fun q1 =>
  lt (q1) fun S2 =>
  fX0_findBest_L10 T N
    (fun p9 =>
      lt (va_up p9.1 3 (fun _ => (406 : Int32))) fun T10 =>
      lt (va_up T10 4 (fun _ => (0 : Int32))) fun T11 =>
      (fX0_placeFrom 7 (0 : Int32) (0 : Int32) T11 p9.2 N).bind fun q12 =>
      lt q12.1 fun T13 => lt q12.2 fun S14 =>
      some (T13, S14))
    400 (0 : Int32) T S2

set_option maxHeartbeats 4000000 in
set_option maxRecDepth 100000 in
theorem tX0_findBest_L10 {V : JV (M2 × M2)} {b : Nat} {a : Nat → Nat} {b2 : Nat} {a2 : Nat → Nat} {b3 : Nat} {a3 : Nat → Nat} {N : M2} (hv1 : v1X0 V b a b2) (hv2 : v2X1 V b2 a2) (hr : rX1 V b3 a3 N) (T : M2) {E : JE (M2 × M2) Unit} (hE : JOk V E cX0_findBest yX0_findBest.cls 3 13 none jj_v) {k31 : (M2 × M2) → Option (M2 × M2)} (hk31 : ∀ p, J V E (fun q => ((), q)) (k31 p) 31 [(0, .ref b), (1, .ref b3)] [] (p.1, p.2)) : ∀ (n_ : Nat) (v3 : Int32) (T4 : M2) (S5 : M2), J V E (fun q => ((), q)) (fX0_findBest_L10 T N k31 n_ v3 T4 S5) 10 [(0, .ref b), (1, .ref b3), (2, .int v3)] [] (T4, S5) := by
  intro n_
  induction n_ with
  | zero =>
    intros
    exact J_none
  | succ n_ ih =>
    intros v3 T4 S5
    rw [fX0_findBest_L10]
    refine J_iload_n hE dd_X0_findBest_10 2 rfl rfl ?_
    refine J_iconst hE (v := (3 : Int32)) dd_X0_findBest_11 (by decide) ?_
    refine J_icmp_ge hE (tgt := 31) dd_X0_findBest_12 (by decide) (fun c8 => ?_) (fun c8 => ?_)
    · refine J_sub [0, 1] rfl ?_
      exact hk31 (T4, S5)
    · refine J_aload_n hE dd_X0_findBest_15 0 rfl rfl ?_
      refine J_get hE (hv1.ob _) jc_X0 0 (by decide) fl_RX0_12 (v := .ref b2) rfl dd_X0_findBest_16 ?_
      refine J_get hE (hv2.ob _) jc_X1 6 (by decide) fl_RX0_29 (v := .ref (a2 6)) rfl dd_X0_findBest_19 ?_
      refine J_iload_n hE dd_X0_findBest_22 2 rfl rfl ?_
      refine J_iconst hE (v := (0 : Int32)) dd_X0_findBest_23 (by decide) ?_
      refine J_ast hE hv2 6 (N := 3) (by decide) dd_X0_findBest_24 ?_
      refine J_let2 (T := T4) (fun S6 => ?_)
      refine J_iincL hE (v := (v3 + (1 : Int32))) (Lf := fun x7 => [(2, .int x7), (0, .ref b), (1, .ref b3)]) dd_X0_findBest_25 (j := 2) rfl (congrArg (v3 + ·) (by decide)) (Nat.le_of_ble_eq_true rfl) (fun _ => rfl) (fun x7 => ?_)
      refine J_goto hE (tgt := 10) dd_X0_findBest_28 (by decide) ?_
      refine J_sub [1, 2, 0] rfl ?_
      exact ih x7 T4 S6
set_option maxHeartbeats 4000000 in
set_option maxRecDepth 100000 in
theorem tX0_findBest (l : Launch) {V : JV (M2 × M2)} {b : Nat} {a : Nat → Nat} {b2 : Nat} {a2 : Nat → Nat} {b3 : Nat} {a3 : Nat → Nat} {N : M2} (hv1 : v1X0 V b a b2) (hv2 : v2X1 V b2 a2) (hr : rX1 V b3 a3 N) (T : M2) (S : M2)  : JC l V yX0_findBest cX0_findBest 3 none jj_v 13 [.ref b, .ref b3] (T, S) ((fX0_findBest  T S N).map (fun q => ((), q))) := by
  refine jj_of (by decide) (Nat.le_of_ble_eq_true rfl) (fun E hlE hE => ?_)
  unfold fX0_findBest
  refine J_sub (L' := [(0, .ref b), (1, .ref b3)]) [0, 1] rfl ?_
  refine J_aload_n hE dd_X0_findBest_0 0 rfl rfl ?_
  refine J_get hE (hv1.ob _) jc_X0 0 (by decide) fl_RX0_12 (v := .ref b2) rfl dd_X0_findBest_1 ?_
  refine J_aload_n hE dd_X0_findBest_4 1 rfl rfl ?_
  refine J_invVwv hE (e := fun S => (T, S)) (As := [.ref b3]) (st := []) (JC.lift_v (e := fun S => (T, S)) (tX1_copyFrom E.2.1 (v2X1s hv2 T) (rX1s hr T) S ) rfl) (hv2.ob _) m_X1_copyFrom rfl ml_RX0_25 (Nat.le_of_ble_eq_true rfl) (Nat.le_of_ble_eq_true rfl) rfl (Nat.le_of_ble_eq_true rfl) dd_X0_findBest_5 (fun q1 => ?_)
  refine J_let2 (T := T) (fun S2 => ?_)
  refine J_iconst hE (v := (0 : Int32)) dd_X0_findBest_8 (by decide) ?_
  refine J_istore_n hE (L' := [(2, .int (0 : Int32)), (0, .ref b), (1, .ref b3)]) dd_X0_findBest_9 (Nat.le_of_ble_eq_true rfl) rfl rfl ?_
  refine J_sub [1, 2, 0] rfl ?_
  refine tX0_findBest_L10 hv1 hv2 hr T hE (fun p9 => ?_) 400 (0 : Int32) T S2
  show J V E _ _ 31 [(0, .ref b), (1, .ref b3)] [] (p9.1, p9.2)
  refine J_aload_n hE dd_X0_findBest_31 0 rfl rfl ?_
  refine J_sipush hE (v := (406 : Int32)) dd_X0_findBest_32 (by decide) ?_
  refine J_put hE hv1 jc_X0 3 (by decide) (by decide) fl_RX0_32 rfl rfl rfl (Nat.le_of_ble_eq_true rfl) dd_X0_findBest_35 ?_
  refine J_let1 (S := p9.2) (fun T10 => ?_)
  refine J_aload_n hE dd_X0_findBest_38 0 rfl rfl ?_
  refine J_iconst hE (v := (0 : Int32)) dd_X0_findBest_39 (by decide) ?_
  refine J_put hE hv1 jc_X0 4 (by decide) (by decide) fl_RX0_36 rfl rfl rfl (Nat.le_of_ble_eq_true rfl) dd_X0_findBest_40 ?_
  refine J_let1 (S := p9.2) (fun T11 => ?_)
  refine J_aload_n hE dd_X0_findBest_43 0 rfl rfl ?_
  refine J_aload_n hE dd_X0_findBest_44 1 rfl rfl ?_
  refine J_iconst hE (v := (0 : Int32)) dd_X0_findBest_45 (by decide) ?_
  refine J_iconst hE (v := (0 : Int32)) dd_X0_findBest_46 (by decide) ?_
  refine J_invSwv hE (e := fun x => x) (As := [.ref b, .ref b3, .int (0 : Int32), .int (0 : Int32)]) (st := []) (tX0_placeFrom E.2.1 7 hv1 hv2 hr T11 p9.2 (0 : Int32) (0 : Int32)) m_X0_placeFrom s_X0_placeFrom rfl ml_RX0_39 (Nat.le_of_ble_eq_true rfl) (Nat.le_of_ble_eq_true rfl) rfl (Nat.le_of_ble_eq_true rfl) dd_X0_findBest_47 (fun q12 => ?_)
  refine J_letP (fun T13 S14 => ?_)
  exact J_vret hE dd_X0_findBest_50 rfl rfl
theorem dd_X0_exchange_0 : jd cX0_exchange 0 (.aload_n 0) 1 1 := ⟨by decide +kernel, rfl⟩
theorem dd_X0_exchange_1 : jd cX0_exchange 1 (.iload_n 1) 1 2 := ⟨by decide +kernel, rfl⟩
theorem dd_X0_exchange_2 : jd cX0_exchange 2 (.iaload) 1 3 := ⟨by decide +kernel, rfl⟩
theorem dd_X0_exchange_3 : jd cX0_exchange 3 (.istore_n 3) 1 4 := ⟨by decide +kernel, rfl⟩
theorem dd_X0_exchange_4 : jd cX0_exchange 4 (.aload_n 0) 1 5 := ⟨by decide +kernel, rfl⟩
theorem dd_X0_exchange_5 : jd cX0_exchange 5 (.iload_n 1) 1 6 := ⟨by decide +kernel, rfl⟩
theorem dd_X0_exchange_6 : jd cX0_exchange 6 (.aload_n 0) 1 7 := ⟨by decide +kernel, rfl⟩
theorem dd_X0_exchange_7 : jd cX0_exchange 7 (.iload_n 2) 1 8 := ⟨by decide +kernel, rfl⟩
theorem dd_X0_exchange_8 : jd cX0_exchange 8 (.iaload) 1 9 := ⟨by decide +kernel, rfl⟩
theorem dd_X0_exchange_9 : jd cX0_exchange 9 (.iastore) 1 10 := ⟨by decide +kernel, rfl⟩
theorem dd_X0_exchange_10 : jd cX0_exchange 10 (.aload_n 0) 1 11 := ⟨by decide +kernel, rfl⟩
theorem dd_X0_exchange_11 : jd cX0_exchange 11 (.iload_n 2) 1 12 := ⟨by decide +kernel, rfl⟩
theorem dd_X0_exchange_12 : jd cX0_exchange 12 (.iload_n 3) 1 13 := ⟨by decide +kernel, rfl⟩
theorem dd_X0_exchange_13 : jd cX0_exchange 13 (.iastore) 1 14 := ⟨by decide +kernel, rfl⟩
theorem dd_X0_exchange_14 : jd cX0_exchange 14 (.return_) 1 15 := ⟨by decide +kernel, rfl⟩
theorem m_X0_exchange : jmS yX0_exchange cX0_exchange 4 none 3 := ⟨(jj_m (w := Cond.code yX0_exchange cX0_exchange 4 none) (List.mem_of_getElem? (i := 723) (by decide +kernel)) rfl), (jj_m (w := Cond.initialized yX0_exchange.cls) (List.mem_of_getElem? (i := 68) (by decide +kernel)) rfl), ⟨by decide, by decide⟩, by decide +kernel⟩
theorem s_X0_exchange : (Cond.static yX0_exchange : Cond) ∈ jj_tb := (jj_m (w := Cond.static yX0_exchange) (List.mem_of_getElem? (i := 722) (by decide +kernel)) rfl)
def fX0_exchange (i1 : Int32) (i2 : Int32) (S : M2) : Option (M2) :=
  bnd i1 15 <|
  lt ((S 5 i1.toNatClampNeg)) fun x1 =>
  bnd i2 15 <|
  bnd i1 15 <|
  lt (va_up S 5 (upd (S 5) i1.toNatClampNeg (S 5 i2.toNatClampNeg))) fun S2 =>
  bnd i2 15 <|
  lt (va_up S2 5 (upd (S2 5) i2.toNatClampNeg x1)) fun S3 =>
  some S3

set_option maxHeartbeats 4000000 in
set_option maxRecDepth 100000 in
theorem tX0_exchange (l : Launch) {V : JV M2} {b : Nat} {a : Nat → Nat} (hv : vX1 V b a) (S : M2) (i1 : Int32) (i2 : Int32) : JC l V yX0_exchange cX0_exchange 4 none jj_v 0 [.ref (a 5), .int i1, .int i2] S ((fX0_exchange i1 i2 S).map (fun q => ((), q))) := by
  refine jj_of (by decide) (Nat.le_of_ble_eq_true rfl) (fun E hlE hE => ?_)
  unfold fX0_exchange
  refine J_sub (L' := [(0, .ref (a 5)), (1, .int i1), (2, .int i2)]) [0, 1, 2] rfl ?_
  refine J_aload_n hE dd_X0_exchange_0 0 rfl rfl ?_
  refine J_iload_n hE dd_X0_exchange_1 1 rfl rfl ?_
  refine J_ald hE (hv.arr 5 (n := 15) (ty := .int) (by decide) _) dd_X0_exchange_2 ?_
  refine J_leti (fun x1 => ?_)
  refine J_istore_n hE (L' := [(3, .int x1), (0, .ref (a 5)), (1, .int i1), (2, .int i2)]) dd_X0_exchange_3 (Nat.le_of_ble_eq_true rfl) rfl rfl ?_
  refine J_aload_n hE dd_X0_exchange_4 1 rfl rfl ?_
  refine J_iload_n hE dd_X0_exchange_5 2 rfl rfl ?_
  refine J_aload_n hE dd_X0_exchange_6 1 rfl rfl ?_
  refine J_iload_n hE dd_X0_exchange_7 3 rfl rfl ?_
  refine J_ald hE (hv.arr 5 (n := 15) (ty := .int) (by decide) _) dd_X0_exchange_8 ?_
  refine J_ast hE hv 5 (N := 15) (by decide) dd_X0_exchange_9 ?_
  refine J_letS (fun S2 => ?_)
  refine J_aload_n hE dd_X0_exchange_10 1 rfl rfl ?_
  refine J_iload_n hE dd_X0_exchange_11 3 rfl rfl ?_
  refine J_iload_n hE dd_X0_exchange_12 0 rfl rfl ?_
  refine J_ast hE hv 5 (N := 15) (by decide) dd_X0_exchange_13 ?_
  refine J_letS (fun S3 => ?_)
  exact J_vret hE dd_X0_exchange_14 rfl rfl
theorem dd_X0_orderFrom_0 : jd cX0_orderFrom 0 (.iload_n 2) 1 1 := ⟨by decide +kernel, rfl⟩
theorem dd_X0_orderFrom_1 : jd cX0_orderFrom 1 (.iload_n 3) 1 2 := ⟨by decide +kernel, rfl⟩
theorem dd_X0_orderFrom_70 : jd cX0_orderFrom 70 (.iload_n 2) 1 71 := ⟨by decide +kernel, rfl⟩
theorem dd_X0_orderFrom_71 : jd cX0_orderFrom 71 (.istore 4) 2 73 := ⟨by decide +kernel, rfl⟩
theorem dd_X0_orderFrom_73 : jd cX0_orderFrom 73 (.iload 4) 2 75 := ⟨by decide +kernel, rfl⟩
theorem dd_X0_orderFrom_75 : jd cX0_orderFrom 75 (.iload_n 3) 1 76 := ⟨by decide +kernel, rfl⟩
theorem dd_X0_orderFrom_79 : jd cX0_orderFrom 79 (.aload_n 0) 1 80 := ⟨by decide +kernel, rfl⟩
theorem dd_X0_orderFrom_80 : jd cX0_orderFrom 80 (.getfield 12) 3 83 := ⟨by decide +kernel, rfl⟩
theorem dd_X0_orderFrom_83 : jd cX0_orderFrom 83 (.getfield 56) 3 86 := ⟨by decide +kernel, rfl⟩
theorem dd_X0_orderFrom_86 : jd cX0_orderFrom 86 (.iload_n 2) 1 87 := ⟨by decide +kernel, rfl⟩
theorem dd_X0_orderFrom_87 : jd cX0_orderFrom 87 (.iload 4) 2 89 := ⟨by decide +kernel, rfl⟩
theorem ml_RX0_86 : (Cond.methodLink "MothCustoms$Search" 86 yX0_exchange : Cond) ∈ jj_tb := jj_m (List.mem_of_getElem? (i := 721) (by decide +kernel)) rfl
theorem dd_X0_orderFrom_89 : jd cX0_orderFrom 89 (.invokestatic 86) 3 92 := ⟨by decide +kernel, rfl⟩
theorem dd_X0_orderFrom_92 : jd cX0_orderFrom 92 (.aload_n 0) 1 93 := ⟨by decide +kernel, rfl⟩
theorem dd_X0_orderFrom_93 : jd cX0_orderFrom 93 (.aload_n 1) 1 94 := ⟨by decide +kernel, rfl⟩
theorem dd_X0_orderFrom_94 : jd cX0_orderFrom 94 (.iload_n 2) 1 95 := ⟨by decide +kernel, rfl⟩
theorem dd_X0_orderFrom_95 : jd cX0_orderFrom 95 (.iconst 1) 1 96 := ⟨by decide +kernel, rfl⟩
theorem dd_X0_orderFrom_96 : jd cX0_orderFrom 96 (.iadd) 1 97 := ⟨by decide +kernel, rfl⟩
theorem dd_X0_orderFrom_97 : jd cX0_orderFrom 97 (.iload_n 3) 1 98 := ⟨by decide +kernel, rfl⟩
theorem ml_RX0_79 : (Cond.methodLink "MothCustoms$Search" 79 yX0_orderFrom : Cond) ∈ jj_tb := jj_m (List.mem_of_getElem? (i := 717) (by decide +kernel)) rfl
theorem m_X0_orderFrom : jmS yX0_orderFrom cX0_orderFrom 5 none 4 := ⟨(jj_m (w := Cond.code yX0_orderFrom cX0_orderFrom 5 none) (List.mem_of_getElem? (i := 719) (by decide +kernel)) rfl), (jj_m (w := Cond.initialized yX0_orderFrom.cls) (List.mem_of_getElem? (i := 68) (by decide +kernel)) rfl), ⟨by decide, by decide⟩, by decide +kernel⟩
theorem s_X0_orderFrom : (Cond.static yX0_orderFrom : Cond) ∈ jj_tb := (jj_m (w := Cond.static yX0_orderFrom) (List.mem_of_getElem? (i := 718) (by decide +kernel)) rfl)
theorem dd_X0_orderFrom_98 : jd cX0_orderFrom 98 (.invokestatic 79) 3 101 := ⟨by decide +kernel, rfl⟩
theorem dd_X0_orderFrom_101 : jd cX0_orderFrom 101 (.aload_n 0) 1 102 := ⟨by decide +kernel, rfl⟩
theorem dd_X0_orderFrom_102 : jd cX0_orderFrom 102 (.getfield 12) 3 105 := ⟨by decide +kernel, rfl⟩
theorem dd_X0_orderFrom_105 : jd cX0_orderFrom 105 (.getfield 56) 3 108 := ⟨by decide +kernel, rfl⟩
theorem dd_X0_orderFrom_108 : jd cX0_orderFrom 108 (.iload_n 2) 1 109 := ⟨by decide +kernel, rfl⟩
theorem dd_X0_orderFrom_109 : jd cX0_orderFrom 109 (.iload 4) 2 111 := ⟨by decide +kernel, rfl⟩
theorem dd_X0_orderFrom_111 : jd cX0_orderFrom 111 (.invokestatic 86) 3 114 := ⟨by decide +kernel, rfl⟩
theorem dd_X0_orderFrom_114 : jd cX0_orderFrom 114 (.iinc 4 1) 3 117 := ⟨by decide +kernel, rfl⟩
theorem dd_X0_orderFrom_117 : jd cX0_orderFrom 117 (.goto (-44)) 3 120 := ⟨by decide +kernel, rfl⟩
theorem dd_X0_orderFrom_76 : jd cX0_orderFrom 76 (.if_icmp .ge 44) 3 79 := ⟨by decide +kernel, rfl⟩
theorem dd_X0_orderFrom_120 : jd cX0_orderFrom 120 (.return_) 1 121 := ⟨by decide +kernel, rfl⟩
theorem dd_X0_orderFrom_5 : jd cX0_orderFrom 5 (.aload_n 0) 1 6 := ⟨by decide +kernel, rfl⟩
theorem dd_X0_orderFrom_6 : jd cX0_orderFrom 6 (.getfield 12) 3 9 := ⟨by decide +kernel, rfl⟩
theorem dd_X0_orderFrom_9 : jd cX0_orderFrom 9 (.aload_n 1) 1 10 := ⟨by decide +kernel, rfl⟩
theorem dd_X0_orderFrom_10 : jd cX0_orderFrom 10 (.invokevirtual 59) 3 13 := ⟨by decide +kernel, rfl⟩
theorem dd_X0_orderFrom_13 : jd cX0_orderFrom 13 (.aload_n 0) 1 14 := ⟨by decide +kernel, rfl⟩
theorem dd_X0_orderFrom_14 : jd cX0_orderFrom 14 (.getfield 12) 3 17 := ⟨by decide +kernel, rfl⟩
theorem dd_X0_orderFrom_17 : jd cX0_orderFrom 17 (.bipush 15) 2 19 := ⟨by decide +kernel, rfl⟩
theorem dd_X0_orderFrom_19 : jd cX0_orderFrom 19 (.invokevirtual 62) 3 22 := ⟨by decide +kernel, rfl⟩
theorem dd_X0_orderFrom_22 : jd cX0_orderFrom 22 (.aload_n 0) 1 23 := ⟨by decide +kernel, rfl⟩
theorem dd_X0_orderFrom_23 : jd cX0_orderFrom 23 (.getfield 12) 3 26 := ⟨by decide +kernel, rfl⟩
theorem dd_X0_orderFrom_26 : jd cX0_orderFrom 26 (.getfield 56) 3 29 := ⟨by decide +kernel, rfl⟩
theorem dd_X0_orderFrom_29 : jd cX0_orderFrom 29 (.iload_n 3) 1 30 := ⟨by decide +kernel, rfl⟩
theorem dd_X0_orderFrom_30 : jd cX0_orderFrom 30 (.iconst 1) 1 31 := ⟨by decide +kernel, rfl⟩
theorem dd_X0_orderFrom_31 : jd cX0_orderFrom 31 (.isub) 1 32 := ⟨by decide +kernel, rfl⟩
theorem dd_X0_orderFrom_32 : jd cX0_orderFrom 32 (.iload_n 3) 1 33 := ⟨by decide +kernel, rfl⟩
theorem dd_X0_orderFrom_33 : jd cX0_orderFrom 33 (.iconst 1) 1 34 := ⟨by decide +kernel, rfl⟩
theorem dd_X0_orderFrom_34 : jd cX0_orderFrom 34 (.isub) 1 35 := ⟨by decide +kernel, rfl⟩
theorem dd_X0_orderFrom_35 : jd cX0_orderFrom 35 (.iconst 5) 1 36 := ⟨by decide +kernel, rfl⟩
theorem dd_X0_orderFrom_36 : jd cX0_orderFrom 36 (.irem) 1 37 := ⟨by decide +kernel, rfl⟩
theorem dd_X0_orderFrom_37 : jd cX0_orderFrom 37 (.isub) 1 38 := ⟨by decide +kernel, rfl⟩
theorem dd_X0_orderFrom_38 : jd cX0_orderFrom 38 (.iaload) 1 39 := ⟨by decide +kernel, rfl⟩
theorem dd_X0_orderFrom_39 : jd cX0_orderFrom 39 (.istore 4) 2 41 := ⟨by decide +kernel, rfl⟩
theorem dd_X0_orderFrom_41 : jd cX0_orderFrom 41 (.aload_n 0) 1 42 := ⟨by decide +kernel, rfl⟩
theorem dd_X0_orderFrom_42 : jd cX0_orderFrom 42 (.dup) 1 43 := ⟨by decide +kernel, rfl⟩
theorem fl_RX0_76 : (Cond.fieldLink "MothCustoms$Search" 76 "MothCustoms$Search" "tops" "I" : Cond) ∈ jj_tb := jj_m (List.mem_of_getElem? (i := 254) (by decide +kernel)) rfl
theorem dd_X0_orderFrom_43 : jd cX0_orderFrom 43 (.getfield 76) 3 46 := ⟨by decide +kernel, rfl⟩
theorem dd_X0_orderFrom_46 : jd cX0_orderFrom 46 (.aload_n 0) 1 47 := ⟨by decide +kernel, rfl⟩
theorem dd_X0_orderFrom_47 : jd cX0_orderFrom 47 (.getfield 12) 3 50 := ⟨by decide +kernel, rfl⟩
theorem dd_X0_orderFrom_50 : jd cX0_orderFrom 50 (.iconst 0) 1 51 := ⟨by decide +kernel, rfl⟩
theorem ml_RX0_82 : (Cond.methodLink "MothCustoms$Search" 82 yX1_isAsSeen : Cond) ∈ jj_tb := jj_m (List.mem_of_getElem? (i := 720) (by decide +kernel)) rfl
theorem dd_X0_orderFrom_51 : jd cX0_orderFrom 51 (.invokevirtual 82) 3 54 := ⟨by decide +kernel, rfl⟩
theorem dd_X0_orderFrom_64 : jd cX0_orderFrom 64 (.iconst 0) 1 65 := ⟨by decide +kernel, rfl⟩
theorem dd_X0_orderFrom_65 : jd cX0_orderFrom 65 (.ior) 1 66 := ⟨by decide +kernel, rfl⟩
theorem dd_X0_orderFrom_66 : jd cX0_orderFrom 66 (.putfield 76) 3 69 := ⟨by decide +kernel, rfl⟩
theorem dd_X0_orderFrom_69 : jd cX0_orderFrom 69 (.return_) 1 70 := ⟨by decide +kernel, rfl⟩
theorem dd_X0_orderFrom_57 : jd cX0_orderFrom 57 (.iconst 1) 1 58 := ⟨by decide +kernel, rfl⟩
theorem dd_X0_orderFrom_58 : jd cX0_orderFrom 58 (.iload 4) 2 60 := ⟨by decide +kernel, rfl⟩
theorem dd_X0_orderFrom_60 : jd cX0_orderFrom 60 (.ishl) 1 61 := ⟨by decide +kernel, rfl⟩
theorem dd_X0_orderFrom_61 : jd cX0_orderFrom 61 (.goto 4) 3 64 := ⟨by decide +kernel, rfl⟩
theorem dd_X0_orderFrom_54 : jd cX0_orderFrom 54 (.ifCond .eq 10) 3 57 := ⟨by decide +kernel, rfl⟩
theorem dd_X0_orderFrom_2 : jd cX0_orderFrom 2 (.if_icmp .lt 68) 3 5 := ⟨by decide +kernel, rfl⟩
def fX0_orderFrom_L73 (T : M2) (S : M2) (i2 : Int32) (i3 : Int32) (self : Int32 → Int32 → M2 → M2 → Option (M2 × M2)) (k120 : (M2 × M2) → Option (M2 × M2)) : Nat → Int32 → M2 → M2 → Option (M2 × M2)
  | 0, _, _, _ => none
  | n_ + 1, v1, T2, S3 =>
    if i3 ≤ v1 then
      k120 (T2, S3)
    else
      (fX0_exchange i2 v1 S3).bind fun q4 =>
      lt (q4) fun S5 =>
      (self (i2 + (1 : Int32)) i3 T2 S5).bind fun q6 =>
      lt q6.1 fun T7 => lt q6.2 fun S8 =>
      (fX0_exchange i2 v1 S8).bind fun q9 =>
      lt (q9) fun S10 =>
      lt (v1 + (1 : Int32)) fun x11 =>
      fX0_orderFrom_L73 T S i2 i3 self k120 n_ x11 T7 S10

def fX0_orderFrom : Nat → Int32 → Int32 → M2 → M2 → M2 → Option (M2 × M2)
  | 0, _, _, _, _, _ => none
  | n_ + 1, i2, i3, T, S, N =>
    if i2 < i3 then
      fX0_orderFrom_L73 T S i2 i3 (fun i2 i3 T S => fX0_orderFrom n_ i2 i3 T S N)
        (fun p13 =>
          some (p13.1, p13.2))
        400 i2 T S
    else
      (fX1_copyHolesFrom  S N).bind fun q14 =>
      lt (q14) fun S15 =>
      (fX1_letLoose (15 : Int32) S15).bind fun q16 =>
      lt (q16) fun S17 =>
      if (5 : Int32) = 0 then none else
      bnd ((i3 - (1 : Int32)) - ((i3 - (1 : Int32)) - (i3 - (1 : Int32)) / (5 : Int32) * (5 : Int32))) 15 <|
      lt ((S17 5 ((i3 - (1 : Int32)) - ((i3 - (1 : Int32)) - (i3 - (1 : Int32)) / (5 : Int32) * (5 : Int32))).toNatClampNeg)) fun x18 =>
      (fX1_isAsSeen (0 : Int32) S17).bind fun r19 =>
      if r19 = 0 then
        lt (va_up T 5 (fun _ => ((T 5 0) ||| (0 : Int32)))) fun T20 =>
        some (T20, S17)
      else
        lt (va_up T 5 (fun _ => ((T 5 0) ||| ((1 : Int32) <<< (x18 &&& 31))))) fun T21 =>
        some (T21, S17)

set_option maxHeartbeats 4000000 in
set_option maxRecDepth 100000 in
theorem tX0_orderFrom_L73 {V : JV (M2 × M2)} {b : Nat} {a : Nat → Nat} {b2 : Nat} {a2 : Nat → Nat} {b3 : Nat} {a3 : Nat → Nat} {N : M2} (hv1 : v1X0 V b a b2) (hv2 : v2X1 V b2 a2) (hr : rX1 V b3 a3 N) (T : M2) (S : M2) (i2 : Int32) (i3 : Int32) (self : Int32 → Int32 → M2 → M2 → Option (M2 × M2)) {E : JE (M2 × M2) Unit} {d dS : Nat} (hE : JOk V E cX0_orderFrom yX0_orderFrom.cls 5 d none jj_v) (hd0 : 4 ≤ d) (hdS : dS + 1 ≤ d) (hself : ∀ (T S : M2) (i2 i3 : Int32), JC E.2.1 V yX0_orderFrom cX0_orderFrom 5 none jj_v dS [.ref b, .ref b3, .int i2, .int i3] (T, S) ((self i2 i3 T S).map (fun q => ((), q)))) {k120 : (M2 × M2) → Option (M2 × M2)} (hk120 : ∀ p, J V E (fun q => ((), q)) (k120 p) 120 [] [] (p.1, p.2)) : ∀ (n_ : Nat) (v1 : Int32) (T2 : M2) (S3 : M2), J V E (fun q => ((), q)) (fX0_orderFrom_L73 T S i2 i3 self k120 n_ v1 T2 S3) 73 [(0, .ref b), (1, .ref b3), (2, .int i2), (3, .int i3), (4, .int v1)] [] (T2, S3) := by
  intro n_
  induction n_ with
  | zero =>
    intros
    exact J_none
  | succ n_ ih =>
    intros v1 T2 S3
    rw [fX0_orderFrom_L73]
    refine J_iload hE dd_X0_orderFrom_73 4 rfl ?_
    refine J_iload_n hE dd_X0_orderFrom_75 3 rfl rfl ?_
    refine J_icmp_ge hE (tgt := 120) dd_X0_orderFrom_76 (by decide) (fun c12 => ?_) (fun c12 => ?_)
    · refine J_sub [] rfl ?_
      exact hk120 (T2, S3)
    · refine J_aload_n hE dd_X0_orderFrom_79 0 rfl rfl ?_
      refine J_get hE (hv1.ob _) jc_X0 0 (by decide) fl_RX0_12 (v := .ref b2) rfl dd_X0_orderFrom_80 ?_
      refine J_get hE (hv2.ob _) jc_X1 5 (by decide) fl_RX0_56 (v := .ref (a2 5)) rfl dd_X0_orderFrom_83 ?_
      refine J_iload_n hE dd_X0_orderFrom_86 2 rfl rfl ?_
      refine J_iload hE dd_X0_orderFrom_87 4 rfl ?_
      refine J_invSwv hE (e := fun S => (T2, S)) (As := [.ref (a2 5), .int i2, .int v1]) (st := []) (JC.lift_v (e := fun S => (T2, S)) (tX0_exchange E.2.1 (v2X1s hv2 T2) S3 i2 v1) rfl) m_X0_exchange s_X0_exchange rfl ml_RX0_86 (Nat.le_trans (Nat.le_of_ble_eq_true rfl) hd0) (Nat.le_of_ble_eq_true rfl) rfl (Nat.le_of_ble_eq_true rfl) dd_X0_orderFrom_89 (fun q4 => ?_)
      refine J_let2 (T := T2) (fun S5 => ?_)
      refine J_aload_n hE dd_X0_orderFrom_92 0 rfl rfl ?_
      refine J_aload_n hE dd_X0_orderFrom_93 1 rfl rfl ?_
      refine J_iload_n hE dd_X0_orderFrom_94 2 rfl rfl ?_
      refine J_iconst hE (v := (1 : Int32)) dd_X0_orderFrom_95 (by decide) ?_
      refine J_iadd hE dd_X0_orderFrom_96 ?_
      refine J_iload_n hE dd_X0_orderFrom_97 3 rfl rfl ?_
      refine J_invSwv hE (e := fun x => x) (As := [.ref b, .ref b3, .int (i2 + (1 : Int32)), .int i3]) (st := []) (hself T2 S5 (i2 + (1 : Int32)) i3) m_X0_orderFrom s_X0_orderFrom rfl ml_RX0_79 hdS (Nat.le_of_ble_eq_true rfl) rfl (Nat.le_of_ble_eq_true rfl) dd_X0_orderFrom_98 (fun q6 => ?_)
      refine J_letP (fun T7 S8 => ?_)
      refine J_aload_n hE dd_X0_orderFrom_101 0 rfl rfl ?_
      refine J_get hE (hv1.ob _) jc_X0 0 (by decide) fl_RX0_12 (v := .ref b2) rfl dd_X0_orderFrom_102 ?_
      refine J_get hE (hv2.ob _) jc_X1 5 (by decide) fl_RX0_56 (v := .ref (a2 5)) rfl dd_X0_orderFrom_105 ?_
      refine J_iload_n hE dd_X0_orderFrom_108 2 rfl rfl ?_
      refine J_iload hE dd_X0_orderFrom_109 4 rfl ?_
      refine J_invSwv hE (e := fun S => (T7, S)) (As := [.ref (a2 5), .int i2, .int v1]) (st := []) (JC.lift_v (e := fun S => (T7, S)) (tX0_exchange E.2.1 (v2X1s hv2 T7) S8 i2 v1) rfl) m_X0_exchange s_X0_exchange rfl ml_RX0_86 (Nat.le_trans (Nat.le_of_ble_eq_true rfl) hd0) (Nat.le_of_ble_eq_true rfl) rfl (Nat.le_of_ble_eq_true rfl) dd_X0_orderFrom_111 (fun q9 => ?_)
      refine J_let2 (T := T7) (fun S10 => ?_)
      refine J_iincL hE (v := (v1 + (1 : Int32))) (Lf := fun x11 => [(4, .int x11), (0, .ref b), (1, .ref b3), (2, .int i2), (3, .int i3)]) dd_X0_orderFrom_114 (j := 4) rfl (congrArg (v1 + ·) (by decide)) (Nat.le_of_ble_eq_true rfl) (fun _ => rfl) (fun x11 => ?_)
      refine J_goto hE (tgt := 73) dd_X0_orderFrom_117 (by decide) ?_
      refine J_sub [1, 2, 3, 4, 0] rfl ?_
      exact ih x11 T7 S10
set_option maxHeartbeats 4000000 in
set_option maxRecDepth 100000 in
theorem tX0_orderFrom (l : Launch) : ∀ (n_ : Nat) {V : JV (M2 × M2)} {b : Nat} {a : Nat → Nat} {b2 : Nat} {a2 : Nat → Nat} {b3 : Nat} {a3 : Nat → Nat} {N : M2} (hv1 : v1X0 V b a b2) (hv2 : v2X1 V b2 a2) (hr : rX1 V b3 a3 N) (T S : M2) (i2 : Int32) (i3 : Int32), JC l V yX0_orderFrom cX0_orderFrom 5 none jj_v (4 + n_) [.ref b, .ref b3, .int i2, .int i3] (T, S) ((fX0_orderFrom n_ i2 i3 T S N).map (fun q => ((), q))) := by
  intro n_
  induction n_ with
  | zero =>
    intros
    rw [fX0_orderFrom]
    exact JC_none
  | succ n_ ih =>
    intro V b a b2 a2 b3 a3 N hv1 hv2 hr T S i2 i3
    refine jj_of (by decide) (Nat.le_of_ble_eq_true rfl) (fun E hlE hE => ?_)
    have hself := fun (T S : M2) (i2 i3 : Int32) => ih (V := V) hv1 hv2 hr T S i2 i3
    rw [← hlE] at hself
    have hd0 : 4 ≤ 4 + (n_ + 1) := by omega
    have hdS : 4 + n_ + 1 ≤ 4 + (n_ + 1) := by omega
    rw [fX0_orderFrom]
    refine J_sub (L' := [(0, .ref b), (1, .ref b3), (2, .int i2), (3, .int i3)]) [0, 1, 2, 3] rfl ?_
    refine J_iload_n hE dd_X0_orderFrom_0 2 rfl rfl ?_
    refine J_iload_n hE dd_X0_orderFrom_1 3 rfl rfl ?_
    refine J_icmp_lt hE (tgt := 70) dd_X0_orderFrom_2 (by decide) (fun c23 => ?_) (fun c23 => ?_)
    · refine J_iload_n hE dd_X0_orderFrom_70 2 rfl rfl ?_
      refine J_istore hE (L' := [(4, .int i2), (0, .ref b), (1, .ref b3), (2, .int i2), (3, .int i3)]) dd_X0_orderFrom_71 (Nat.le_of_ble_eq_true rfl) rfl ?_
      refine J_sub [1, 2, 3, 4, 0] rfl ?_
      refine tX0_orderFrom_L73 hv1 hv2 hr T S i2 i3 (fun i2 i3 T S => fX0_orderFrom n_ i2 i3 T S N) hE hd0 hdS hself (fun p13 => ?_) 400 i2 T S
      show J V E _ _ 120 [] [] (p13.1, p13.2)
      exact J_vret hE dd_X0_orderFrom_120 rfl rfl
    · refine J_aload_n hE dd_X0_orderFrom_5 0 rfl rfl ?_
      refine J_get hE (hv1.ob _) jc_X0 0 (by decide) fl_RX0_12 (v := .ref b2) rfl dd_X0_orderFrom_6 ?_
      refine J_aload_n hE dd_X0_orderFrom_9 1 rfl rfl ?_
      refine J_invVwv hE (e := fun S => (T, S)) (As := [.ref b3]) (st := []) (JC.lift_v (e := fun S => (T, S)) (tX1_copyHolesFrom E.2.1 (v2X1s hv2 T) (rX1s hr T) S ) rfl) (hv2.ob _) m_X1_copyHolesFrom rfl ml_RX0_59 (Nat.le_trans (Nat.le_of_ble_eq_true rfl) hd0) (Nat.le_of_ble_eq_true rfl) rfl (Nat.le_of_ble_eq_true rfl) dd_X0_orderFrom_10 (fun q14 => ?_)
      refine J_let2 (T := T) (fun S15 => ?_)
      refine J_aload_n hE dd_X0_orderFrom_13 0 rfl rfl ?_
      refine J_get hE (hv1.ob _) jc_X0 0 (by decide) fl_RX0_12 (v := .ref b2) rfl dd_X0_orderFrom_14 ?_
      refine J_bipush hE (v := (15 : Int32)) dd_X0_orderFrom_17 (by decide) ?_
      refine J_invVwv hE (e := fun S => (T, S)) (As := [.int (15 : Int32)]) (st := []) (JC.lift_v (e := fun S => (T, S)) (tX1_letLoose E.2.1 (v2X1s hv2 T) S15 (15 : Int32)) rfl) (hv2.ob _) m_X1_letLoose rfl ml_RX0_62 (Nat.le_trans (Nat.le_of_ble_eq_true rfl) hd0) (Nat.le_of_ble_eq_true rfl) rfl (Nat.le_of_ble_eq_true rfl) dd_X0_orderFrom_19 (fun q16 => ?_)
      refine J_let2 (T := T) (fun S17 => ?_)
      refine J_aload_n hE dd_X0_orderFrom_22 0 rfl rfl ?_
      refine J_get hE (hv1.ob _) jc_X0 0 (by decide) fl_RX0_12 (v := .ref b2) rfl dd_X0_orderFrom_23 ?_
      refine J_get hE (hv2.ob _) jc_X1 5 (by decide) fl_RX0_56 (v := .ref (a2 5)) rfl dd_X0_orderFrom_26 ?_
      refine J_iload_n hE dd_X0_orderFrom_29 3 rfl rfl ?_
      refine J_iconst hE (v := (1 : Int32)) dd_X0_orderFrom_30 (by decide) ?_
      refine J_isub hE dd_X0_orderFrom_31 ?_
      refine J_iload_n hE dd_X0_orderFrom_32 3 rfl rfl ?_
      refine J_iconst hE (v := (1 : Int32)) dd_X0_orderFrom_33 (by decide) ?_
      refine J_isub hE dd_X0_orderFrom_34 ?_
      refine J_iconst hE (v := (5 : Int32)) dd_X0_orderFrom_35 (by decide) ?_
      refine J_irem hE dd_X0_orderFrom_36 (fun _ => ?_)
      refine J_isub hE dd_X0_orderFrom_37 ?_
      refine J_ald hE (hv2.arr 5 (n := 15) (ty := .int) (by decide) _) dd_X0_orderFrom_38 ?_
      refine J_leti (fun x18 => ?_)
      refine J_istore hE (L' := [(4, .int x18), (0, .ref b), (1, .ref b3), (2, .int i2), (3, .int i3)]) dd_X0_orderFrom_39 (Nat.le_of_ble_eq_true rfl) rfl ?_
      refine J_aload_n hE dd_X0_orderFrom_41 1 rfl rfl ?_
      refine J_dup hE dd_X0_orderFrom_42 rfl ?_
      refine J_get hE (hv1.ob _) jc_X0 5 (by decide) fl_RX0_76 (v := .int (T 5 0)) rfl dd_X0_orderFrom_43 ?_
      refine J_aload_n hE dd_X0_orderFrom_46 1 rfl rfl ?_
      refine J_get hE (hv1.ob _) jc_X0 0 (by decide) fl_RX0_12 (v := .ref b2) rfl dd_X0_orderFrom_47 ?_
      refine J_iconst hE (v := (0 : Int32)) dd_X0_orderFrom_50 (by decide) ?_
      refine J_invVri hE (As := [.int (0 : Int32)]) (st := [.int (T 5 0), .ref b]) (JC.lift_r (e := fun S => (T, S)) (tX1_isAsSeen E.2.1 (v2X1s hv2 T) S17 (0 : Int32)) rfl) (hv2.ob _) m_X1_isAsSeen rfl ml_RX0_82 (Nat.le_trans (Nat.le_of_ble_eq_true rfl) hd0) (Nat.le_of_ble_eq_true rfl) rfl (Nat.le_of_ble_eq_true rfl) dd_X0_orderFrom_51 (fun r19 => ?_)
      refine J_if_eq hE (tgt := 64) dd_X0_orderFrom_54 (by decide) (fun c22 => ?_) (fun c22 => ?_)
      · refine J_iconst hE (v := (0 : Int32)) dd_X0_orderFrom_64 (by decide) ?_
        refine J_ior hE dd_X0_orderFrom_65 ?_
        refine J_put hE hv1 jc_X0 5 (by decide) (by decide) fl_RX0_76 rfl rfl rfl (Nat.le_of_ble_eq_true rfl) dd_X0_orderFrom_66 ?_
        refine J_let1 (S := S17) (fun T20 => ?_)
        exact J_vret hE dd_X0_orderFrom_69 rfl rfl
      · refine J_iconst hE (v := (1 : Int32)) dd_X0_orderFrom_57 (by decide) ?_
        refine J_iload hE dd_X0_orderFrom_58 0 rfl ?_
        refine J_ishl hE dd_X0_orderFrom_60 ?_
        refine J_goto hE (tgt := 65) dd_X0_orderFrom_61 (by decide) ?_
        refine J_ior hE dd_X0_orderFrom_65 ?_
        refine J_put hE hv1 jc_X0 5 (by decide) (by decide) fl_RX0_76 rfl rfl rfl (Nat.le_of_ble_eq_true rfl) dd_X0_orderFrom_66 ?_
        refine J_let1 (S := S17) (fun T21 => ?_)
        exact J_vret hE dd_X0_orderFrom_69 rfl rfl
theorem dd_X0_findTops_0 : jd cX0_findTops 0 (.aload_n 0) 1 1 := ⟨by decide +kernel, rfl⟩
theorem dd_X0_findTops_1 : jd cX0_findTops 1 (.getfield 12) 3 4 := ⟨by decide +kernel, rfl⟩
theorem dd_X0_findTops_4 : jd cX0_findTops 4 (.aload_n 1) 1 5 := ⟨by decide +kernel, rfl⟩
theorem dd_X0_findTops_5 : jd cX0_findTops 5 (.invokevirtual 25) 3 8 := ⟨by decide +kernel, rfl⟩
theorem dd_X0_findTops_8 : jd cX0_findTops 8 (.aload_n 0) 1 9 := ⟨by decide +kernel, rfl⟩
theorem dd_X0_findTops_9 : jd cX0_findTops 9 (.iconst 0) 1 10 := ⟨by decide +kernel, rfl⟩
theorem dd_X0_findTops_10 : jd cX0_findTops 10 (.putfield 76) 3 13 := ⟨by decide +kernel, rfl⟩
theorem dd_X0_findTops_13 : jd cX0_findTops 13 (.aload_n 1) 1 14 := ⟨by decide +kernel, rfl⟩
theorem dd_X0_findTops_14 : jd cX0_findTops 14 (.getfield 29) 3 17 := ⟨by decide +kernel, rfl⟩
theorem dd_X0_findTops_17 : jd cX0_findTops 17 (.iload_n 2) 1 18 := ⟨by decide +kernel, rfl⟩
theorem dd_X0_findTops_18 : jd cX0_findTops 18 (.iaload) 1 19 := ⟨by decide +kernel, rfl⟩
theorem dd_X0_findTops_40 : jd cX0_findTops 40 (.aload_n 0) 1 41 := ⟨by decide +kernel, rfl⟩
theorem dd_X0_findTops_41 : jd cX0_findTops 41 (.getfield 76) 3 44 := ⟨by decide +kernel, rfl⟩
theorem dd_X0_findTops_44 : jd cX0_findTops 44 (.ireturn) 1 45 := ⟨by decide +kernel, rfl⟩
theorem dd_X0_findTops_22 : jd cX0_findTops 22 (.aload_n 0) 1 23 := ⟨by decide +kernel, rfl⟩
theorem dd_X0_findTops_23 : jd cX0_findTops 23 (.aload_n 1) 1 24 := ⟨by decide +kernel, rfl⟩
theorem dd_X0_findTops_24 : jd cX0_findTops 24 (.iload_n 2) 1 25 := ⟨by decide +kernel, rfl⟩
theorem dd_X0_findTops_25 : jd cX0_findTops 25 (.iconst 5) 1 26 := ⟨by decide +kernel, rfl⟩
theorem dd_X0_findTops_26 : jd cX0_findTops 26 (.imul) 1 27 := ⟨by decide +kernel, rfl⟩
theorem dd_X0_findTops_27 : jd cX0_findTops 27 (.iload_n 2) 1 28 := ⟨by decide +kernel, rfl⟩
theorem dd_X0_findTops_28 : jd cX0_findTops 28 (.iconst 5) 1 29 := ⟨by decide +kernel, rfl⟩
theorem dd_X0_findTops_29 : jd cX0_findTops 29 (.imul) 1 30 := ⟨by decide +kernel, rfl⟩
theorem dd_X0_findTops_30 : jd cX0_findTops 30 (.aload_n 1) 1 31 := ⟨by decide +kernel, rfl⟩
theorem dd_X0_findTops_31 : jd cX0_findTops 31 (.getfield 29) 3 34 := ⟨by decide +kernel, rfl⟩
theorem dd_X0_findTops_34 : jd cX0_findTops 34 (.iload_n 2) 1 35 := ⟨by decide +kernel, rfl⟩
theorem dd_X0_findTops_35 : jd cX0_findTops 35 (.iaload) 1 36 := ⟨by decide +kernel, rfl⟩
theorem dd_X0_findTops_36 : jd cX0_findTops 36 (.iadd) 1 37 := ⟨by decide +kernel, rfl⟩
theorem dd_X0_findTops_37 : jd cX0_findTops 37 (.invokestatic 79) 3 40 := ⟨by decide +kernel, rfl⟩
theorem dd_X0_findTops_19 : jd cX0_findTops 19 (.ifCond .le 21) 3 22 := ⟨by decide +kernel, rfl⟩
theorem m_X0_findTops : jmV yX0_findTops cX0_findTops 3 (some .int) 2 := ⟨⟨(jj_m (w := Cond.code yX0_findTops cX0_findTops 3 (some .int)) (List.mem_of_getElem? (i := 716) (by decide +kernel)) rfl), (jj_m (w := Cond.initialized yX0_findTops.cls) (List.mem_of_getElem? (i := 68) (by decide +kernel)) rfl), ⟨by decide, by decide⟩, by decide +kernel⟩, (jj_m (w := Cond.instanceMethod yX0_findTops) (List.mem_of_getElem? (i := 714) (by decide +kernel)) rfl), (jj_m (w := Cond.selects yX0_findTops.cls yX0_findTops yX0_findTops) (List.mem_of_getElem? (i := 715) (by decide +kernel)) rfl)⟩
def fX0_findTops (i2 : Int32) (T : M2) (S : M2) (N : M2) : Option (Int32 × (M2 × M2)) :=
  (fX1_copyFrom  S N).bind fun q1 =>
  lt (q1) fun S2 =>
  lt (va_up T 5 (fun _ => (0 : Int32))) fun T3 =>
  bnd i2 3 <|
  if (N 6 i2.toNatClampNeg) ≤ 0 then
    some ((T3 5 0), (T3, S2))
  else
    bnd i2 3 <|
    (fX0_orderFrom 7 (i2 * (5 : Int32)) ((i2 * (5 : Int32)) + (N 6 i2.toNatClampNeg)) T3 S2 N).bind fun q4 =>
    lt q4.1 fun T5 => lt q4.2 fun S6 =>
    some ((T5 5 0), (T5, S6))

set_option maxHeartbeats 4000000 in
set_option maxRecDepth 100000 in
theorem tX0_findTops (l : Launch) {V : JV (M2 × M2)} {b : Nat} {a : Nat → Nat} {b2 : Nat} {a2 : Nat → Nat} {b3 : Nat} {a3 : Nat → Nat} {N : M2} (hv1 : v1X0 V b a b2) (hv2 : v2X1 V b2 a2) (hr : rX1 V b3 a3 N) (T : M2) (S : M2) (i2 : Int32) : JC l V yX0_findTops cX0_findTops 3 (some .int) jj_i 12 [.ref b, .ref b3, .int i2] (T, S) ((fX0_findTops i2 T S N).map (fun q => (q.1, q.2))) := by
  refine jj_of (by decide) (Nat.le_of_ble_eq_true rfl) (fun E hlE hE => ?_)
  unfold fX0_findTops
  refine J_sub (L' := [(0, .ref b), (1, .ref b3), (2, .int i2)]) [0, 1, 2] rfl ?_
  refine J_aload_n hE dd_X0_findTops_0 0 rfl rfl ?_
  refine J_get hE (hv1.ob _) jc_X0 0 (by decide) fl_RX0_12 (v := .ref b2) rfl dd_X0_findTops_1 ?_
  refine J_aload_n hE dd_X0_findTops_4 1 rfl rfl ?_
  refine J_invVwv hE (e := fun S => (T, S)) (As := [.ref b3]) (st := []) (JC.lift_v (e := fun S => (T, S)) (tX1_copyFrom E.2.1 (v2X1s hv2 T) (rX1s hr T) S ) rfl) (hv2.ob _) m_X1_copyFrom rfl ml_RX0_25 (Nat.le_of_ble_eq_true rfl) (Nat.le_of_ble_eq_true rfl) rfl (Nat.le_of_ble_eq_true rfl) dd_X0_findTops_5 (fun q1 => ?_)
  refine J_let2 (T := T) (fun S2 => ?_)
  refine J_aload_n hE dd_X0_findTops_8 0 rfl rfl ?_
  refine J_iconst hE (v := (0 : Int32)) dd_X0_findTops_9 (by decide) ?_
  refine J_put hE hv1 jc_X0 5 (by decide) (by decide) fl_RX0_76 rfl rfl rfl (Nat.le_of_ble_eq_true rfl) dd_X0_findTops_10 ?_
  refine J_let1 (S := S2) (fun T3 => ?_)
  refine J_aload_n hE dd_X0_findTops_13 1 rfl rfl ?_
  refine J_get hE (hr.ob _) jc_X1 6 (by decide) fl_RX0_29 (v := .ref (a3 6)) rfl dd_X0_findTops_14 ?_
  refine J_iload_n hE dd_X0_findTops_17 2 rfl rfl ?_
  refine J_ald hE (hr.arr 6 (n := 3) (ty := .int) (by decide) _) dd_X0_findTops_18 ?_
  refine J_if_le hE (tgt := 40) dd_X0_findTops_19 (by decide) (fun c7 => ?_) (fun c7 => ?_)
  · refine J_aload_n hE dd_X0_findTops_40 0 rfl rfl ?_
    refine J_get hE (hv1.ob _) jc_X0 5 (by decide) fl_RX0_76 (v := .int (T3 5 0)) rfl dd_X0_findTops_41 ?_
    exact J_iret hE dd_X0_findTops_44 rfl rfl
  · refine J_aload_n hE dd_X0_findTops_22 0 rfl rfl ?_
    refine J_aload_n hE dd_X0_findTops_23 1 rfl rfl ?_
    refine J_iload_n hE dd_X0_findTops_24 2 rfl rfl ?_
    refine J_iconst hE (v := (5 : Int32)) dd_X0_findTops_25 (by decide) ?_
    refine J_imul hE dd_X0_findTops_26 ?_
    refine J_iload_n hE dd_X0_findTops_27 2 rfl rfl ?_
    refine J_iconst hE (v := (5 : Int32)) dd_X0_findTops_28 (by decide) ?_
    refine J_imul hE dd_X0_findTops_29 ?_
    refine J_aload_n hE dd_X0_findTops_30 1 rfl rfl ?_
    refine J_get hE (hr.ob _) jc_X1 6 (by decide) fl_RX0_29 (v := .ref (a3 6)) rfl dd_X0_findTops_31 ?_
    refine J_iload_n hE dd_X0_findTops_34 2 rfl rfl ?_
    refine J_ald hE (hr.arr 6 (n := 3) (ty := .int) (by decide) _) dd_X0_findTops_35 ?_
    refine J_iadd hE dd_X0_findTops_36 ?_
    refine J_invSwv hE (e := fun x => x) (As := [.ref b, .ref b3, .int (i2 * (5 : Int32)), .int ((i2 * (5 : Int32)) + (N 6 i2.toNatClampNeg))]) (st := []) (tX0_orderFrom E.2.1 7 hv1 hv2 hr T3 S2 (i2 * (5 : Int32)) ((i2 * (5 : Int32)) + (N 6 i2.toNatClampNeg))) m_X0_orderFrom s_X0_orderFrom rfl ml_RX0_79 (Nat.le_of_ble_eq_true rfl) (Nat.le_of_ble_eq_true rfl) rfl (Nat.le_of_ble_eq_true rfl) dd_X0_findTops_37 (fun q4 => ?_)
    refine J_letP (fun T5 S6 => ?_)
    refine J_aload_n hE dd_X0_findTops_40 0 rfl rfl ?_
    refine J_get hE (hv1.ob _) jc_X0 5 (by decide) fl_RX0_76 (v := .int (T5 5 0)) rfl dd_X0_findTops_41 ?_
    exact J_iret hE dd_X0_findTops_44 rfl rfl
