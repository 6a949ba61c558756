theorem dd_X3_readName_0 : jd cX3_readName 0 (.aload_n 0) 1 1 := ⟨by decide +kernel, rfl⟩
theorem dd_X3_readName_1 : jd cX3_readName 1 (.iconst 1) 1 2 := ⟨by decide +kernel, rfl⟩
theorem fl_RX3_40 : (Cond.fieldLink "MothCustoms$Tape" 40 "MothCustoms$Tape" "token" "I" : Cond) ∈ jj_tb := jj_m (List.mem_of_getElem? (i := 101) (by decide +kernel)) rfl
theorem dd_X3_readName_2 : jd cX3_readName 2 (.putfield 40) 3 5 := ⟨by decide +kernel, rfl⟩
theorem dd_X3_readName_5 : jd cX3_readName 5 (.aload_n 0) 1 6 := ⟨by decide +kernel, rfl⟩
theorem fl_RX3_27 : (Cond.fieldLink "MothCustoms$Tape" 27 "MothCustoms$Tape" "place" "I" : Cond) ∈ jj_tb := jj_m (List.mem_of_getElem? (i := 100) (by decide +kernel)) rfl
theorem dd_X3_readName_6 : jd cX3_readName 6 (.getfield 27) 3 9 := ⟨by decide +kernel, rfl⟩
theorem dd_X3_readName_9 : jd cX3_readName 9 (.aload_n 0) 1 10 := ⟨by decide +kernel, rfl⟩
theorem fl_RX3_53 : (Cond.fieldLink "MothCustoms$Tape" 53 "MothCustoms$Tape" "length" "I" : Cond) ∈ jj_tb := jj_m (List.mem_of_getElem? (i := 94) (by decide +kernel)) rfl
theorem dd_X3_readName_10 : jd cX3_readName 10 (.getfield 53) 3 13 := ⟨by decide +kernel, rfl⟩
theorem dd_X3_readName_16 : jd cX3_readName 16 (.aload_n 0) 1 17 := ⟨by decide +kernel, rfl⟩
theorem fl_RX3_9 : (Cond.fieldLink "MothCustoms$Tape" 9 "MothCustoms$Tape" "bytes" "[I" : Cond) ∈ jj_tb := jj_m (List.mem_of_getElem? (i := 91) (by decide +kernel)) rfl
theorem dd_X3_readName_17 : jd cX3_readName 17 (.getfield 9) 3 20 := ⟨by decide +kernel, rfl⟩
theorem dd_X3_readName_20 : jd cX3_readName 20 (.aload_n 0) 1 21 := ⟨by decide +kernel, rfl⟩
theorem dd_X3_readName_21 : jd cX3_readName 21 (.getfield 27) 3 24 := ⟨by decide +kernel, rfl⟩
theorem dd_X3_readName_24 : jd cX3_readName 24 (.iaload) 1 25 := ⟨by decide +kernel, rfl⟩
theorem ml_RX3_136 : (Cond.methodLink "MothCustoms$Tape" 136 yX3_isLetter : Cond) ∈ jj_tb := jj_m (List.mem_of_getElem? (i := 320) (by decide +kernel)) rfl
theorem dd_X3_readName_25 : jd cX3_readName 25 (.invokestatic 136) 3 28 := ⟨by decide +kernel, rfl⟩
theorem dd_X3_readName_31 : jd cX3_readName 31 (.aload_n 0) 1 32 := ⟨by decide +kernel, rfl⟩
theorem dd_X3_readName_32 : jd cX3_readName 32 (.dup) 1 33 := ⟨by decide +kernel, rfl⟩
theorem dd_X3_readName_33 : jd cX3_readName 33 (.getfield 27) 3 36 := ⟨by decide +kernel, rfl⟩
theorem dd_X3_readName_36 : jd cX3_readName 36 (.iconst 1) 1 37 := ⟨by decide +kernel, rfl⟩
theorem dd_X3_readName_37 : jd cX3_readName 37 (.iadd) 1 38 := ⟨by decide +kernel, rfl⟩
theorem dd_X3_readName_38 : jd cX3_readName 38 (.putfield 27) 3 41 := ⟨by decide +kernel, rfl⟩
theorem dd_X3_readName_41 : jd cX3_readName 41 (.goto (-36)) 3 44 := ⟨by decide +kernel, rfl⟩
theorem dd_X3_readName_28 : jd cX3_readName 28 (.ifCond .eq 16) 3 31 := ⟨by decide +kernel, rfl⟩
theorem dd_X3_readName_13 : jd cX3_readName 13 (.if_icmp .ge 31) 3 16 := ⟨by decide +kernel, rfl⟩
theorem dd_X3_readName_44 : jd cX3_readName 44 (.return_) 1 45 := ⟨by decide +kernel, rfl⟩
theorem m_X3_readName : jmV yX3_readName cX3_readName 1 none 0 := ⟨⟨(jj_m (w := Cond.code yX3_readName cX3_readName 1 none) (List.mem_of_getElem? (i := 326) (by decide +kernel)) rfl), (jj_m (w := Cond.initialized yX3_readName.cls) (List.mem_of_getElem? (i := 65) (by decide +kernel)) rfl), ⟨by decide, by decide⟩, by decide +kernel⟩, (jj_m (w := Cond.instanceMethod yX3_readName) (List.mem_of_getElem? (i := 325) (by decide +kernel)) rfl), (jj_m (w := Cond.selects yX3_readName.cls yX3_readName yX3_readName) (List.mem_of_getElem? (i := 1) (by decide +kernel)) rfl)⟩
def fX3_readName_L5  (k44 : M2 → Option (M2)) : Nat → M2 → Option (M2)
  | 0, _ => none
  | n_ + 1, S2 =>
    if (S2 1 0) ≤ (S2 5 0) then
      k44 S2
    else
      bnd (S2 5 0) 160 <|
      (fX3_isLetter (S2 0 (S2 5 0).toNatClampNeg)).bind fun r3 =>
      if r3 = 0 then
        k44 S2
      else
        lt (va_up S2 5 (fun _ => ((S2 5 0) + (1 : Int32)))) fun S4 =>
        fX3_readName_L5 k44 n_ S4

def fX3_readName  (S : M2) : Option (M2) :=
  lt (va_up S 6 (fun _ => (1 : Int32))) fun S1 =>
  fX3_readName_L5 
    (fun p7 =>
      some p7)
    400 S1

set_option maxHeartbeats 4000000 in
set_option maxRecDepth 100000 in
theorem tX3_readName_L5 {V : JV M2} {b : Nat} {a : Nat → Nat} (hv : vX3 V b a)  {E : JE (M2) Unit} (hE : JOk V E cX3_readName yX3_readName.cls 1 1 none jj_v) {k44 : M2 → Option (M2)} (hk44 : ∀ p, J V E (fun q => ((), q)) (k44 p) 44 [] [] p) : ∀ (n_ : Nat) (S2 : M2), J V E (fun q => ((), q)) (fX3_readName_L5 k44 n_ S2) 5 [(0, .ref b)] [] S2 := by
  intro n_
  induction n_ with
  | zero =>
    intros
    exact J_none
  | succ n_ ih =>
    intros S2
    rw [fX3_readName_L5]
    refine J_aload_n hE dd_X3_readName_5 0 rfl rfl ?_
    refine J_get hE (hv.ob _) jc_X3 5 (by decide) fl_RX3_27 (v := .int (S2 5 0)) rfl dd_X3_readName_6 ?_
    refine J_aload_n hE dd_X3_readName_9 0 rfl rfl ?_
    refine J_get hE (hv.ob _) jc_X3 1 (by decide) fl_RX3_53 (v := .int (S2 1 0)) rfl dd_X3_readName_10 ?_
    refine J_icmp_ge hE (tgt := 44) dd_X3_readName_13 (by decide) (fun c6 => ?_) (fun c6 => ?_)
    · refine J_sub [] rfl ?_
      exact hk44 S2
    · refine J_aload_n hE dd_X3_readName_16 0 rfl rfl ?_
      refine J_get hE (hv.ob _) jc_X3 0 (by decide) fl_RX3_9 (v := .ref (a 0)) rfl dd_X3_readName_17 ?_
      refine J_aload_n hE dd_X3_readName_20 0 rfl rfl ?_
      refine J_get hE (hv.ob _) jc_X3 5 (by decide) fl_RX3_27 (v := .int (S2 5 0)) rfl dd_X3_readName_21 ?_
      refine J_ald hE (hv.arr 0 (n := 160) (ty := .int) (by decide) _) dd_X3_readName_24 ?_
      refine J_invSri hE (As := [.int (S2 0 (S2 5 0).toNatClampNeg)]) (st := []) (tX3_isLetter E.2.1 V S2 (S2 0 (S2 5 0).toNatClampNeg)) m_X3_isLetter s_X3_isLetter rfl ml_RX3_136 (Nat.le_of_ble_eq_true rfl) (Nat.le_of_ble_eq_true rfl) rfl (Nat.le_of_ble_eq_true rfl) dd_X3_readName_25 (fun r3 => ?_)
      refine J_if_eq hE (tgt := 44) dd_X3_readName_28 (by decide) (fun c5 => ?_) (fun c5 => ?_)
      · refine J_sub [] rfl ?_
        exact hk44 S2
      · refine J_aload_n hE dd_X3_readName_31 0 rfl rfl ?_
        refine J_dup hE dd_X3_readName_32 rfl ?_
        refine J_get hE (hv.ob _) jc_X3 5 (by decide) fl_RX3_27 (v := .int (S2 5 0)) rfl dd_X3_readName_33 ?_
        refine J_iconst hE (v := (1 : Int32)) dd_X3_readName_36 (by decide) ?_
        refine J_iadd hE dd_X3_readName_37 ?_
        refine J_put hE hv jc_X3 5 (by decide) (by decide) fl_RX3_27 rfl rfl rfl (Nat.le_of_ble_eq_true rfl) dd_X3_readName_38 ?_
        refine J_letS (fun S4 => ?_)
        refine J_goto hE (tgt := 5) dd_X3_readName_41 (by decide) ?_
        refine J_sub [0] rfl ?_
        exact ih S4
set_option maxHeartbeats 4000000 in
set_option maxRecDepth 100000 in
theorem tX3_readName (l : Launch) {V : JV M2} {b : Nat} {a : Nat → Nat} (hv : vX3 V b a) (S : M2)  : JC l V yX3_readName cX3_readName 1 none jj_v 1 [.ref b] S ((fX3_readName  S).map (fun q => ((), q))) := by
  refine jj_of (by decide) (Nat.le_of_ble_eq_true rfl) (fun E hlE hE => ?_)
  unfold fX3_readName
  refine J_sub (L' := [(0, .ref b)]) [0] rfl ?_
  refine J_aload_n hE dd_X3_readName_0 0 rfl rfl ?_
  refine J_iconst hE (v := (1 : Int32)) dd_X3_readName_1 (by decide) ?_
  refine J_put hE hv jc_X3 6 (by decide) (by decide) fl_RX3_40 rfl rfl rfl (Nat.le_of_ble_eq_true rfl) dd_X3_readName_2 ?_
  refine J_letS (fun S1 => ?_)
  refine J_sub [0] rfl ?_
  refine tX3_readName_L5 hv  hE (fun p7 => ?_) 400 S1
  show J V E _ _ 44 [] [] p7
  exact J_vret hE dd_X3_readName_44 rfl rfl
theorem dd_X3_refuse_0 : jd cX3_refuse 0 (.aload_n 0) 1 1 := ⟨by decide +kernel, rfl⟩
theorem fl_RX3_23 : (Cond.fieldLink "MothCustoms$Tape" 23 "MothCustoms$Tape" "fault" "I" : Cond) ∈ jj_tb := jj_m (List.mem_of_getElem? (i := 95) (by decide +kernel)) rfl
theorem dd_X3_refuse_1 : jd cX3_refuse 1 (.getfield 23) 3 4 := ⟨by decide +kernel, rfl⟩
theorem dd_X3_refuse_17 : jd cX3_refuse 17 (.iconst 0) 1 18 := ⟨by decide +kernel, rfl⟩
theorem dd_X3_refuse_18 : jd cX3_refuse 18 (.ireturn) 1 19 := ⟨by decide +kernel, rfl⟩
theorem dd_X3_refuse_7 : jd cX3_refuse 7 (.aload_n 0) 1 8 := ⟨by decide +kernel, rfl⟩
theorem dd_X3_refuse_8 : jd cX3_refuse 8 (.iload_n 1) 1 9 := ⟨by decide +kernel, rfl⟩
theorem dd_X3_refuse_9 : jd cX3_refuse 9 (.putfield 23) 3 12 := ⟨by decide +kernel, rfl⟩
theorem dd_X3_refuse_12 : jd cX3_refuse 12 (.aload_n 0) 1 13 := ⟨by decide +kernel, rfl⟩
theorem dd_X3_refuse_13 : jd cX3_refuse 13 (.iload_n 2) 1 14 := ⟨by decide +kernel, rfl⟩
theorem fl_RX3_148 : (Cond.fieldLink "MothCustoms$Tape" 148 "MothCustoms$Tape" "faultPlace" "I" : Cond) ∈ jj_tb := jj_m (List.mem_of_getElem? (i := 98) (by decide +kernel)) rfl
theorem dd_X3_refuse_14 : jd cX3_refuse 14 (.putfield 148) 3 17 := ⟨by decide +kernel, rfl⟩
theorem dd_X3_refuse_4 : jd cX3_refuse 4 (.ifCond .ne 13) 3 7 := ⟨by decide +kernel, rfl⟩
theorem m_X3_refuse : jmV yX3_refuse cX3_refuse 3 (some .boolean) 2 := ⟨⟨(jj_m (w := Cond.code yX3_refuse cX3_refuse 3 (some .boolean)) (List.mem_of_getElem? (i := 337) (by decide +kernel)) rfl), (jj_m (w := Cond.initialized yX3_refuse.cls) (List.mem_of_getElem? (i := 65) (by decide +kernel)) rfl), ⟨by decide, by decide⟩, by decide +kernel⟩, (jj_m (w := Cond.instanceMethod yX3_refuse) (List.mem_of_getElem? (i := 336) (by decide +kernel)) rfl), (jj_m (w := Cond.selects yX3_refuse.cls yX3_refuse yX3_refuse) (List.mem_of_getElem? (i := 3) (by decide +kernel)) rfl)⟩
def fX3_refuse (i1 : Int32) (i2 : Int32) (S : M2) : Option (Int32 × M2) :=
  if (S 2 0) = 0 then
    lt (va_up S 2 (fun _ => i1)) fun S1 =>
    lt (va_up S1 3 (fun _ => i2)) fun S2 =>
    some ((0 : Int32), S2)
  else
    some ((0 : Int32), S)

set_option maxHeartbeats 4000000 in
set_option maxRecDepth 100000 in
theorem tX3_refuse (l : Launch) {V : JV M2} {b : Nat} {a : Nat → Nat} (hv : vX3 V b a) (S : M2) (i1 : Int32) (i2 : Int32) : JC l V yX3_refuse cX3_refuse 3 (some .boolean) jj_i 0 [.ref b, .int i1, .int i2] S ((fX3_refuse i1 i2 S).map (fun q => (q.1, q.2))) := by
  refine jj_of (by decide) (Nat.le_of_ble_eq_true rfl) (fun E hlE hE => ?_)
  unfold fX3_refuse
  refine J_sub (L' := [(0, .ref b), (1, .int i1), (2, .int i2)]) [0, 1, 2] rfl ?_
  refine J_aload_n hE dd_X3_refuse_0 0 rfl rfl ?_
  refine J_get hE (hv.ob _) jc_X3 2 (by decide) fl_RX3_23 (v := .int (S 2 0)) rfl dd_X3_refuse_1 ?_
  refine J_if_ne hE (tgt := 17) dd_X3_refuse_4 (by decide) (fun c3 => ?_) (fun c3 => ?_)
  · refine J_iconst hE (v := (0 : Int32)) dd_X3_refuse_17 (by decide) ?_
    exact J_zret hE (Or.inl rfl) dd_X3_refuse_18 rfl rfl
  · refine J_aload_n hE dd_X3_refuse_7 0 rfl rfl ?_
    refine J_iload_n hE dd_X3_refuse_8 1 rfl rfl ?_
    refine J_put hE hv jc_X3 2 (by decide) (by decide) fl_RX3_23 rfl rfl rfl (Nat.le_of_ble_eq_true rfl) dd_X3_refuse_9 ?_
    refine J_letS (fun S1 => ?_)
    refine J_aload_n hE dd_X3_refuse_12 0 rfl rfl ?_
    refine J_iload_n hE dd_X3_refuse_13 2 rfl rfl ?_
    refine J_put hE hv jc_X3 3 (by decide) (by decide) fl_RX3_148 rfl rfl rfl (Nat.le_of_ble_eq_true rfl) dd_X3_refuse_14 ?_
    refine J_letS (fun S2 => ?_)
    refine J_iconst hE (v := (0 : Int32)) dd_X3_refuse_17 (by decide) ?_
    exact J_zret hE (Or.inl rfl) dd_X3_refuse_18 rfl rfl
theorem dd_X3_readNumber_0 : jd cX3_readNumber 0 (.aload_n 0) 1 1 := ⟨by decide +kernel, rfl⟩
theorem dd_X3_readNumber_1 : jd cX3_readNumber 1 (.iconst 2) 1 2 := ⟨by decide +kernel, rfl⟩
theorem dd_X3_readNumber_2 : jd cX3_readNumber 2 (.putfield 40) 3 5 := ⟨by decide +kernel, rfl⟩
theorem dd_X3_readNumber_5 : jd cX3_readNumber 5 (.aload_n 0) 1 6 := ⟨by decide +kernel, rfl⟩
theorem dd_X3_readNumber_6 : jd cX3_readNumber 6 (.iconst 0) 1 7 := ⟨by decide +kernel, rfl⟩
theorem fl_RX3_78 : (Cond.fieldLink "MothCustoms$Tape" 78 "MothCustoms$Tape" "value" "I" : Cond) ∈ jj_tb := jj_m (List.mem_of_getElem? (i := 103) (by decide +kernel)) rfl
theorem dd_X3_readNumber_7 : jd cX3_readNumber 7 (.putfield 78) 3 10 := ⟨by decide +kernel, rfl⟩
theorem dd_X3_readNumber_10 : jd cX3_readNumber 10 (.aload_n 0) 1 11 := ⟨by decide +kernel, rfl⟩
theorem dd_X3_readNumber_11 : jd cX3_readNumber 11 (.getfield 27) 3 14 := ⟨by decide +kernel, rfl⟩
theorem dd_X3_readNumber_14 : jd cX3_readNumber 14 (.aload_n 0) 1 15 := ⟨by decide +kernel, rfl⟩
theorem dd_X3_readNumber_15 : jd cX3_readNumber 15 (.getfield 53) 3 18 := ⟨by decide +kernel, rfl⟩
theorem dd_X3_readNumber_21 : jd cX3_readNumber 21 (.aload_n 0) 1 22 := ⟨by decide +kernel, rfl⟩
theorem dd_X3_readNumber_22 : jd cX3_readNumber 22 (.getfield 9) 3 25 := ⟨by decide +kernel, rfl⟩
theorem dd_X3_readNumber_25 : jd cX3_readNumber 25 (.aload_n 0) 1 26 := ⟨by decide +kernel, rfl⟩
theorem dd_X3_readNumber_26 : jd cX3_readNumber 26 (.getfield 27) 3 29 := ⟨by decide +kernel, rfl⟩
theorem dd_X3_readNumber_29 : jd cX3_readNumber 29 (.iaload) 1 30 := ⟨by decide +kernel, rfl⟩
theorem ml_RX3_142 : (Cond.methodLink "MothCustoms$Tape" 142 yX3_isFigure : Cond) ∈ jj_tb := jj_m (List.mem_of_getElem? (i := 327) (by decide +kernel)) rfl
theorem dd_X3_readNumber_30 : jd cX3_readNumber 30 (.invokestatic 142) 3 33 := ⟨by decide +kernel, rfl⟩
theorem dd_X3_readNumber_36 : jd cX3_readNumber 36 (.aload_n 0) 1 37 := ⟨by decide +kernel, rfl⟩
theorem dd_X3_readNumber_37 : jd cX3_readNumber 37 (.bipush 10) 2 39 := ⟨by decide +kernel, rfl⟩
theorem dd_X3_readNumber_39 : jd cX3_readNumber 39 (.aload_n 0) 1 40 := ⟨by decide +kernel, rfl⟩
theorem dd_X3_readNumber_40 : jd cX3_readNumber 40 (.getfield 78) 3 43 := ⟨by decide +kernel, rfl⟩
theorem dd_X3_readNumber_43 : jd cX3_readNumber 43 (.imul) 1 44 := ⟨by decide +kernel, rfl⟩
theorem dd_X3_readNumber_44 : jd cX3_readNumber 44 (.aload_n 0) 1 45 := ⟨by decide +kernel, rfl⟩
theorem dd_X3_readNumber_45 : jd cX3_readNumber 45 (.getfield 9) 3 48 := ⟨by decide +kernel, rfl⟩
theorem dd_X3_readNumber_48 : jd cX3_readNumber 48 (.aload_n 0) 1 49 := ⟨by decide +kernel, rfl⟩
theorem dd_X3_readNumber_49 : jd cX3_readNumber 49 (.getfield 27) 3 52 := ⟨by decide +kernel, rfl⟩
theorem dd_X3_readNumber_52 : jd cX3_readNumber 52 (.iaload) 1 53 := ⟨by decide +kernel, rfl⟩
theorem dd_X3_readNumber_53 : jd cX3_readNumber 53 (.iadd) 1 54 := ⟨by decide +kernel, rfl⟩
theorem dd_X3_readNumber_54 : jd cX3_readNumber 54 (.bipush 48) 2 56 := ⟨by decide +kernel, rfl⟩
theorem dd_X3_readNumber_56 : jd cX3_readNumber 56 (.isub) 1 57 := ⟨by decide +kernel, rfl⟩
theorem dd_X3_readNumber_57 : jd cX3_readNumber 57 (.putfield 78) 3 60 := ⟨by decide +kernel, rfl⟩
theorem dd_X3_readNumber_60 : jd cX3_readNumber 60 (.aload_n 0) 1 61 := ⟨by decide +kernel, rfl⟩
theorem dd_X3_readNumber_61 : jd cX3_readNumber 61 (.dup) 1 62 := ⟨by decide +kernel, rfl⟩
theorem dd_X3_readNumber_62 : jd cX3_readNumber 62 (.getfield 27) 3 65 := ⟨by decide +kernel, rfl⟩
theorem dd_X3_readNumber_65 : jd cX3_readNumber 65 (.iconst 1) 1 66 := ⟨by decide +kernel, rfl⟩
theorem dd_X3_readNumber_66 : jd cX3_readNumber 66 (.iadd) 1 67 := ⟨by decide +kernel, rfl⟩
theorem dd_X3_readNumber_67 : jd cX3_readNumber 67 (.putfield 27) 3 70 := ⟨by decide +kernel, rfl⟩
theorem dd_X3_readNumber_70 : jd cX3_readNumber 70 (.goto (-60)) 3 73 := ⟨by decide +kernel, rfl⟩
theorem dd_X3_readNumber_33 : jd cX3_readNumber 33 (.ifCond .eq 40) 3 36 := ⟨by decide +kernel, rfl⟩
theorem dd_X3_readNumber_18 : jd cX3_readNumber 18 (.if_icmp .ge 55) 3 21 := ⟨by decide +kernel, rfl⟩
theorem dd_X3_readNumber_73 : jd cX3_readNumber 73 (.aload_n 0) 1 74 := ⟨by decide +kernel, rfl⟩
theorem dd_X3_readNumber_74 : jd cX3_readNumber 74 (.getfield 27) 3 77 := ⟨by decide +kernel, rfl⟩
theorem dd_X3_readNumber_77 : jd cX3_readNumber 77 (.aload_n 0) 1 78 := ⟨by decide +kernel, rfl⟩
theorem fl_RX3_64 : (Cond.fieldLink "MothCustoms$Tape" 64 "MothCustoms$Tape" "start" "I" : Cond) ∈ jj_tb := jj_m (List.mem_of_getElem? (i := 102) (by decide +kernel)) rfl
theorem dd_X3_readNumber_78 : jd cX3_readNumber 78 (.getfield 64) 3 81 := ⟨by decide +kernel, rfl⟩
theorem dd_X3_readNumber_81 : jd cX3_readNumber 81 (.isub) 1 82 := ⟨by decide +kernel, rfl⟩
theorem dd_X3_readNumber_82 : jd cX3_readNumber 82 (.iconst 2) 1 83 := ⟨by decide +kernel, rfl⟩
theorem dd_X3_readNumber_101 : jd cX3_readNumber 101 (.return_) 1 102 := ⟨by decide +kernel, rfl⟩
theorem dd_X3_readNumber_86 : jd cX3_readNumber 86 (.aload_n 0) 1 87 := ⟨by decide +kernel, rfl⟩
theorem dd_X3_readNumber_87 : jd cX3_readNumber 87 (.iconst 5) 1 88 := ⟨by decide +kernel, rfl⟩
theorem dd_X3_readNumber_88 : jd cX3_readNumber 88 (.putfield 40) 3 91 := ⟨by decide +kernel, rfl⟩
theorem dd_X3_readNumber_91 : jd cX3_readNumber 91 (.aload_n 0) 1 92 := ⟨by decide +kernel, rfl⟩
theorem dd_X3_readNumber_92 : jd cX3_readNumber 92 (.iconst 1) 1 93 := ⟨by decide +kernel, rfl⟩
theorem dd_X3_readNumber_93 : jd cX3_readNumber 93 (.aload_n 0) 1 94 := ⟨by decide +kernel, rfl⟩
theorem dd_X3_readNumber_94 : jd cX3_readNumber 94 (.getfield 64) 3 97 := ⟨by decide +kernel, rfl⟩
theorem ml_RX3_56 : (Cond.methodLink "MothCustoms$Tape" 56 yX3_refuse : Cond) ∈ jj_tb := jj_m (List.mem_of_getElem? (i := 334) (by decide +kernel)) rfl
theorem dd_X3_readNumber_97 : jd cX3_readNumber 97 (.invokevirtual 56) 3 100 := ⟨by decide +kernel, rfl⟩
theorem dd_X3_readNumber_100 : jd cX3_readNumber 100 (.pop) 1 101 := ⟨by decide +kernel, rfl⟩
theorem dd_X3_readNumber_83 : jd cX3_readNumber 83 (.if_icmp .le 18) 3 86 := ⟨by decide +kernel, rfl⟩
theorem m_X3_readNumber : jmV yX3_readNumber cX3_readNumber 1 none 0 := ⟨⟨(jj_m (w := Cond.code yX3_readNumber cX3_readNumber 1 none) (List.mem_of_getElem? (i := 333) (by decide +kernel)) rfl), (jj_m (w := Cond.initialized yX3_readNumber.cls) (List.mem_of_getElem? (i := 65) (by decide +kernel)) rfl), ⟨by decide, by decide⟩, by decide +kernel⟩, (jj_m (w := Cond.instanceMethod yX3_readNumber) (List.mem_of_getElem? (i := 332) (by decide +kernel)) rfl), (jj_m (w := Cond.selects yX3_readNumber.cls yX3_readNumber yX3_readNumber) (List.mem_of_getElem? (i := 2) (by decide +kernel)) rfl)⟩
def fX3_readNumber_L10  (k73 : M2 → Option (M2)) : Nat → M2 → Option (M2)
  | 0, _ => none
  | n_ + 1, S3 =>
    if (S3 1 0) ≤ (S3 5 0) then
      k73 S3
    else
      bnd (S3 5 0) 160 <|
      (fX3_isFigure (S3 0 (S3 5 0).toNatClampNeg)).bind fun r4 =>
      if r4 = 0 then
        k73 S3
      else
        bnd (S3 5 0) 160 <|
        lt (va_up S3 8 (fun _ => ((((10 : Int32) * (S3 8 0)) + (S3 0 (S3 5 0).toNatClampNeg)) - (48 : Int32)))) fun S5 =>
        lt (va_up S5 5 (fun _ => ((S5 5 0) + (1 : Int32)))) fun S6 =>
        fX3_readNumber_L10 k73 n_ S6

def fX3_readNumber  (S : M2) : Option (M2) :=
  lt (va_up S 6 (fun _ => (2 : Int32))) fun S1 =>
  lt (va_up S1 8 (fun _ => (0 : Int32))) fun S2 =>
  fX3_readNumber_L10 
    (fun p9 =>
      if ((p9 5 0) - (p9 7 0)) ≤ (2 : Int32) then
        some p9
      else
        lt (va_up p9 6 (fun _ => (5 : Int32))) fun S10 =>
        (fX3_refuse (1 : Int32) (S10 7 0) S10).bind fun q11 =>
        lt (q11.2) fun S12 =>
        some S12)
    400 S2

set_option maxHeartbeats 4000000 in
set_option maxRecDepth 100000 in
theorem tX3_readNumber_L10 {V : JV M2} {b : Nat} {a : Nat → Nat} (hv : vX3 V b a)  {E : JE (M2) Unit} (hE : JOk V E cX3_readNumber yX3_readNumber.cls 1 1 none jj_v) {k73 : M2 → Option (M2)} (hk73 : ∀ p, J V E (fun q => ((), q)) (k73 p) 73 [(0, .ref b)] [] p) : ∀ (n_ : Nat) (S3 : M2), J V E (fun q => ((), q)) (fX3_readNumber_L10 k73 n_ S3) 10 [(0, .ref b)] [] S3 := by
  intro n_
  induction n_ with
  | zero =>
    intros
    exact J_none
  | succ n_ ih =>
    intros S3
    rw [fX3_readNumber_L10]
    refine J_aload_n hE dd_X3_readNumber_10 0 rfl rfl ?_
    refine J_get hE (hv.ob _) jc_X3 5 (by decide) fl_RX3_27 (v := .int (S3 5 0)) rfl dd_X3_readNumber_11 ?_
    refine J_aload_n hE dd_X3_readNumber_14 0 rfl rfl ?_
    refine J_get hE (hv.ob _) jc_X3 1 (by decide) fl_RX3_53 (v := .int (S3 1 0)) rfl dd_X3_readNumber_15 ?_
    refine J_icmp_ge hE (tgt := 73) dd_X3_readNumber_18 (by decide) (fun c8 => ?_) (fun c8 => ?_)
    · refine J_sub [0] rfl ?_
      exact hk73 S3
    · refine J_aload_n hE dd_X3_readNumber_21 0 rfl rfl ?_
      refine J_get hE (hv.ob _) jc_X3 0 (by decide) fl_RX3_9 (v := .ref (a 0)) rfl dd_X3_readNumber_22 ?_
      refine J_aload_n hE dd_X3_readNumber_25 0 rfl rfl ?_
      refine J_get hE (hv.ob _) jc_X3 5 (by decide) fl_RX3_27 (v := .int (S3 5 0)) rfl dd_X3_readNumber_26 ?_
      refine J_ald hE (hv.arr 0 (n := 160) (ty := .int) (by decide) _) dd_X3_readNumber_29 ?_
      refine J_invSri hE (As := [.int (S3 0 (S3 5 0).toNatClampNeg)]) (st := []) (tX3_isFigure E.2.1 V S3 (S3 0 (S3 5 0).toNatClampNeg)) m_X3_isFigure s_X3_isFigure rfl ml_RX3_142 (Nat.le_of_ble_eq_true rfl) (Nat.le_of_ble_eq_true rfl) rfl (Nat.le_of_ble_eq_true rfl) dd_X3_readNumber_30 (fun r4 => ?_)
      refine J_if_eq hE (tgt := 73) dd_X3_readNumber_33 (by decide) (fun c7 => ?_) (fun c7 => ?_)
      · refine J_sub [0] rfl ?_
        exact hk73 S3
      · refine J_aload_n hE dd_X3_readNumber_36 0 rfl rfl ?_
        refine J_bipush hE (v := (10 : Int32)) dd_X3_readNumber_37 (by decide) ?_
        refine J_aload_n hE dd_X3_readNumber_39 0 rfl rfl ?_
        refine J_get hE (hv.ob _) jc_X3 8 (by decide) fl_RX3_78 (v := .int (S3 8 0)) rfl dd_X3_readNumber_40 ?_
        refine J_imul hE dd_X3_readNumber_43 ?_
        refine J_aload_n hE dd_X3_readNumber_44 0 rfl rfl ?_
        refine J_get hE (hv.ob _) jc_X3 0 (by decide) fl_RX3_9 (v := .ref (a 0)) rfl dd_X3_readNumber_45 ?_
        refine J_aload_n hE dd_X3_readNumber_48 0 rfl rfl ?_
        refine J_get hE (hv.ob _) jc_X3 5 (by decide) fl_RX3_27 (v := .int (S3 5 0)) rfl dd_X3_readNumber_49 ?_
        refine J_ald hE (hv.arr 0 (n := 160) (ty := .int) (by decide) _) dd_X3_readNumber_52 ?_
        refine J_iadd hE dd_X3_readNumber_53 ?_
        refine J_bipush hE (v := (48 : Int32)) dd_X3_readNumber_54 (by decide) ?_
        refine J_isub hE dd_X3_readNumber_56 ?_
        refine J_put hE hv jc_X3 8 (by decide) (by decide) fl_RX3_78 rfl rfl rfl (Nat.le_of_ble_eq_true rfl) dd_X3_readNumber_57 ?_
        refine J_letS (fun S5 => ?_)
        refine J_aload_n hE dd_X3_readNumber_60 0 rfl rfl ?_
        refine J_dup hE dd_X3_readNumber_61 rfl ?_
        refine J_get hE (hv.ob _) jc_X3 5 (by decide) fl_RX3_27 (v := .int (S5 5 0)) rfl dd_X3_readNumber_62 ?_
        refine J_iconst hE (v := (1 : Int32)) dd_X3_readNumber_65 (by decide) ?_
        refine J_iadd hE dd_X3_readNumber_66 ?_
        refine J_put hE hv jc_X3 5 (by decide) (by decide) fl_RX3_27 rfl rfl rfl (Nat.le_of_ble_eq_true rfl) dd_X3_readNumber_67 ?_
        refine J_letS (fun S6 => ?_)
        refine J_goto hE (tgt := 10) dd_X3_readNumber_70 (by decide) ?_
        refine J_sub [0] rfl ?_
        exact ih S6
set_option maxHeartbeats 4000000 in
set_option maxRecDepth 100000 in
theorem tX3_readNumber (l : Launch) {V : JV M2} {b : Nat} {a : Nat → Nat} (hv : vX3 V b a) (S : M2)  : JC l V yX3_readNumber cX3_readNumber 1 none jj_v 1 [.ref b] S ((fX3_readNumber  S).map (fun q => ((), q))) := by
  refine jj_of (by decide) (Nat.le_of_ble_eq_true rfl) (fun E hlE hE => ?_)
  unfold fX3_readNumber
  refine J_sub (L' := [(0, .ref b)]) [0] rfl ?_
  refine J_aload_n hE dd_X3_readNumber_0 0 rfl rfl ?_
  refine J_iconst hE (v := (2 : Int32)) dd_X3_readNumber_1 (by decide) ?_
  refine J_put hE hv jc_X3 6 (by decide) (by decide) fl_RX3_40 rfl rfl rfl (Nat.le_of_ble_eq_true rfl) dd_X3_readNumber_2 ?_
  refine J_letS (fun S1 => ?_)
  refine J_aload_n hE dd_X3_readNumber_5 0 rfl rfl ?_
  refine J_iconst hE (v := (0 : Int32)) dd_X3_readNumber_6 (by decide) ?_
  refine J_put hE hv jc_X3 8 (by decide) (by decide) fl_RX3_78 rfl rfl rfl (Nat.le_of_ble_eq_true rfl) dd_X3_readNumber_7 ?_
  refine J_letS (fun S2 => ?_)
  refine J_sub [0] rfl ?_
  refine tX3_readNumber_L10 hv  hE (fun p9 => ?_) 400 S2
  show J V E _ _ 73 [(0, .ref b)] [] p9
  refine J_aload_n hE dd_X3_readNumber_73 0 rfl rfl ?_
  refine J_get hE (hv.ob _) jc_X3 5 (by decide) fl_RX3_27 (v := .int (p9 5 0)) rfl dd_X3_readNumber_74 ?_
  refine J_aload_n hE dd_X3_readNumber_77 0 rfl rfl ?_
  refine J_get hE (hv.ob _) jc_X3 7 (by decide) fl_RX3_64 (v := .int (p9 7 0)) rfl dd_X3_readNumber_78 ?_
  refine J_isub hE dd_X3_readNumber_81 ?_
  refine J_iconst hE (v := (2 : Int32)) dd_X3_readNumber_82 (by decide) ?_
  refine J_icmp_le hE (tgt := 101) dd_X3_readNumber_83 (by decide) (fun c13 => ?_) (fun c13 => ?_)
  · exact J_vret hE dd_X3_readNumber_101 rfl rfl
  · refine J_aload_n hE dd_X3_readNumber_86 0 rfl rfl ?_
    refine J_iconst hE (v := (5 : Int32)) dd_X3_readNumber_87 (by decide) ?_
    refine J_put hE hv jc_X3 6 (by decide) (by decide) fl_RX3_40 rfl rfl rfl (Nat.le_of_ble_eq_true rfl) dd_X3_readNumber_88 ?_
    refine J_letS (fun S10 => ?_)
    refine J_aload_n hE dd_X3_readNumber_91 0 rfl rfl ?_
    refine J_iconst hE (v := (1 : Int32)) dd_X3_readNumber_92 (by decide) ?_
    refine J_aload_n hE dd_X3_readNumber_93 0 rfl rfl ?_
    refine J_get hE (hv.ob _) jc_X3 7 (by decide) fl_RX3_64 (v := .int (S10 7 0)) rfl dd_X3_readNumber_94 ?_
    refine J_invVwi hE (e := fun x => x) (As := [.int (1 : Int32), .int (S10 7 0)]) (st := []) (tX3_refuse E.2.1 hv S10 (1 : Int32) (S10 7 0)) (hv.ob _) m_X3_refuse rfl ml_RX3_56 (Nat.le_of_ble_eq_true rfl) (Nat.le_of_ble_eq_true rfl) rfl (Nat.le_of_ble_eq_true rfl) dd_X3_readNumber_97 (fun q11 => ?_)
    refine J_letS (fun S12 => ?_)
    refine J_pop hE dd_X3_readNumber_100 rfl ?_
    exact J_vret hE dd_X3_readNumber_101 rfl rfl
theorem dd_X3_nextToken_0 : jd cX3_nextToken 0 (.aload_n 0) 1 1 := ⟨by decide +kernel, rfl⟩
theorem dd_X3_nextToken_1 : jd cX3_nextToken 1 (.getfield 27) 3 4 := ⟨by decide +kernel, rfl⟩
theorem dd_X3_nextToken_4 : jd cX3_nextToken 4 (.aload_n 0) 1 5 := ⟨by decide +kernel, rfl⟩
theorem dd_X3_nextToken_5 : jd cX3_nextToken 5 (.getfield 53) 3 8 := ⟨by decide +kernel, rfl⟩
theorem dd_X3_nextToken_11 : jd cX3_nextToken 11 (.aload_n 0) 1 12 := ⟨by decide +kernel, rfl⟩
theorem dd_X3_nextToken_12 : jd cX3_nextToken 12 (.getfield 9) 3 15 := ⟨by decide +kernel, rfl⟩
theorem dd_X3_nextToken_15 : jd cX3_nextToken 15 (.aload_n 0) 1 16 := ⟨by decide +kernel, rfl⟩
theorem dd_X3_nextToken_16 : jd cX3_nextToken 16 (.getfield 27) 3 19 := ⟨by decide +kernel, rfl⟩
theorem dd_X3_nextToken_19 : jd cX3_nextToken 19 (.iaload) 1 20 := ⟨by decide +kernel, rfl⟩
theorem dd_X3_nextToken_20 : jd cX3_nextToken 20 (.bipush 32) 2 22 := ⟨by decide +kernel, rfl⟩
theorem dd_X3_nextToken_25 : jd cX3_nextToken 25 (.aload_n 0) 1 26 := ⟨by decide +kernel, rfl⟩
theorem dd_X3_nextToken_26 : jd cX3_nextToken 26 (.dup) 1 27 := ⟨by decide +kernel, rfl⟩
theorem dd_X3_nextToken_27 : jd cX3_nextToken 27 (.getfield 27) 3 30 := ⟨by decide +kernel, rfl⟩
theorem dd_X3_nextToken_30 : jd cX3_nextToken 30 (.iconst 1) 1 31 := ⟨by decide +kernel, rfl⟩
theorem dd_X3_nextToken_31 : jd cX3_nextToken 31 (.iadd) 1 32 := ⟨by decide +kernel, rfl⟩
theorem dd_X3_nextToken_32 : jd cX3_nextToken 32 (.putfield 27) 3 35 := ⟨by decide +kernel, rfl⟩
theorem dd_X3_nextToken_35 : jd cX3_nextToken 35 (.goto (-35)) 3 38 := ⟨by decide +kernel, rfl⟩
theorem dd_X3_nextToken_22 : jd cX3_nextToken 22 (.if_icmp .ne 16) 3 25 := ⟨by decide +kernel, rfl⟩
theorem dd_X3_nextToken_8 : jd cX3_nextToken 8 (.if_icmp .ge 30) 3 11 := ⟨by decide +kernel, rfl⟩
theorem dd_X3_nextToken_38 : jd cX3_nextToken 38 (.aload_n 0) 1 39 := ⟨by decide +kernel, rfl⟩
theorem dd_X3_nextToken_39 : jd cX3_nextToken 39 (.aload_n 0) 1 40 := ⟨by decide +kernel, rfl⟩
theorem dd_X3_nextToken_40 : jd cX3_nextToken 40 (.getfield 27) 3 43 := ⟨by decide +kernel, rfl⟩
theorem dd_X3_nextToken_43 : jd cX3_nextToken 43 (.putfield 64) 3 46 := ⟨by decide +kernel, rfl⟩
theorem dd_X3_nextToken_46 : jd cX3_nextToken 46 (.aload_n 0) 1 47 := ⟨by decide +kernel, rfl⟩
theorem dd_X3_nextToken_47 : jd cX3_nextToken 47 (.getfield 27) 3 50 := ⟨by decide +kernel, rfl⟩
theorem dd_X3_nextToken_50 : jd cX3_nextToken 50 (.aload_n 0) 1 51 := ⟨by decide +kernel, rfl⟩
theorem dd_X3_nextToken_51 : jd cX3_nextToken 51 (.getfield 53) 3 54 := ⟨by decide +kernel, rfl⟩
theorem dd_X3_nextToken_65 : jd cX3_nextToken 65 (.aload_n 0) 1 66 := ⟨by decide +kernel, rfl⟩
theorem dd_X3_nextToken_66 : jd cX3_nextToken 66 (.getfield 9) 3 69 := ⟨by decide +kernel, rfl⟩
theorem dd_X3_nextToken_69 : jd cX3_nextToken 69 (.aload_n 0) 1 70 := ⟨by decide +kernel, rfl⟩
theorem dd_X3_nextToken_70 : jd cX3_nextToken 70 (.getfield 27) 3 73 := ⟨by decide +kernel, rfl⟩
theorem dd_X3_nextToken_73 : jd cX3_nextToken 73 (.iaload) 1 74 := ⟨by decide +kernel, rfl⟩
theorem dd_X3_nextToken_74 : jd cX3_nextToken 74 (.invokestatic 136) 3 77 := ⟨by decide +kernel, rfl⟩
theorem dd_X3_nextToken_87 : jd cX3_nextToken 87 (.aload_n 0) 1 88 := ⟨by decide +kernel, rfl⟩
theorem dd_X3_nextToken_88 : jd cX3_nextToken 88 (.getfield 9) 3 91 := ⟨by decide +kernel, rfl⟩
theorem dd_X3_nextToken_91 : jd cX3_nextToken 91 (.aload_n 0) 1 92 := ⟨by decide +kernel, rfl⟩
theorem dd_X3_nextToken_92 : jd cX3_nextToken 92 (.getfield 27) 3 95 := ⟨by decide +kernel, rfl⟩
theorem dd_X3_nextToken_95 : jd cX3_nextToken 95 (.iaload) 1 96 := ⟨by decide +kernel, rfl⟩
theorem dd_X3_nextToken_96 : jd cX3_nextToken 96 (.invokestatic 142) 3 99 := ⟨by decide +kernel, rfl⟩
theorem dd_X3_nextToken_109 : jd cX3_nextToken 109 (.aload_n 0) 1 110 := ⟨by decide +kernel, rfl⟩
theorem dd_X3_nextToken_110 : jd cX3_nextToken 110 (.getfield 9) 3 113 := ⟨by decide +kernel, rfl⟩
theorem dd_X3_nextToken_113 : jd cX3_nextToken 113 (.aload_n 0) 1 114 := ⟨by decide +kernel, rfl⟩
theorem dd_X3_nextToken_114 : jd cX3_nextToken 114 (.getfield 27) 3 117 := ⟨by decide +kernel, rfl⟩
theorem dd_X3_nextToken_117 : jd cX3_nextToken 117 (.iaload) 1 118 := ⟨by decide +kernel, rfl⟩
theorem dd_X3_nextToken_118 : jd cX3_nextToken 118 (.bipush 59) 2 120 := ⟨by decide +kernel, rfl⟩
theorem dd_X3_nextToken_141 : jd cX3_nextToken 141 (.aload_n 0) 1 142 := ⟨by decide +kernel, rfl⟩
theorem dd_X3_nextToken_142 : jd cX3_nextToken 142 (.iconst 5) 1 143 := ⟨by decide +kernel, rfl⟩
theorem dd_X3_nextToken_143 : jd cX3_nextToken 143 (.putfield 40) 3 146 := ⟨by decide +kernel, rfl⟩
theorem dd_X3_nextToken_146 : jd cX3_nextToken 146 (.aload_n 0) 1 147 := ⟨by decide +kernel, rfl⟩
theorem dd_X3_nextToken_147 : jd cX3_nextToken 147 (.iconst 1) 1 148 := ⟨by decide +kernel, rfl⟩
theorem dd_X3_nextToken_148 : jd cX3_nextToken 148 (.aload_n 0) 1 149 := ⟨by decide +kernel, rfl⟩
theorem dd_X3_nextToken_149 : jd cX3_nextToken 149 (.getfield 64) 3 152 := ⟨by decide +kernel, rfl⟩
theorem dd_X3_nextToken_152 : jd cX3_nextToken 152 (.invokevirtual 56) 3 155 := ⟨by decide +kernel, rfl⟩
theorem dd_X3_nextToken_155 : jd cX3_nextToken 155 (.pop) 1 156 := ⟨by decide +kernel, rfl⟩
theorem dd_X3_nextToken_156 : jd cX3_nextToken 156 (.return_) 1 157 := ⟨by decide +kernel, rfl⟩
theorem dd_X3_nextToken_123 : jd cX3_nextToken 123 (.aload_n 0) 1 124 := ⟨by decide +kernel, rfl⟩
theorem dd_X3_nextToken_124 : jd cX3_nextToken 124 (.iconst 3) 1 125 := ⟨by decide +kernel, rfl⟩
theorem dd_X3_nextToken_125 : jd cX3_nextToken 125 (.putfield 40) 3 128 := ⟨by decide +kernel, rfl⟩
theorem dd_X3_nextToken_128 : jd cX3_nextToken 128 (.aload_n 0) 1 129 := ⟨by decide +kernel, rfl⟩
theorem dd_X3_nextToken_129 : jd cX3_nextToken 129 (.dup) 1 130 := ⟨by decide +kernel, rfl⟩
theorem dd_X3_nextToken_130 : jd cX3_nextToken 130 (.getfield 27) 3 133 := ⟨by decide +kernel, rfl⟩
theorem dd_X3_nextToken_133 : jd cX3_nextToken 133 (.iconst 1) 1 134 := ⟨by decide +kernel, rfl⟩
theorem dd_X3_nextToken_134 : jd cX3_nextToken 134 (.iadd) 1 135 := ⟨by decide +kernel, rfl⟩
theorem dd_X3_nextToken_135 : jd cX3_nextToken 135 (.putfield 27) 3 138 := ⟨by decide +kernel, rfl⟩
theorem dd_X3_nextToken_138 : jd cX3_nextToken 138 (.goto 18) 3 141 := ⟨by decide +kernel, rfl⟩
theorem dd_X3_nextToken_120 : jd cX3_nextToken 120 (.if_icmp .ne 21) 3 123 := ⟨by decide +kernel, rfl⟩
theorem dd_X3_nextToken_102 : jd cX3_nextToken 102 (.aload_n 0) 1 103 := ⟨by decide +kernel, rfl⟩
theorem ml_RX3_145 : (Cond.methodLink "MothCustoms$Tape" 145 yX3_readNumber : Cond) ∈ jj_tb := jj_m (List.mem_of_getElem? (i := 330) (by decide +kernel)) rfl
theorem dd_X3_nextToken_103 : jd cX3_nextToken 103 (.invokevirtual 145) 3 106 := ⟨by decide +kernel, rfl⟩
theorem dd_X3_nextToken_106 : jd cX3_nextToken 106 (.goto 50) 3 109 := ⟨by decide +kernel, rfl⟩
theorem dd_X3_nextToken_99 : jd cX3_nextToken 99 (.ifCond .eq 10) 3 102 := ⟨by decide +kernel, rfl⟩
theorem dd_X3_nextToken_80 : jd cX3_nextToken 80 (.aload_n 0) 1 81 := ⟨by decide +kernel, rfl⟩
theorem ml_RX3_139 : (Cond.methodLink "MothCustoms$Tape" 139 yX3_readName : Cond) ∈ jj_tb := jj_m (List.mem_of_getElem? (i := 323) (by decide +kernel)) rfl
theorem dd_X3_nextToken_81 : jd cX3_nextToken 81 (.invokevirtual 139) 3 84 := ⟨by decide +kernel, rfl⟩
theorem dd_X3_nextToken_84 : jd cX3_nextToken 84 (.goto 72) 3 87 := ⟨by decide +kernel, rfl⟩
theorem dd_X3_nextToken_77 : jd cX3_nextToken 77 (.ifCond .eq 10) 3 80 := ⟨by decide +kernel, rfl⟩
theorem dd_X3_nextToken_57 : jd cX3_nextToken 57 (.aload_n 0) 1 58 := ⟨by decide +kernel, rfl⟩
theorem dd_X3_nextToken_58 : jd cX3_nextToken 58 (.iconst 4) 1 59 := ⟨by decide +kernel, rfl⟩
theorem dd_X3_nextToken_59 : jd cX3_nextToken 59 (.putfield 40) 3 62 := ⟨by decide +kernel, rfl⟩
theorem dd_X3_nextToken_62 : jd cX3_nextToken 62 (.goto 94) 3 65 := ⟨by decide +kernel, rfl⟩
theorem dd_X3_nextToken_54 : jd cX3_nextToken 54 (.if_icmp .lt 11) 3 57 := ⟨by decide +kernel, rfl⟩
theorem m_X3_nextToken : jmV yX3_nextToken cX3_nextToken 1 none 0 := ⟨⟨(jj_m (w := Cond.code yX3_nextToken cX3_nextToken 1 none) (List.mem_of_getElem? (i := 319) (by decide +kernel)) rfl), (jj_m (w := Cond.initialized yX3_nextToken.cls) (List.mem_of_getElem? (i := 65) (by decide +kernel)) rfl), ⟨by decide, by decide⟩, by decide +kernel⟩, (jj_m (w := Cond.instanceMethod yX3_nextToken) (List.mem_of_getElem? (i := 318) (by decide +kernel)) rfl), (jj_m (w := Cond.selects yX3_nextToken.cls yX3_nextToken yX3_nextToken) (List.mem_of_getElem? (i := 0) (by decide +kernel)) rfl)⟩
def fX3_nextToken_L0  (k38 : M2 → Option (M2)) : Nat → M2 → Option (M2)
  | 0, _ => none
  | n_ + 1, S1 =>
    if (S1 1 0) ≤ (S1 5 0) then
      k38 S1
    else
      bnd (S1 5 0) 160 <|
      if (S1 0 (S1 5 0).toNatClampNeg) = (32 : Int32) then
        lt (va_up S1 5 (fun _ => ((S1 5 0) + (1 : Int32)))) fun S2 =>
        fX3_nextToken_L0 k38 n_ S2
      else
        k38 S1

def fX3_nextToken  (S : M2) : Option (M2) :=
  fX3_nextToken_L0 
    (fun p5 =>
      lt (va_up p5 7 (fun _ => (p5 5 0))) fun S6 =>
      if (S6 5 0) < (S6 1 0) then
        bnd (S6 5 0) 160 <|
        (fX3_isLetter (S6 0 (S6 5 0).toNatClampNeg)).bind fun r7 =>
        if r7 = 0 then
          bnd (S6 5 0) 160 <|
          (fX3_isFigure (S6 0 (S6 5 0).toNatClampNeg)).bind fun r8 =>
          if r8 = 0 then
            bnd (S6 5 0) 160 <|
            if (S6 0 (S6 5 0).toNatClampNeg) = (59 : Int32) then
              lt (va_up S6 6 (fun _ => (3 : Int32))) fun S12 =>
              lt (va_up S12 5 (fun _ => ((S12 5 0) + (1 : Int32)))) fun S13 =>
              some S13
            else
              lt (va_up S6 6 (fun _ => (5 : Int32))) fun S9 =>
              (fX3_refuse (1 : Int32) (S9 7 0) S9).bind fun q10 =>
              lt (q10.2) fun S11 =>
              some S11
          else
            (fX3_readNumber  S6).bind fun q15 =>
            lt (q15) fun S16 =>
            some S16
        else
          (fX3_readName  S6).bind fun q18 =>
          lt (q18) fun S19 =>
          some S19
      else
        lt (va_up S6 6 (fun _ => (4 : Int32))) fun S21 =>
        some S21)
    400 S

set_option maxHeartbeats 4000000 in
set_option maxRecDepth 100000 in
theorem tX3_nextToken_L0 {V : JV M2} {b : Nat} {a : Nat → Nat} (hv : vX3 V b a)  {E : JE (M2) Unit} (hE : JOk V E cX3_nextToken yX3_nextToken.cls 1 2 none jj_v) {k38 : M2 → Option (M2)} (hk38 : ∀ p, J V E (fun q => ((), q)) (k38 p) 38 [(0, .ref b)] [] p) : ∀ (n_ : Nat) (S1 : M2), J V E (fun q => ((), q)) (fX3_nextToken_L0 k38 n_ S1) 0 [(0, .ref b)] [] S1 := by
  intro n_
  induction n_ with
  | zero =>
    intros
    exact J_none
  | succ n_ ih =>
    intros S1
    rw [fX3_nextToken_L0]
    refine J_aload_n hE dd_X3_nextToken_0 0 rfl rfl ?_
    refine J_get hE (hv.ob _) jc_X3 5 (by decide) fl_RX3_27 (v := .int (S1 5 0)) rfl dd_X3_nextToken_1 ?_
    refine J_aload_n hE dd_X3_nextToken_4 0 rfl rfl ?_
    refine J_get hE (hv.ob _) jc_X3 1 (by decide) fl_RX3_53 (v := .int (S1 1 0)) rfl dd_X3_nextToken_5 ?_
    refine J_icmp_ge hE (tgt := 38) dd_X3_nextToken_8 (by decide) (fun c4 => ?_) (fun c4 => ?_)
    · refine J_sub [0] rfl ?_
      exact hk38 S1
    · refine J_aload_n hE dd_X3_nextToken_11 0 rfl rfl ?_
      refine J_get hE (hv.ob _) jc_X3 0 (by decide) fl_RX3_9 (v := .ref (a 0)) rfl dd_X3_nextToken_12 ?_
      refine J_aload_n hE dd_X3_nextToken_15 0 rfl rfl ?_
      refine J_get hE (hv.ob _) jc_X3 5 (by decide) fl_RX3_27 (v := .int (S1 5 0)) rfl dd_X3_nextToken_16 ?_
      refine J_ald hE (hv.arr 0 (n := 160) (ty := .int) (by decide) _) dd_X3_nextToken_19 ?_
      refine J_bipush hE (v := (32 : Int32)) dd_X3_nextToken_20 (by decide) ?_
      refine J_icmp_ne hE (tgt := 38) dd_X3_nextToken_22 (by decide) (fun c3 => ?_) (fun c3 => ?_)
      · refine J_sub [0] rfl ?_
        exact hk38 S1
      · refine J_aload_n hE dd_X3_nextToken_25 0 rfl rfl ?_
        refine J_dup hE dd_X3_nextToken_26 rfl ?_
        refine J_get hE (hv.ob _) jc_X3 5 (by decide) fl_RX3_27 (v := .int (S1 5 0)) rfl dd_X3_nextToken_27 ?_
        refine J_iconst hE (v := (1 : Int32)) dd_X3_nextToken_30 (by decide) ?_
        refine J_iadd hE dd_X3_nextToken_31 ?_
        refine J_put hE hv jc_X3 5 (by decide) (by decide) fl_RX3_27 rfl rfl rfl (Nat.le_of_ble_eq_true rfl) dd_X3_nextToken_32 ?_
        refine J_letS (fun S2 => ?_)
        refine J_goto hE (tgt := 0) dd_X3_nextToken_35 (by decide) ?_
        refine J_sub [0] rfl ?_
        exact ih S2
set_option maxHeartbeats 4000000 in
set_option maxRecDepth 100000 in
theorem tX3_nextToken (l : Launch) {V : JV M2} {b : Nat} {a : Nat → Nat} (hv : vX3 V b a) (S : M2)  : JC l V yX3_nextToken cX3_nextToken 1 none jj_v 2 [.ref b] S ((fX3_nextToken  S).map (fun q => ((), q))) := by
  refine jj_of (by decide) (Nat.le_of_ble_eq_true rfl) (fun E hlE hE => ?_)
  unfold fX3_nextToken
  refine J_sub (L' := [(0, .ref b)]) [0] rfl ?_
  refine J_sub [0] rfl ?_
  refine tX3_nextToken_L0 hv  hE (fun p5 => ?_) 400 S
  show J V E _ _ 38 [(0, .ref b)] [] p5
  refine J_aload_n hE dd_X3_nextToken_38 0 rfl rfl ?_
  refine J_aload_n hE dd_X3_nextToken_39 0 rfl rfl ?_
  refine J_get hE (hv.ob _) jc_X3 5 (by decide) fl_RX3_27 (v := .int (p5 5 0)) rfl dd_X3_nextToken_40 ?_
  refine J_put hE hv jc_X3 7 (by decide) (by decide) fl_RX3_64 rfl rfl rfl (Nat.le_of_ble_eq_true rfl) dd_X3_nextToken_43 ?_
  refine J_letS (fun S6 => ?_)
  refine J_aload_n hE dd_X3_nextToken_46 0 rfl rfl ?_
  refine J_get hE (hv.ob _) jc_X3 5 (by decide) fl_RX3_27 (v := .int (S6 5 0)) rfl dd_X3_nextToken_47 ?_
  refine J_aload_n hE dd_X3_nextToken_50 0 rfl rfl ?_
  refine J_get hE (hv.ob _) jc_X3 1 (by decide) fl_RX3_53 (v := .int (S6 1 0)) rfl dd_X3_nextToken_51 ?_
  refine J_icmp_lt hE (tgt := 65) dd_X3_nextToken_54 (by decide) (fun c22 => ?_) (fun c22 => ?_)
  · refine J_aload_n hE dd_X3_nextToken_65 0 rfl rfl ?_
    refine J_get hE (hv.ob _) jc_X3 0 (by decide) fl_RX3_9 (v := .ref (a 0)) rfl dd_X3_nextToken_66 ?_
    refine J_aload_n hE dd_X3_nextToken_69 0 rfl rfl ?_
    refine J_get hE (hv.ob _) jc_X3 5 (by decide) fl_RX3_27 (v := .int (S6 5 0)) rfl dd_X3_nextToken_70 ?_
    refine J_ald hE (hv.arr 0 (n := 160) (ty := .int) (by decide) _) dd_X3_nextToken_73 ?_
    refine J_invSri hE (As := [.int (S6 0 (S6 5 0).toNatClampNeg)]) (st := []) (tX3_isLetter E.2.1 V S6 (S6 0 (S6 5 0).toNatClampNeg)) m_X3_isLetter s_X3_isLetter rfl ml_RX3_136 (Nat.le_of_ble_eq_true rfl) (Nat.le_of_ble_eq_true rfl) rfl (Nat.le_of_ble_eq_true rfl) dd_X3_nextToken_74 (fun r7 => ?_)
    refine J_if_eq hE (tgt := 87) dd_X3_nextToken_77 (by decide) (fun c20 => ?_) (fun c20 => ?_)
    · refine J_aload_n hE dd_X3_nextToken_87 0 rfl rfl ?_
      refine J_get hE (hv.ob _) jc_X3 0 (by decide) fl_RX3_9 (v := .ref (a 0)) rfl dd_X3_nextToken_88 ?_
      refine J_aload_n hE dd_X3_nextToken_91 0 rfl rfl ?_
      refine J_get hE (hv.ob _) jc_X3 5 (by decide) fl_RX3_27 (v := .int (S6 5 0)) rfl dd_X3_nextToken_92 ?_
      refine J_ald hE (hv.arr 0 (n := 160) (ty := .int) (by decide) _) dd_X3_nextToken_95 ?_
      refine J_invSri hE (As := [.int (S6 0 (S6 5 0).toNatClampNeg)]) (st := []) (tX3_isFigure E.2.1 V S6 (S6 0 (S6 5 0).toNatClampNeg)) m_X3_isFigure s_X3_isFigure rfl ml_RX3_142 (Nat.le_of_ble_eq_true rfl) (Nat.le_of_ble_eq_true rfl) rfl (Nat.le_of_ble_eq_true rfl) dd_X3_nextToken_96 (fun r8 => ?_)
      refine J_if_eq hE (tgt := 109) dd_X3_nextToken_99 (by decide) (fun c17 => ?_) (fun c17 => ?_)
      · refine J_aload_n hE dd_X3_nextToken_109 0 rfl rfl ?_
        refine J_get hE (hv.ob _) jc_X3 0 (by decide) fl_RX3_9 (v := .ref (a 0)) rfl dd_X3_nextToken_110 ?_
        refine J_aload_n hE dd_X3_nextToken_113 0 rfl rfl ?_
        refine J_get hE (hv.ob _) jc_X3 5 (by decide) fl_RX3_27 (v := .int (S6 5 0)) rfl dd_X3_nextToken_114 ?_
        refine J_ald hE (hv.arr 0 (n := 160) (ty := .int) (by decide) _) dd_X3_nextToken_117 ?_
        refine J_bipush hE (v := (59 : Int32)) dd_X3_nextToken_118 (by decide) ?_
        refine J_icmp_ne hE (tgt := 141) dd_X3_nextToken_120 (by decide) (fun c14 => ?_) (fun c14 => ?_)
        · refine J_aload_n hE dd_X3_nextToken_141 0 rfl rfl ?_
          refine J_iconst hE (v := (5 : Int32)) dd_X3_nextToken_142 (by decide) ?_
          refine J_put hE hv jc_X3 6 (by decide) (by decide) fl_RX3_40 rfl rfl rfl (Nat.le_of_ble_eq_true rfl) dd_X3_nextToken_143 ?_
          refine J_letS (fun S9 => ?_)
          refine J_aload_n hE dd_X3_nextToken_146 0 rfl rfl ?_
          refine J_iconst hE (v := (1 : Int32)) dd_X3_nextToken_147 (by decide) ?_
          refine J_aload_n hE dd_X3_nextToken_148 0 rfl rfl ?_
          refine J_get hE (hv.ob _) jc_X3 7 (by decide) fl_RX3_64 (v := .int (S9 7 0)) rfl dd_X3_nextToken_149 ?_
          refine J_invVwi hE (e := fun x => x) (As := [.int (1 : Int32), .int (S9 7 0)]) (st := []) (tX3_refuse E.2.1 hv S9 (1 : Int32) (S9 7 0)) (hv.ob _) m_X3_refuse rfl ml_RX3_56 (Nat.le_of_ble_eq_true rfl) (Nat.le_of_ble_eq_true rfl) rfl (Nat.le_of_ble_eq_true rfl) dd_X3_nextToken_152 (fun q10 => ?_)
          refine J_letS (fun S11 => ?_)
          refine J_pop hE dd_X3_nextToken_155 rfl ?_
          exact J_vret hE dd_X3_nextToken_156 rfl rfl
        · refine J_aload_n hE dd_X3_nextToken_123 0 rfl rfl ?_
          refine J_iconst hE (v := (3 : Int32)) dd_X3_nextToken_124 (by decide) ?_
          refine J_put hE hv jc_X3 6 (by decide) (by decide) fl_RX3_40 rfl rfl rfl (Nat.le_of_ble_eq_true rfl) dd_X3_nextToken_125 ?_
          refine J_letS (fun S12 => ?_)
          refine J_aload_n hE dd_X3_nextToken_128 0 rfl rfl ?_
          refine J_dup hE dd_X3_nextToken_129 rfl ?_
          refine J_get hE (hv.ob _) jc_X3 5 (by decide) fl_RX3_27 (v := .int (S12 5 0)) rfl dd_X3_nextToken_130 ?_
          refine J_iconst hE (v := (1 : Int32)) dd_X3_nextToken_133 (by decide) ?_
          refine J_iadd hE dd_X3_nextToken_134 ?_
          refine J_put hE hv jc_X3 5 (by decide) (by decide) fl_RX3_27 rfl rfl rfl (Nat.le_of_ble_eq_true rfl) dd_X3_nextToken_135 ?_
          refine J_letS (fun S13 => ?_)
          refine J_goto hE (tgt := 156) dd_X3_nextToken_138 (by decide) ?_
          exact J_vret hE dd_X3_nextToken_156 rfl rfl
      · refine J_aload_n hE dd_X3_nextToken_102 0 rfl rfl ?_
        refine J_invVwv hE (e := fun x => x) (As := []) (st := []) (tX3_readNumber E.2.1 hv S6 ) (hv.ob _) m_X3_readNumber rfl ml_RX3_145 (Nat.le_of_ble_eq_true rfl) (Nat.le_of_ble_eq_true rfl) rfl (Nat.le_of_ble_eq_true rfl) dd_X3_nextToken_103 (fun q15 => ?_)
        refine J_letS (fun S16 => ?_)
        refine J_goto hE (tgt := 156) dd_X3_nextToken_106 (by decide) ?_
        exact J_vret hE dd_X3_nextToken_156 rfl rfl
    · refine J_aload_n hE dd_X3_nextToken_80 0 rfl rfl ?_
      refine J_invVwv hE (e := fun x => x) (As := []) (st := []) (tX3_readName E.2.1 hv S6 ) (hv.ob _) m_X3_readName rfl ml_RX3_139 (Nat.le_of_ble_eq_true rfl) (Nat.le_of_ble_eq_true rfl) rfl (Nat.le_of_ble_eq_true rfl) dd_X3_nextToken_81 (fun q18 => ?_)
      refine J_letS (fun S19 => ?_)
      refine J_goto hE (tgt := 156) dd_X3_nextToken_84 (by decide) ?_
      exact J_vret hE dd_X3_nextToken_156 rfl rfl
  · refine J_aload_n hE dd_X3_nextToken_57 0 rfl rfl ?_
    refine J_iconst hE (v := (4 : Int32)) dd_X3_nextToken_58 (by decide) ?_
    refine J_put hE hv jc_X3 6 (by decide) (by decide) fl_RX3_40 rfl rfl rfl (Nat.le_of_ble_eq_true rfl) dd_X3_nextToken_59 ?_
    refine J_letS (fun S21 => ?_)
    refine J_goto hE (tgt := 156) dd_X3_nextToken_62 (by decide) ?_
    exact J_vret hE dd_X3_nextToken_156 rfl rfl
theorem dd_X3_isName_0 : jd cX3_isName 0 (.aload_n 0) 1 1 := ⟨by decide +kernel, rfl⟩
theorem dd_X3_isName_1 : jd cX3_isName 1 (.getfield 27) 3 4 := ⟨by decide +kernel, rfl⟩
theorem dd_X3_isName_4 : jd cX3_isName 4 (.aload_n 0) 1 5 := ⟨by decide +kernel, rfl⟩
theorem dd_X3_isName_5 : jd cX3_isName 5 (.getfield 64) 3 8 := ⟨by decide +kernel, rfl⟩
theorem dd_X3_isName_8 : jd cX3_isName 8 (.isub) 1 9 := ⟨by decide +kernel, rfl⟩
theorem dd_X3_isName_9 : jd cX3_isName 9 (.aload_n 1) 1 10 := ⟨by decide +kernel, rfl⟩
theorem ml_RX3_128 : (Cond.methodLink "MothCustoms$Tape" 128 yJ0_length_8abf5 : Cond) ∈ jj_tb := jj_m (List.mem_of_getElem? (i := 351) (by decide +kernel)) rfl
theorem dd_X3_isName_10 : jd cX3_isName 10 (.invokevirtual 128) 3 13 := ⟨by decide +kernel, rfl⟩
theorem dd_X3_isName_18 : jd cX3_isName 18 (.iconst 0) 1 19 := ⟨by decide +kernel, rfl⟩
theorem dd_X3_isName_19 : jd cX3_isName 19 (.istore_n 2) 1 20 := ⟨by decide +kernel, rfl⟩
theorem dd_X3_isName_20 : jd cX3_isName 20 (.iload_n 2) 1 21 := ⟨by decide +kernel, rfl⟩
theorem dd_X3_isName_21 : jd cX3_isName 21 (.aload_n 1) 1 22 := ⟨by decide +kernel, rfl⟩
theorem dd_X3_isName_22 : jd cX3_isName 22 (.invokevirtual 128) 3 25 := ⟨by decide +kernel, rfl⟩
theorem dd_X3_isName_28 : jd cX3_isName 28 (.aload_n 0) 1 29 := ⟨by decide +kernel, rfl⟩
theorem dd_X3_isName_29 : jd cX3_isName 29 (.getfield 9) 3 32 := ⟨by decide +kernel, rfl⟩
theorem dd_X3_isName_32 : jd cX3_isName 32 (.aload_n 0) 1 33 := ⟨by decide +kernel, rfl⟩
theorem dd_X3_isName_33 : jd cX3_isName 33 (.getfield 64) 3 36 := ⟨by decide +kernel, rfl⟩
theorem dd_X3_isName_36 : jd cX3_isName 36 (.iload_n 2) 1 37 := ⟨by decide +kernel, rfl⟩
theorem dd_X3_isName_37 : jd cX3_isName 37 (.iadd) 1 38 := ⟨by decide +kernel, rfl⟩
theorem dd_X3_isName_38 : jd cX3_isName 38 (.iaload) 1 39 := ⟨by decide +kernel, rfl⟩
theorem dd_X3_isName_39 : jd cX3_isName 39 (.aload_n 1) 1 40 := ⟨by decide +kernel, rfl⟩
theorem dd_X3_isName_40 : jd cX3_isName 40 (.iload_n 2) 1 41 := ⟨by decide +kernel, rfl⟩
theorem ml_RX3_132 : (Cond.methodLink "MothCustoms$Tape" 132 yJ0_charAt_5068e : Cond) ∈ jj_tb := jj_m (List.mem_of_getElem? (i := 361) (by decide +kernel)) rfl
theorem dd_X3_isName_41 : jd cX3_isName 41 (.invokevirtual 132) 3 44 := ⟨by decide +kernel, rfl⟩
theorem dd_X3_isName_49 : jd cX3_isName 49 (.iinc 2 1) 3 52 := ⟨by decide +kernel, rfl⟩
theorem dd_X3_isName_52 : jd cX3_isName 52 (.goto (-32)) 3 55 := ⟨by decide +kernel, rfl⟩
theorem dd_X3_isName_47 : jd cX3_isName 47 (.iconst 0) 1 48 := ⟨by decide +kernel, rfl⟩
theorem dd_X3_isName_48 : jd cX3_isName 48 (.ireturn) 1 49 := ⟨by decide +kernel, rfl⟩
theorem dd_X3_isName_44 : jd cX3_isName 44 (.if_icmp .eq 5) 3 47 := ⟨by decide +kernel, rfl⟩
theorem dd_X3_isName_25 : jd cX3_isName 25 (.if_icmp .ge 30) 3 28 := ⟨by decide +kernel, rfl⟩
theorem dd_X3_isName_55 : jd cX3_isName 55 (.iconst 1) 1 56 := ⟨by decide +kernel, rfl⟩
theorem dd_X3_isName_56 : jd cX3_isName 56 (.ireturn) 1 57 := ⟨by decide +kernel, rfl⟩
theorem dd_X3_isName_16 : jd cX3_isName 16 (.iconst 0) 1 17 := ⟨by decide +kernel, rfl⟩
theorem dd_X3_isName_17 : jd cX3_isName 17 (.ireturn) 1 18 := ⟨by decide +kernel, rfl⟩
theorem dd_X3_isName_13 : jd cX3_isName 13 (.if_icmp .eq 5) 3 16 := ⟨by decide +kernel, rfl⟩
theorem m_X3_isName : jmV yX3_isName cX3_isName 3 (some .boolean) 1 := ⟨⟨(jj_m (w := Cond.code yX3_isName cX3_isName 3 (some .boolean)) (List.mem_of_getElem? (i := 350) (by decide +kernel)) rfl), (jj_m (w := Cond.initialized yX3_isName.cls) (List.mem_of_getElem? (i := 65) (by decide +kernel)) rfl), ⟨by decide, by decide⟩, by decide +kernel⟩, (jj_m (w := Cond.instanceMethod yX3_isName) (List.mem_of_getElem? (i := 349) (by decide +kernel)) rfl), (jj_m (w := Cond.selects yX3_isName.cls yX3_isName yX3_isName) (List.mem_of_getElem? (i := 6) (by decide +kernel)) rfl)⟩
def fX3_isName_L20 (S : M2) (k : Nat) (k55 : Unit → Option (Int32)) : Nat → Int32 → Option (Int32)
  | 0, _ => none
  | n_ + 1, v2 =>
    (fJ0_length_8abf5 k).bind fun r3 =>
    if r3 ≤ v2 then
      k55 ()
    else
      bnd ((S 7 0) + v2) 160 <|
      (fJ0_charAt_5068e k v2).bind fun r4 =>
      if (S 0 ((S 7 0) + v2).toNatClampNeg) = r4 then
        lt (v2 + (1 : Int32)) fun x5 =>
        fX3_isName_L20 S k k55 n_ x5
      else
        some (0 : Int32)

def fX3_isName (k : Nat) (S : M2) : Option (Int32) :=
  (fJ0_length_8abf5 k).bind fun r1 =>
  if ((S 5 0) - (S 7 0)) = r1 then
    fX3_isName_L20 S k
      (fun _ =>
        some (1 : Int32))
      400 (0 : Int32)
  else
    some (0 : Int32)

set_option maxHeartbeats 4000000 in
set_option maxRecDepth 100000 in
theorem tX3_isName_L20 {V : JV M2} {b : Nat} {a : Nat → Nat} (hv : vX3 V b a) (S : M2) (k : Nat) {E : JE (M2) Int32} (hE : JOk V E cX3_isName yX3_isName.cls 3 5 (some .boolean) jj_i) (hk : k < 8) {k55 : Unit → Option (Int32)} (hk55 : ∀ p, J V E (fun r => (r, S)) (k55 p) 55 [] [] S) : ∀ (n_ : Nat) (v2 : Int32), J V E (fun r => (r, S)) (fX3_isName_L20 S k k55 n_ v2) 20 [(0, .ref b), (1, .ref (V.2.2.2.2.1 k)), (2, .int v2)] [] S := by
  intro n_
  induction n_ with
  | zero =>
    intros
    exact J_none
  | succ n_ ih =>
    intros v2
    rw [fX3_isName_L20]
    refine J_iload_n hE dd_X3_isName_20 2 rfl rfl ?_
    refine J_aload_n hE dd_X3_isName_21 1 rfl rfl ?_
    refine J_invK hE (As := []) (st := [.int v2]) (tJ0_length_8abf5 E.2.1 hk V _ ) hk m_J0_length_8abf5 rfl rfl ml_RX3_128 (Nat.le_of_ble_eq_true rfl) (Nat.le_of_ble_eq_true rfl) rfl (Nat.le_of_ble_eq_true rfl) dd_X3_isName_22 (fun r3 => ?_)
    refine J_icmp_ge hE (tgt := 55) dd_X3_isName_25 (by decide) (fun c7 => ?_) (fun c7 => ?_)
    · refine J_sub [] rfl ?_
      exact hk55 ()
    · refine J_aload_n hE dd_X3_isName_28 0 rfl rfl ?_
      refine J_get hE (hv.ob _) jc_X3 0 (by decide) fl_RX3_9 (v := .ref (a 0)) rfl dd_X3_isName_29 ?_
      refine J_aload_n hE dd_X3_isName_32 0 rfl rfl ?_
      refine J_get hE (hv.ob _) jc_X3 7 (by decide) fl_RX3_64 (v := .int (S 7 0)) rfl dd_X3_isName_33 ?_
      refine J_iload_n hE dd_X3_isName_36 2 rfl rfl ?_
      refine J_iadd hE dd_X3_isName_37 ?_
      refine J_ald hE (hv.arr 0 (n := 160) (ty := .int) (by decide) _) dd_X3_isName_38 ?_
      refine J_aload_n hE dd_X3_isName_39 1 rfl rfl ?_
      refine J_iload_n hE dd_X3_isName_40 2 rfl rfl ?_
      refine J_invK hE (As := [.int v2]) (st := [.int (S 0 ((S 7 0) + v2).toNatClampNeg)]) (tJ0_charAt_5068e E.2.1 hk V _ v2) hk m_J0_charAt_5068e rfl rfl ml_RX3_132 (Nat.le_of_ble_eq_true rfl) (Nat.le_of_ble_eq_true rfl) rfl (Nat.le_of_ble_eq_true rfl) dd_X3_isName_41 (fun r4 => ?_)
      refine J_icmp_eq hE (tgt := 49) dd_X3_isName_44 (by decide) (fun c6 => ?_) (fun c6 => ?_)
      · refine J_iincL hE (v := (v2 + (1 : Int32))) (Lf := fun x5 => [(2, .int x5), (0, .ref b), (1, .ref (V.2.2.2.2.1 k))]) dd_X3_isName_49 (j := 2) rfl (congrArg (v2 + ·) (by decide)) (Nat.le_of_ble_eq_true rfl) (fun _ => rfl) (fun x5 => ?_)
        refine J_goto hE (tgt := 20) dd_X3_isName_52 (by decide) ?_
        refine J_sub [1, 2, 0] rfl ?_
        exact ih x5
      · refine J_iconst hE (v := (0 : Int32)) dd_X3_isName_47 (by decide) ?_
        exact J_zret hE (Or.inl rfl) dd_X3_isName_48 rfl rfl
set_option maxHeartbeats 4000000 in
set_option maxRecDepth 100000 in
theorem tX3_isName (l : Launch) {V : JV M2} {b : Nat} {a : Nat → Nat} (hv : vX3 V b a) (S : M2) (k : Nat) (hk : k < 8) : JC l V yX3_isName cX3_isName 3 (some .boolean) jj_i 5 [.ref b, .ref (V.2.2.2.2.1 k)] S ((fX3_isName k S).map (fun r => (r, S))) := by
  refine jj_of (by decide) (Nat.le_of_ble_eq_true rfl) (fun E hlE hE => ?_)
  unfold fX3_isName
  refine J_sub (L' := [(0, .ref b), (1, .ref (V.2.2.2.2.1 k))]) [0, 1] rfl ?_
  refine J_aload_n hE dd_X3_isName_0 0 rfl rfl ?_
  refine J_get hE (hv.ob _) jc_X3 5 (by decide) fl_RX3_27 (v := .int (S 5 0)) rfl dd_X3_isName_1 ?_
  refine J_aload_n hE dd_X3_isName_4 0 rfl rfl ?_
  refine J_get hE (hv.ob _) jc_X3 7 (by decide) fl_RX3_64 (v := .int (S 7 0)) rfl dd_X3_isName_5 ?_
  refine J_isub hE dd_X3_isName_8 ?_
  refine J_aload_n hE dd_X3_isName_9 1 rfl rfl ?_
  refine J_invK hE (As := []) (st := [.int ((S 5 0) - (S 7 0))]) (tJ0_length_8abf5 E.2.1 hk V _ ) hk m_J0_length_8abf5 rfl rfl ml_RX3_128 (Nat.le_of_ble_eq_true rfl) (Nat.le_of_ble_eq_true rfl) rfl (Nat.le_of_ble_eq_true rfl) dd_X3_isName_10 (fun r1 => ?_)
  refine J_icmp_eq hE (tgt := 18) dd_X3_isName_13 (by decide) (fun c9 => ?_) (fun c9 => ?_)
  · refine J_iconst hE (v := (0 : Int32)) dd_X3_isName_18 (by decide) ?_
    refine J_istore_n hE (L' := [(2, .int (0 : Int32)), (0, .ref b), (1, .ref (V.2.2.2.2.1 k))]) dd_X3_isName_19 (Nat.le_of_ble_eq_true rfl) rfl rfl ?_
    refine J_sub [1, 2, 0] rfl ?_
    refine tX3_isName_L20 hv S k hE hk (fun _ => ?_) 400 (0 : Int32)
    show J V E _ _ 55 [] [] S
    refine J_iconst hE (v := (1 : Int32)) dd_X3_isName_55 (by decide) ?_
    exact J_zret hE (Or.inr rfl) dd_X3_isName_56 rfl rfl
  · refine J_iconst hE (v := (0 : Int32)) dd_X3_isName_16 (by decide) ?_
    exact J_zret hE (Or.inl rfl) dd_X3_isName_17 rfl rfl
theorem dd_X3_lineNamed_0 : jd cX3_lineNamed 0 (.aload_n 0) 1 1 := ⟨by decide +kernel, rfl⟩
theorem dd_X3_lineNamed_1 : jd cX3_lineNamed 1 (.ldc 111) 2 3 := ⟨by decide +kernel, rfl⟩
theorem ml_RX3_113 : (Cond.methodLink "MothCustoms$Tape" 113 yX3_isName : Cond) ∈ jj_tb := jj_m (List.mem_of_getElem? (i := 347) (by decide +kernel)) rfl
theorem dd_X3_lineNamed_3 : jd cX3_lineNamed 3 (.invokevirtual 113) 3 6 := ⟨by decide +kernel, rfl⟩
theorem dd_X3_lineNamed_11 : jd cX3_lineNamed 11 (.aload_n 0) 1 12 := ⟨by decide +kernel, rfl⟩
theorem dd_X3_lineNamed_12 : jd cX3_lineNamed 12 (.ldc 117) 2 14 := ⟨by decide +kernel, rfl⟩
theorem dd_X3_lineNamed_14 : jd cX3_lineNamed 14 (.invokevirtual 113) 3 17 := ⟨by decide +kernel, rfl⟩
theorem dd_X3_lineNamed_22 : jd cX3_lineNamed 22 (.aload_n 0) 1 23 := ⟨by decide +kernel, rfl⟩
theorem dd_X3_lineNamed_23 : jd cX3_lineNamed 23 (.ldc 119) 2 25 := ⟨by decide +kernel, rfl⟩
theorem dd_X3_lineNamed_25 : jd cX3_lineNamed 25 (.invokevirtual 113) 3 28 := ⟨by decide +kernel, rfl⟩
theorem dd_X3_lineNamed_33 : jd cX3_lineNamed 33 (.aload_n 0) 1 34 := ⟨by decide +kernel, rfl⟩
theorem dd_X3_lineNamed_34 : jd cX3_lineNamed 34 (.ldc 121) 2 36 := ⟨by decide +kernel, rfl⟩
theorem dd_X3_lineNamed_36 : jd cX3_lineNamed 36 (.invokevirtual 113) 3 39 := ⟨by decide +kernel, rfl⟩
theorem dd_X3_lineNamed_44 : jd cX3_lineNamed 44 (.aload_n 0) 1 45 := ⟨by decide +kernel, rfl⟩
theorem dd_X3_lineNamed_45 : jd cX3_lineNamed 45 (.ldc 123) 2 47 := ⟨by decide +kernel, rfl⟩
theorem dd_X3_lineNamed_47 : jd cX3_lineNamed 47 (.invokevirtual 113) 3 50 := ⟨by decide +kernel, rfl⟩
theorem dd_X3_lineNamed_55 : jd cX3_lineNamed 55 (.aload_n 0) 1 56 := ⟨by decide +kernel, rfl⟩
theorem dd_X3_lineNamed_56 : jd cX3_lineNamed 56 (.ldc 125) 2 58 := ⟨by decide +kernel, rfl⟩
theorem dd_X3_lineNamed_58 : jd cX3_lineNamed 58 (.invokevirtual 113) 3 61 := ⟨by decide +kernel, rfl⟩
theorem dd_X3_lineNamed_66 : jd cX3_lineNamed 66 (.aload_n 0) 1 67 := ⟨by decide +kernel, rfl⟩
theorem dd_X3_lineNamed_67 : jd cX3_lineNamed 67 (.ldc 126) 2 69 := ⟨by decide +kernel, rfl⟩
theorem dd_X3_lineNamed_69 : jd cX3_lineNamed 69 (.invokevirtual 113) 3 72 := ⟨by decide +kernel, rfl⟩
theorem dd_X3_lineNamed_78 : jd cX3_lineNamed 78 (.aload_n 0) 1 79 := ⟨by decide +kernel, rfl⟩
theorem dd_X3_lineNamed_79 : jd cX3_lineNamed 79 (.ldc 127) 2 81 := ⟨by decide +kernel, rfl⟩
theorem dd_X3_lineNamed_81 : jd cX3_lineNamed 81 (.invokevirtual 113) 3 84 := ⟨by decide +kernel, rfl⟩
theorem dd_X3_lineNamed_92 : jd cX3_lineNamed 92 (.iconst (-1)) 1 93 := ⟨by decide +kernel, rfl⟩
theorem dd_X3_lineNamed_93 : jd cX3_lineNamed 93 (.ireturn) 1 94 := ⟨by decide +kernel, rfl⟩
theorem dd_X3_lineNamed_87 : jd cX3_lineNamed 87 (.bipush 7) 2 89 := ⟨by decide +kernel, rfl⟩
theorem dd_X3_lineNamed_89 : jd cX3_lineNamed 89 (.goto 4) 3 92 := ⟨by decide +kernel, rfl⟩
theorem dd_X3_lineNamed_84 : jd cX3_lineNamed 84 (.ifCond .eq 8) 3 87 := ⟨by decide +kernel, rfl⟩
theorem dd_X3_lineNamed_75 : jd cX3_lineNamed 75 (.bipush 6) 2 77 := ⟨by decide +kernel, rfl⟩
theorem dd_X3_lineNamed_77 : jd cX3_lineNamed 77 (.ireturn) 1 78 := ⟨by decide +kernel, rfl⟩
theorem dd_X3_lineNamed_72 : jd cX3_lineNamed 72 (.ifCond .eq 6) 3 75 := ⟨by decide +kernel, rfl⟩
theorem dd_X3_lineNamed_64 : jd cX3_lineNamed 64 (.iconst 5) 1 65 := ⟨by decide +kernel, rfl⟩
theorem dd_X3_lineNamed_65 : jd cX3_lineNamed 65 (.ireturn) 1 66 := ⟨by decide +kernel, rfl⟩
theorem dd_X3_lineNamed_61 : jd cX3_lineNamed 61 (.ifCond .eq 5) 3 64 := ⟨by decide +kernel, rfl⟩
theorem dd_X3_lineNamed_53 : jd cX3_lineNamed 53 (.iconst 3) 1 54 := ⟨by decide +kernel, rfl⟩
theorem dd_X3_lineNamed_54 : jd cX3_lineNamed 54 (.ireturn) 1 55 := ⟨by decide +kernel, rfl⟩
theorem dd_X3_lineNamed_50 : jd cX3_lineNamed 50 (.ifCond .eq 5) 3 53 := ⟨by decide +kernel, rfl⟩
theorem dd_X3_lineNamed_42 : jd cX3_lineNamed 42 (.iconst 2) 1 43 := ⟨by decide +kernel, rfl⟩
theorem dd_X3_lineNamed_43 : jd cX3_lineNamed 43 (.ireturn) 1 44 := ⟨by decide +kernel, rfl⟩
theorem dd_X3_lineNamed_39 : jd cX3_lineNamed 39 (.ifCond .eq 5) 3 42 := ⟨by decide +kernel, rfl⟩
theorem dd_X3_lineNamed_31 : jd cX3_lineNamed 31 (.iconst 1) 1 32 := ⟨by decide +kernel, rfl⟩
theorem dd_X3_lineNamed_32 : jd cX3_lineNamed 32 (.ireturn) 1 33 := ⟨by decide +kernel, rfl⟩
theorem dd_X3_lineNamed_28 : jd cX3_lineNamed 28 (.ifCond .eq 5) 3 31 := ⟨by decide +kernel, rfl⟩
theorem dd_X3_lineNamed_20 : jd cX3_lineNamed 20 (.iconst 0) 1 21 := ⟨by decide +kernel, rfl⟩
theorem dd_X3_lineNamed_21 : jd cX3_lineNamed 21 (.ireturn) 1 22 := ⟨by decide +kernel, rfl⟩
theorem dd_X3_lineNamed_17 : jd cX3_lineNamed 17 (.ifCond .eq 5) 3 20 := ⟨by decide +kernel, rfl⟩
theorem dd_X3_lineNamed_9 : jd cX3_lineNamed 9 (.iconst 4) 1 10 := ⟨by decide +kernel, rfl⟩
theorem dd_X3_lineNamed_10 : jd cX3_lineNamed 10 (.ireturn) 1 11 := ⟨by decide +kernel, rfl⟩
theorem dd_X3_lineNamed_6 : jd cX3_lineNamed 6 (.ifCond .eq 5) 3 9 := ⟨by decide +kernel, rfl⟩
theorem m_X3_lineNamed : jmV yX3_lineNamed cX3_lineNamed 1 (some .int) 0 := ⟨⟨(jj_m (w := Cond.code yX3_lineNamed cX3_lineNamed 1 (some .int)) (List.mem_of_getElem? (i := 345) (by decide +kernel)) rfl), (jj_m (w := Cond.initialized yX3_lineNamed.cls) (List.mem_of_getElem? (i := 65) (by decide +kernel)) rfl), ⟨by decide, by decide⟩, by decide +kernel⟩, (jj_m (w := Cond.instanceMethod yX3_lineNamed) (List.mem_of_getElem? (i := 344) (by decide +kernel)) rfl), (jj_m (w := Cond.selects yX3_lineNamed.cls yX3_lineNamed yX3_lineNamed) (List.mem_of_getElem? (i := 5) (by decide +kernel)) rfl)⟩
def fX3_lineNamed  (S : M2) : Option (Int32) :=
  (fX3_isName  0 S).bind fun r1 =>
  if r1 = 0 then
    (fX3_isName  1 S).bind fun r2 =>
    if r2 = 0 then
      (fX3_isName  2 S).bind fun r3 =>
      if r3 = 0 then
        (fX3_isName  3 S).bind fun r4 =>
        if r4 = 0 then
          (fX3_isName  4 S).bind fun r5 =>
          if r5 = 0 then
            (fX3_isName  5 S).bind fun r6 =>
            if r6 = 0 then
              (fX3_isName  6 S).bind fun r7 =>
              if r7 = 0 then
                (fX3_isName  7 S).bind fun r8 =>
                if r8 = 0 then
                  some (-1 : Int32)
                else
                  some (7 : Int32)
              else
                some (6 : Int32)
            else
              some (5 : Int32)
          else
            some (3 : Int32)
        else
          some (2 : Int32)
      else
        some (1 : Int32)
    else
      some (0 : Int32)
  else
    some (4 : Int32)

set_option maxHeartbeats 4000000 in
set_option maxRecDepth 100000 in
theorem tX3_lineNamed (l : Launch) {V : JV M2} {b : Nat} {a : Nat → Nat} (hv : vX3 V b a) (S : M2)  : JC l V yX3_lineNamed cX3_lineNamed 1 (some .int) jj_i 6 [.ref b] S ((fX3_lineNamed  S).map (fun r => (r, S))) := by
  refine jj_of (by decide) (Nat.le_of_ble_eq_true rfl) (fun E hlE hE => ?_)
  unfold fX3_lineNamed
  refine J_sub (L' := [(0, .ref b)]) [0] rfl ?_
  refine J_aload_n hE dd_X3_lineNamed_0 0 rfl rfl ?_
  refine J_ldcS hE dd_X3_lineNamed_1 (k := 0) (by decide) rfl ?_
  refine J_invVri hE (As := [.ref (V.2.2.2.2.1 0)]) (st := []) (tX3_isName E.2.1 hv S  0 (by decide)) (hv.ob _) m_X3_isName rfl ml_RX3_113 (Nat.le_of_ble_eq_true rfl) (Nat.le_of_ble_eq_true rfl) rfl (Nat.le_of_ble_eq_true rfl) dd_X3_lineNamed_3 (fun r1 => ?_)
  refine J_if_eq hE (tgt := 11) dd_X3_lineNamed_6 (by decide) (fun c16 => ?_) (fun c16 => ?_)
  · refine J_aload_n hE dd_X3_lineNamed_11 0 rfl rfl ?_
    refine J_ldcS hE dd_X3_lineNamed_12 (k := 1) (by decide) rfl ?_
    refine J_invVri hE (As := [.ref (V.2.2.2.2.1 1)]) (st := []) (tX3_isName E.2.1 hv S  1 (by decide)) (hv.ob _) m_X3_isName rfl ml_RX3_113 (Nat.le_of_ble_eq_true rfl) (Nat.le_of_ble_eq_true rfl) rfl (Nat.le_of_ble_eq_true rfl) dd_X3_lineNamed_14 (fun r2 => ?_)
    refine J_if_eq hE (tgt := 22) dd_X3_lineNamed_17 (by decide) (fun c15 => ?_) (fun c15 => ?_)
    · refine J_aload_n hE dd_X3_lineNamed_22 0 rfl rfl ?_
      refine J_ldcS hE dd_X3_lineNamed_23 (k := 2) (by decide) rfl ?_
      refine J_invVri hE (As := [.ref (V.2.2.2.2.1 2)]) (st := []) (tX3_isName E.2.1 hv S  2 (by decide)) (hv.ob _) m_X3_isName rfl ml_RX3_113 (Nat.le_of_ble_eq_true rfl) (Nat.le_of_ble_eq_true rfl) rfl (Nat.le_of_ble_eq_true rfl) dd_X3_lineNamed_25 (fun r3 => ?_)
      refine J_if_eq hE (tgt := 33) dd_X3_lineNamed_28 (by decide) (fun c14 => ?_) (fun c14 => ?_)
      · refine J_aload_n hE dd_X3_lineNamed_33 0 rfl rfl ?_
        refine J_ldcS hE dd_X3_lineNamed_34 (k := 3) (by decide) rfl ?_
        refine J_invVri hE (As := [.ref (V.2.2.2.2.1 3)]) (st := []) (tX3_isName E.2.1 hv S  3 (by decide)) (hv.ob _) m_X3_isName rfl ml_RX3_113 (Nat.le_of_ble_eq_true rfl) (Nat.le_of_ble_eq_true rfl) rfl (Nat.le_of_ble_eq_true rfl) dd_X3_lineNamed_36 (fun r4 => ?_)
        refine J_if_eq hE (tgt := 44) dd_X3_lineNamed_39 (by decide) (fun c13 => ?_) (fun c13 => ?_)
        · refine J_aload_n hE dd_X3_lineNamed_44 0 rfl rfl ?_
          refine J_ldcS hE dd_X3_lineNamed_45 (k := 4) (by decide) rfl ?_
          refine J_invVri hE (As := [.ref (V.2.2.2.2.1 4)]) (st := []) (tX3_isName E.2.1 hv S  4 (by decide)) (hv.ob _) m_X3_isName rfl ml_RX3_113 (Nat.le_of_ble_eq_true rfl) (Nat.le_of_ble_eq_true rfl) rfl (Nat.le_of_ble_eq_true rfl) dd_X3_lineNamed_47 (fun r5 => ?_)
          refine J_if_eq hE (tgt := 55) dd_X3_lineNamed_50 (by decide) (fun c12 => ?_) (fun c12 => ?_)
          · refine J_aload_n hE dd_X3_lineNamed_55 0 rfl rfl ?_
            refine J_ldcS hE dd_X3_lineNamed_56 (k := 5) (by decide) rfl ?_
            refine J_invVri hE (As := [.ref (V.2.2.2.2.1 5)]) (st := []) (tX3_isName E.2.1 hv S  5 (by decide)) (hv.ob _) m_X3_isName rfl ml_RX3_113 (Nat.le_of_ble_eq_true rfl) (Nat.le_of_ble_eq_true rfl) rfl (Nat.le_of_ble_eq_true rfl) dd_X3_lineNamed_58 (fun r6 => ?_)
            refine J_if_eq hE (tgt := 66) dd_X3_lineNamed_61 (by decide) (fun c11 => ?_) (fun c11 => ?_)
            · refine J_aload_n hE dd_X3_lineNamed_66 0 rfl rfl ?_
              refine J_ldcS hE dd_X3_lineNamed_67 (k := 6) (by decide) rfl ?_
              refine J_invVri hE (As := [.ref (V.2.2.2.2.1 6)]) (st := []) (tX3_isName E.2.1 hv S  6 (by decide)) (hv.ob _) m_X3_isName rfl ml_RX3_113 (Nat.le_of_ble_eq_true rfl) (Nat.le_of_ble_eq_true rfl) rfl (Nat.le_of_ble_eq_true rfl) dd_X3_lineNamed_69 (fun r7 => ?_)
              refine J_if_eq hE (tgt := 78) dd_X3_lineNamed_72 (by decide) (fun c10 => ?_) (fun c10 => ?_)
              · refine J_aload_n hE dd_X3_lineNamed_78 0 rfl rfl ?_
                refine J_ldcS hE dd_X3_lineNamed_79 (k := 7) (by decide) rfl ?_
                refine J_invVri hE (As := [.ref (V.2.2.2.2.1 7)]) (st := []) (tX3_isName E.2.1 hv S  7 (by decide)) (hv.ob _) m_X3_isName rfl ml_RX3_113 (Nat.le_of_ble_eq_true rfl) (Nat.le_of_ble_eq_true rfl) rfl (Nat.le_of_ble_eq_true rfl) dd_X3_lineNamed_81 (fun r8 => ?_)
                refine J_if_eq hE (tgt := 92) dd_X3_lineNamed_84 (by decide) (fun c9 => ?_) (fun c9 => ?_)
                · refine J_iconst hE (v := (-1 : Int32)) dd_X3_lineNamed_92 (by decide) ?_
                  exact J_iret hE dd_X3_lineNamed_93 rfl rfl
                · refine J_bipush hE (v := (7 : Int32)) dd_X3_lineNamed_87 (by decide) ?_
                  refine J_goto hE (tgt := 93) dd_X3_lineNamed_89 (by decide) ?_
                  exact J_iret hE dd_X3_lineNamed_93 rfl rfl
              · refine J_bipush hE (v := (6 : Int32)) dd_X3_lineNamed_75 (by decide) ?_
                exact J_iret hE dd_X3_lineNamed_77 rfl rfl
            · refine J_iconst hE (v := (5 : Int32)) dd_X3_lineNamed_64 (by decide) ?_
              exact J_iret hE dd_X3_lineNamed_65 rfl rfl
          · refine J_iconst hE (v := (3 : Int32)) dd_X3_lineNamed_53 (by decide) ?_
            exact J_iret hE dd_X3_lineNamed_54 rfl rfl
        · refine J_iconst hE (v := (2 : Int32)) dd_X3_lineNamed_42 (by decide) ?_
          exact J_iret hE dd_X3_lineNamed_43 rfl rfl
      · refine J_iconst hE (v := (1 : Int32)) dd_X3_lineNamed_31 (by decide) ?_
        exact J_iret hE dd_X3_lineNamed_32 rfl rfl
    · refine J_iconst hE (v := (0 : Int32)) dd_X3_lineNamed_20 (by decide) ?_
      exact J_iret hE dd_X3_lineNamed_21 rfl rfl
  · refine J_iconst hE (v := (4 : Int32)) dd_X3_lineNamed_9 (by decide) ?_
    exact J_iret hE dd_X3_lineNamed_10 rfl rfl
theorem dd_X3_readNumbers_0 : jd cX3_readNumbers 0 (.iload_n 1) 1 1 := ⟨by decide +kernel, rfl⟩
theorem dd_X3_readNumbers_1 : jd cX3_readNumbers 1 (.iconst 4) 1 2 := ⟨by decide +kernel, rfl⟩
theorem dd_X3_readNumbers_9 : jd cX3_readNumbers 9 (.iconst 1) 1 10 := ⟨by decide +kernel, rfl⟩
theorem dd_X3_readNumbers_5 : jd cX3_readNumbers 5 (.iconst 3) 1 6 := ⟨by decide +kernel, rfl⟩
theorem dd_X3_readNumbers_6 : jd cX3_readNumbers 6 (.goto 4) 3 9 := ⟨by decide +kernel, rfl⟩
theorem dd_X3_readNumbers_2 : jd cX3_readNumbers 2 (.if_icmp .gt 7) 3 5 := ⟨by decide +kernel, rfl⟩
theorem dd_X3_readNumbers_10 : jd cX3_readNumbers 10 (.istore_n 3) 1 11 := ⟨by decide +kernel, rfl⟩
theorem dd_X3_readNumbers_11 : jd cX3_readNumbers 11 (.iconst 0) 1 12 := ⟨by decide +kernel, rfl⟩
theorem dd_X3_readNumbers_12 : jd cX3_readNumbers 12 (.istore 4) 2 14 := ⟨by decide +kernel, rfl⟩
theorem dd_X3_readNumbers_14 : jd cX3_readNumbers 14 (.iload 4) 2 16 := ⟨by decide +kernel, rfl⟩
theorem dd_X3_readNumbers_16 : jd cX3_readNumbers 16 (.iload_n 3) 1 17 := ⟨by decide +kernel, rfl⟩
theorem dd_X3_readNumbers_20 : jd cX3_readNumbers 20 (.aload_n 0) 1 21 := ⟨by decide +kernel, rfl⟩
theorem ml_RX3_37 : (Cond.methodLink "MothCustoms$Tape" 37 yX3_nextToken : Cond) ∈ jj_tb := jj_m (List.mem_of_getElem? (i := 316) (by decide +kernel)) rfl
theorem dd_X3_readNumbers_21 : jd cX3_readNumbers 21 (.invokevirtual 37) 3 24 := ⟨by decide +kernel, rfl⟩
theorem dd_X3_readNumbers_24 : jd cX3_readNumbers 24 (.aload_n 0) 1 25 := ⟨by decide +kernel, rfl⟩
theorem dd_X3_readNumbers_25 : jd cX3_readNumbers 25 (.getfield 40) 3 28 := ⟨by decide +kernel, rfl⟩
theorem dd_X3_readNumbers_28 : jd cX3_readNumbers 28 (.iconst 2) 1 29 := ⟨by decide +kernel, rfl⟩
theorem dd_X3_readNumbers_42 : jd cX3_readNumbers 42 (.aload_n 0) 1 43 := ⟨by decide +kernel, rfl⟩
theorem dd_X3_readNumbers_43 : jd cX3_readNumbers 43 (.getfield 78) 3 46 := ⟨by decide +kernel, rfl⟩
theorem dd_X3_readNumbers_46 : jd cX3_readNumbers 46 (.iload_n 1) 1 47 := ⟨by decide +kernel, rfl⟩
theorem dd_X3_readNumbers_47 : jd cX3_readNumbers 47 (.bipush 7) 2 49 := ⟨by decide +kernel, rfl⟩
theorem dd_X3_readNumbers_56 : jd cX3_readNumbers 56 (.iconst 0) 1 57 := ⟨by decide +kernel, rfl⟩
theorem dd_X3_readNumbers_52 : jd cX3_readNumbers 52 (.iconst 1) 1 53 := ⟨by decide +kernel, rfl⟩
theorem dd_X3_readNumbers_53 : jd cX3_readNumbers 53 (.goto 4) 3 56 := ⟨by decide +kernel, rfl⟩
theorem dd_X3_readNumbers_49 : jd cX3_readNumbers 49 (.if_icmp .ne 7) 3 52 := ⟨by decide +kernel, rfl⟩
theorem dd_X3_readNumbers_57 : jd cX3_readNumbers 57 (.iload_n 1) 1 58 := ⟨by decide +kernel, rfl⟩
theorem dd_X3_readNumbers_58 : jd cX3_readNumbers 58 (.iload 4) 2 60 := ⟨by decide +kernel, rfl⟩
theorem ml_RX3_81 : (Cond.methodLink "MothCustoms$Tape" 81 yX3_mostOfNumber : Cond) ∈ jj_tb := jj_m (List.mem_of_getElem? (i := 410) (by decide +kernel)) rfl
theorem dd_X3_readNumbers_60 : jd cX3_readNumbers 60 (.invokestatic 81) 3 63 := ⟨by decide +kernel, rfl⟩
theorem dd_X3_readNumbers_63 : jd cX3_readNumbers 63 (.invokestatic 85) 3 66 := ⟨by decide +kernel, rfl⟩
theorem dd_X3_readNumbers_79 : jd cX3_readNumbers 79 (.iload_n 1) 1 80 := ⟨by decide +kernel, rfl⟩
theorem dd_X3_readNumbers_80 : jd cX3_readNumbers 80 (.iconst 5) 1 81 := ⟨by decide +kernel, rfl⟩
theorem dd_X3_readNumbers_84 : jd cX3_readNumbers 84 (.aload_n 2) 1 85 := ⟨by decide +kernel, rfl⟩
theorem dd_X3_readNumbers_85 : jd cX3_readNumbers 85 (.aload_n 0) 1 86 := ⟨by decide +kernel, rfl⟩
theorem dd_X3_readNumbers_86 : jd cX3_readNumbers 86 (.getfield 78) 3 89 := ⟨by decide +kernel, rfl⟩
theorem ml_RX3_89 : (Cond.methodLink "MothCustoms$Tape" 89 yX1_hasCamphor : Cond) ∈ jj_tb := jj_m (List.mem_of_getElem? (i := 417) (by decide +kernel)) rfl
theorem dd_X3_readNumbers_89 : jd cX3_readNumbers 89 (.invokevirtual 89) 3 92 := ⟨by decide +kernel, rfl⟩
theorem dd_X3_readNumbers_95 : jd cX3_readNumbers 95 (.aload_n 0) 1 96 := ⟨by decide +kernel, rfl⟩
theorem dd_X3_readNumbers_96 : jd cX3_readNumbers 96 (.iconst 4) 1 97 := ⟨by decide +kernel, rfl⟩
theorem dd_X3_readNumbers_97 : jd cX3_readNumbers 97 (.aload_n 0) 1 98 := ⟨by decide +kernel, rfl⟩
theorem dd_X3_readNumbers_98 : jd cX3_readNumbers 98 (.getfield 64) 3 101 := ⟨by decide +kernel, rfl⟩
theorem dd_X3_readNumbers_101 : jd cX3_readNumbers 101 (.invokevirtual 56) 3 104 := ⟨by decide +kernel, rfl⟩
theorem dd_X3_readNumbers_104 : jd cX3_readNumbers 104 (.ireturn) 1 105 := ⟨by decide +kernel, rfl⟩
theorem dd_X3_readNumbers_92 : jd cX3_readNumbers 92 (.ifCond .eq 13) 3 95 := ⟨by decide +kernel, rfl⟩
theorem dd_X3_readNumbers_81 : jd cX3_readNumbers 81 (.if_icmp .ne 24) 3 84 := ⟨by decide +kernel, rfl⟩
theorem dd_X3_readNumbers_105 : jd cX3_readNumbers 105 (.aload_n 0) 1 106 := ⟨by decide +kernel, rfl⟩
theorem fl_RX3_15 : (Cond.fieldLink "MothCustoms$Tape" 15 "MothCustoms$Tape" "numbers" "[I" : Cond) ∈ jj_tb := jj_m (List.mem_of_getElem? (i := 99) (by decide +kernel)) rfl
theorem dd_X3_readNumbers_106 : jd cX3_readNumbers 106 (.getfield 15) 3 109 := ⟨by decide +kernel, rfl⟩
theorem dd_X3_readNumbers_109 : jd cX3_readNumbers 109 (.iload 4) 2 111 := ⟨by decide +kernel, rfl⟩
theorem dd_X3_readNumbers_111 : jd cX3_readNumbers 111 (.aload_n 0) 1 112 := ⟨by decide +kernel, rfl⟩
theorem dd_X3_readNumbers_112 : jd cX3_readNumbers 112 (.getfield 78) 3 115 := ⟨by decide +kernel, rfl⟩
theorem dd_X3_readNumbers_115 : jd cX3_readNumbers 115 (.iastore) 1 116 := ⟨by decide +kernel, rfl⟩
theorem dd_X3_readNumbers_116 : jd cX3_readNumbers 116 (.iinc 4 1) 3 119 := ⟨by decide +kernel, rfl⟩
theorem dd_X3_readNumbers_119 : jd cX3_readNumbers 119 (.goto (-105)) 3 122 := ⟨by decide +kernel, rfl⟩
theorem dd_X3_readNumbers_69 : jd cX3_readNumbers 69 (.aload_n 0) 1 70 := ⟨by decide +kernel, rfl⟩
theorem dd_X3_readNumbers_70 : jd cX3_readNumbers 70 (.iconst 3) 1 71 := ⟨by decide +kernel, rfl⟩
theorem dd_X3_readNumbers_71 : jd cX3_readNumbers 71 (.aload_n 0) 1 72 := ⟨by decide +kernel, rfl⟩
theorem dd_X3_readNumbers_72 : jd cX3_readNumbers 72 (.getfield 64) 3 75 := ⟨by decide +kernel, rfl⟩
theorem dd_X3_readNumbers_75 : jd cX3_readNumbers 75 (.invokevirtual 56) 3 78 := ⟨by decide +kernel, rfl⟩
theorem dd_X3_readNumbers_78 : jd cX3_readNumbers 78 (.ireturn) 1 79 := ⟨by decide +kernel, rfl⟩
theorem dd_X3_readNumbers_66 : jd cX3_readNumbers 66 (.ifCond .ne 13) 3 69 := ⟨by decide +kernel, rfl⟩
theorem dd_X3_readNumbers_32 : jd cX3_readNumbers 32 (.aload_n 0) 1 33 := ⟨by decide +kernel, rfl⟩
theorem dd_X3_readNumbers_33 : jd cX3_readNumbers 33 (.iconst 2) 1 34 := ⟨by decide +kernel, rfl⟩
theorem dd_X3_readNumbers_34 : jd cX3_readNumbers 34 (.aload_n 0) 1 35 := ⟨by decide +kernel, rfl⟩
theorem dd_X3_readNumbers_35 : jd cX3_readNumbers 35 (.getfield 64) 3 38 := ⟨by decide +kernel, rfl⟩
theorem dd_X3_readNumbers_38 : jd cX3_readNumbers 38 (.invokevirtual 56) 3 41 := ⟨by decide +kernel, rfl⟩
theorem dd_X3_readNumbers_41 : jd cX3_readNumbers 41 (.ireturn) 1 42 := ⟨by decide +kernel, rfl⟩
theorem dd_X3_readNumbers_29 : jd cX3_readNumbers 29 (.if_icmp .eq 13) 3 32 := ⟨by decide +kernel, rfl⟩
theorem dd_X3_readNumbers_17 : jd cX3_readNumbers 17 (.if_icmp .ge 105) 3 20 := ⟨by decide +kernel, rfl⟩
theorem dd_X3_readNumbers_122 : jd cX3_readNumbers 122 (.iconst 1) 1 123 := ⟨by decide +kernel, rfl⟩
theorem dd_X3_readNumbers_123 : jd cX3_readNumbers 123 (.ireturn) 1 124 := ⟨by decide +kernel, rfl⟩
theorem m_X3_readNumbers : jmV yX3_readNumbers cX3_readNumbers 5 (some .boolean) 2 := ⟨⟨(jj_m (w := Cond.code yX3_readNumbers cX3_readNumbers 5 (some .boolean)) (List.mem_of_getElem? (i := 409) (by decide +kernel)) rfl), (jj_m (w := Cond.initialized yX3_readNumbers.cls) (List.mem_of_getElem? (i := 65) (by decide +kernel)) rfl), ⟨by decide, by decide⟩, by decide +kernel⟩, (jj_m (w := Cond.instanceMethod yX3_readNumbers) (List.mem_of_getElem? (i := 408) (by decide +kernel)) rfl), (jj_m (w := Cond.selects yX3_readNumbers.cls yX3_readNumbers yX3_readNumbers) (List.mem_of_getElem? (i := 7) (by decide +kernel)) rfl)⟩
def fX3_readNumbers_L14 (T : M2) (S : M2) (i1 : Int32) (p3 : Int32) (k122 : (M2 × M2) → Option (Int32 × (M2 × M2))) : Nat → Int32 → M2 → M2 → Option (Int32 × (M2 × M2))
  | 0, _, _, _ => none
  | n_ + 1, v4, T5, S6 =>
    if p3 ≤ v4 then
      k122 (T5, S6)
    else
      (fX3_nextToken  T5).bind fun q7 =>
      lt (q7) fun T8 =>
      if (T8 6 0) = (2 : Int32) then
        jn (α := Option (Int32 × (M2 × M2))) (β := Int32) (fun j9 =>
          if i1 = (7 : Int32) then
            j9 (1 : Int32)
          else
            j9 (0 : Int32)) (fun p11 => 
          (fX3_mostOfNumber i1 v4).bind fun r12 =>
          (fX4_within (T8 8 0) p11 r12).bind fun r13 =>
          if r13 = 0 then
            (fX3_refuse (3 : Int32) (T8 7 0) T8).bind fun q23 =>
            lt (q23.2) fun T24 =>
            zb q23.1 (some (q23.1, (T24, S6)))
          else
            jn (α := Option (Int32 × (M2 × M2))) (β := Unit) (fun j14 =>
              if i1 = (5 : Int32) then
                (fX1_hasCamphor (T8 8 0) S6).bind fun r15 =>
                if r15 = 0 then
                  j14 ()
                else
                  (fX3_refuse (4 : Int32) (T8 7 0) T8).bind fun q16 =>
                  lt (q16.2) fun T17 =>
                  zb q16.1 (some (q16.1, (T17, S6)))
              else
                j14 ()) (fun _ => 
              bnd v4 3 <|
              lt (va_up T8 4 (upd (T8 4) v4.toNatClampNeg (T8 8 0))) fun T21 =>
              lt (v4 + (1 : Int32)) fun x22 =>
              fX3_readNumbers_L14 T S i1 p3 k122 n_ x22 T21 S6))
      else
        (fX3_refuse (2 : Int32) (T8 7 0) T8).bind fun q26 =>
        lt (q26.2) fun T27 =>
        zb q26.1 (some (q26.1, (T27, S6)))

def fX3_readNumbers (i1 : Int32) (T : M2) (S : M2) : Option (Int32 × (M2 × M2)) :=
  jn (α := Option (Int32 × (M2 × M2))) (β := Int32) (fun j1 =>
    if (4 : Int32) < i1 then
      j1 (1 : Int32)
    else
      j1 (3 : Int32)) (fun p3 => 
    fX3_readNumbers_L14 T S i1 p3
      (fun p30 =>
        some ((1 : Int32), (p30.1, p30.2)))
      400 (0 : Int32) T S)

set_option maxHeartbeats 4000000 in
set_option maxRecDepth 100000 in
theorem tX3_readNumbers_L14 {V : JV (M2 × M2)} {b : Nat} {a : Nat → Nat} {b2 : Nat} {a2 : Nat → Nat} (hv1 : v1X3 V b a) (hv2 : v2X1 V b2 a2) (T : M2) (S : M2) (i1 : Int32) (p3 : Int32) {E : JE (M2 × M2) Int32} (hE : JOk V E cX3_readNumbers yX3_readNumbers.cls 5 3 (some .boolean) jj_i) {k122 : (M2 × M2) → Option (Int32 × (M2 × M2))} (hk122 : ∀ p, J V E (fun q => (q.1, q.2)) (k122 p) 122 [] [] (p.1, p.2)) : ∀ (n_ : Nat) (v4 : Int32) (T5 : M2) (S6 : M2), J V E (fun q => (q.1, q.2)) (fX3_readNumbers_L14 T S i1 p3 k122 n_ v4 T5 S6) 14 [(0, .ref b), (1, .int i1), (2, .ref b2), (3, .int p3), (4, .int v4)] [] (T5, S6) := by
  intro n_
  induction n_ with
  | zero =>
    intros
    exact J_none
  | succ n_ ih =>
    intros v4 T5 S6
    rw [fX3_readNumbers_L14]
    refine J_iload hE dd_X3_readNumbers_14 4 rfl ?_
    refine J_iload_n hE dd_X3_readNumbers_16 3 rfl rfl ?_
    refine J_icmp_ge hE (tgt := 122) dd_X3_readNumbers_17 (by decide) (fun c29 => ?_) (fun c29 => ?_)
    · refine J_sub [] rfl ?_
      exact hk122 (T5, S6)
    · refine J_aload_n hE dd_X3_readNumbers_20 0 rfl rfl ?_
      refine J_invVwv hE (e := fun T => (T, S6)) (As := []) (st := []) (JC.lift_v (e := fun T => (T, S6)) (tX3_nextToken E.2.1 (v1X3s hv1 S6) T5 ) rfl) (hv1.ob _) m_X3_nextToken rfl ml_RX3_37 (Nat.le_of_ble_eq_true rfl) (Nat.le_of_ble_eq_true rfl) rfl (Nat.le_of_ble_eq_true rfl) dd_X3_readNumbers_21 (fun q7 => ?_)
      refine J_let1 (S := S6) (fun T8 => ?_)
      refine J_aload_n hE dd_X3_readNumbers_24 0 rfl rfl ?_
      refine J_get hE (hv1.ob _) jc_X3 6 (by decide) fl_RX3_40 (v := .int (T8 6 0)) rfl dd_X3_readNumbers_25 ?_
      refine J_iconst hE (v := (2 : Int32)) dd_X3_readNumbers_28 (by decide) ?_
      refine J_icmp_eq hE (tgt := 42) dd_X3_readNumbers_29 (by decide) (fun c28 => ?_) (fun c28 => ?_)
      · refine J_aload_n hE dd_X3_readNumbers_42 0 rfl rfl ?_
        refine J_get hE (hv1.ob _) jc_X3 8 (by decide) fl_RX3_78 (v := .int (T8 8 0)) rfl dd_X3_readNumbers_43 ?_
        refine J_iload_n hE dd_X3_readNumbers_46 1 rfl rfl ?_
        refine J_bipush hE (v := (7 : Int32)) dd_X3_readNumbers_47 (by decide) ?_
        refine J_jn (m := 57) (Lf := fun p11 => [(0, .ref b), (1, .int i1), (2, .ref b2), (3, .int p3), (4, .int v4)]) (sf := fun p11 => [.int p11, .int (T8 8 0)]) (Xf := fun p11 => (T8, S6)) (fun p11 => ?_) (fun hj9 => ?_)
        · show J V E _ _ 57 [(0, .ref b), (1, .int i1), (2, .ref b2), (3, .int p3), (4, .int v4)] [.int p11, .int (T8 8 0)] (T8, S6)
          refine J_iload_n hE dd_X3_readNumbers_57 1 rfl rfl ?_
          refine J_iload hE dd_X3_readNumbers_58 4 rfl ?_
          refine J_invSri hE (As := [.int i1, .int v4]) (st := [.int p11, .int (T8 8 0)]) (tX3_mostOfNumber E.2.1 V (T8, S6) i1 v4) m_X3_mostOfNumber s_X3_mostOfNumber rfl ml_RX3_81 (Nat.le_of_ble_eq_true rfl) (Nat.le_of_ble_eq_true rfl) rfl (Nat.le_of_ble_eq_true rfl) dd_X3_readNumbers_60 (fun r12 => ?_)
          refine J_invNri hE (host := "MothCustoms") (As := [.int (T8 8 0), .int p11, .int r12]) (st := []) (tX4_within E.2.1 V (T8, S6) (T8 8 0) p11 r12) m_X4_within s_X4_within rfl (by decide +kernel) (Nat.le_of_ble_eq_true rfl) (Nat.le_of_ble_eq_true rfl) rfl (Nat.le_of_ble_eq_true rfl) dd_X3_readNumbers_63 (fun r13 => ?_)
          refine J_if_ne hE (tgt := 79) dd_X3_readNumbers_66 (by decide) (fun c25 => ?_) (fun c25 => ?_)
          · refine J_iload_n hE dd_X3_readNumbers_79 1 rfl rfl ?_
            refine J_iconst hE (v := (5 : Int32)) dd_X3_readNumbers_80 (by decide) ?_
            refine J_jn (m := 105) (Lf := fun _ => [(0, .ref b), (1, .int i1), (2, .ref b2), (3, .int p3), (4, .int v4)]) (sf := fun _ => []) (Xf := fun _ => (T8, S6)) (fun _ => ?_) (fun hj14 => ?_)
            · show J V E _ _ 105 [(0, .ref b), (1, .int i1), (2, .ref b2), (3, .int p3), (4, .int v4)] [] (T8, S6)
              refine J_aload_n hE dd_X3_readNumbers_105 0 rfl rfl ?_
              refine J_get hE (hv1.ob _) jc_X3 4 (by decide) fl_RX3_15 (v := .ref (a 4)) rfl dd_X3_readNumbers_106 ?_
              refine J_iload hE dd_X3_readNumbers_109 4 rfl ?_
              refine J_aload_n hE dd_X3_readNumbers_111 0 rfl rfl ?_
              refine J_get hE (hv1.ob _) jc_X3 8 (by decide) fl_RX3_78 (v := .int (T8 8 0)) rfl dd_X3_readNumbers_112 ?_
              refine J_ast hE hv1 4 (N := 3) (by decide) dd_X3_readNumbers_115 ?_
              refine J_let1 (S := S6) (fun T21 => ?_)
              refine J_iincL hE (v := (v4 + (1 : Int32))) (Lf := fun x22 => [(4, .int x22), (0, .ref b), (1, .int i1), (2, .ref b2), (3, .int p3)]) dd_X3_readNumbers_116 (j := 4) rfl (congrArg (v4 + ·) (by decide)) (Nat.le_of_ble_eq_true rfl) (fun _ => rfl) (fun x22 => ?_)
              refine J_goto hE (tgt := 14) dd_X3_readNumbers_119 (by decide) ?_
              refine J_sub [1, 2, 3, 4, 0] rfl ?_
              exact ih x22 T21 S6
            · refine J_icmp_ne hE (tgt := 105) dd_X3_readNumbers_81 (by decide) (fun c19 => ?_) (fun c19 => ?_)
              · refine J_sub [0, 1, 2, 3, 4] rfl ?_
                exact hj14 ()
              · refine J_aload_n hE dd_X3_readNumbers_84 2 rfl rfl ?_
                refine J_aload_n hE dd_X3_readNumbers_85 0 rfl rfl ?_
                refine J_get hE (hv1.ob _) jc_X3 8 (by decide) fl_RX3_78 (v := .int (T8 8 0)) rfl dd_X3_readNumbers_86 ?_
                refine J_invVri hE (As := [.int (T8 8 0)]) (st := []) (JC.lift_r (e := fun S => (T8, S)) (tX1_hasCamphor E.2.1 (v2X1s hv2 T8) S6 (T8 8 0)) rfl) (hv2.ob _) m_X1_hasCamphor rfl ml_RX3_89 (Nat.le_of_ble_eq_true rfl) (Nat.le_of_ble_eq_true rfl) rfl (Nat.le_of_ble_eq_true rfl) dd_X3_readNumbers_89 (fun r15 => ?_)
                refine J_if_eq hE (tgt := 105) dd_X3_readNumbers_92 (by decide) (fun c18 => ?_) (fun c18 => ?_)
                · refine J_sub [0, 1, 2, 3, 4] rfl ?_
                  exact hj14 ()
                · refine J_aload_n hE dd_X3_readNumbers_95 0 rfl rfl ?_
                  refine J_iconst hE (v := (4 : Int32)) dd_X3_readNumbers_96 (by decide) ?_
                  refine J_aload_n hE dd_X3_readNumbers_97 0 rfl rfl ?_
                  refine J_get hE (hv1.ob _) jc_X3 7 (by decide) fl_RX3_64 (v := .int (T8 7 0)) rfl dd_X3_readNumbers_98 ?_
                  refine J_invVwi hE (e := fun T => (T, S6)) (As := [.int (4 : Int32), .int (T8 7 0)]) (st := []) (JC.lift_w (e := fun T => (T, S6)) (tX3_refuse E.2.1 (v1X3s hv1 S6) T8 (4 : Int32) (T8 7 0)) rfl) (hv1.ob _) m_X3_refuse rfl ml_RX3_56 (Nat.le_of_ble_eq_true rfl) (Nat.le_of_ble_eq_true rfl) rfl (Nat.le_of_ble_eq_true rfl) dd_X3_readNumbers_101 (fun q16 => ?_)
                  refine J_let1 (S := S6) (fun T17 => ?_)
                  refine J_zb (fun hz => ?_)
                  exact J_zret hE hz dd_X3_readNumbers_104 rfl rfl
          · refine J_aload_n hE dd_X3_readNumbers_69 0 rfl rfl ?_
            refine J_iconst hE (v := (3 : Int32)) dd_X3_readNumbers_70 (by decide) ?_
            refine J_aload_n hE dd_X3_readNumbers_71 0 rfl rfl ?_
            refine J_get hE (hv1.ob _) jc_X3 7 (by decide) fl_RX3_64 (v := .int (T8 7 0)) rfl dd_X3_readNumbers_72 ?_
            refine J_invVwi hE (e := fun T => (T, S6)) (As := [.int (3 : Int32), .int (T8 7 0)]) (st := []) (JC.lift_w (e := fun T => (T, S6)) (tX3_refuse E.2.1 (v1X3s hv1 S6) T8 (3 : Int32) (T8 7 0)) rfl) (hv1.ob _) m_X3_refuse rfl ml_RX3_56 (Nat.le_of_ble_eq_true rfl) (Nat.le_of_ble_eq_true rfl) rfl (Nat.le_of_ble_eq_true rfl) dd_X3_readNumbers_75 (fun q23 => ?_)
            refine J_let1 (S := S6) (fun T24 => ?_)
            refine J_zb (fun hz => ?_)
            exact J_zret hE hz dd_X3_readNumbers_78 rfl rfl
        · refine J_icmp_ne hE (tgt := 56) dd_X3_readNumbers_49 (by decide) (fun c10 => ?_) (fun c10 => ?_)
          · refine J_iconst hE (v := (0 : Int32)) dd_X3_readNumbers_56 (by decide) ?_
            refine J_sub [0, 1, 2, 3, 4] rfl ?_
            exact hj9 (0 : Int32)
          · refine J_iconst hE (v := (1 : Int32)) dd_X3_readNumbers_52 (by decide) ?_
            refine J_goto hE (tgt := 57) dd_X3_readNumbers_53 (by decide) ?_
            refine J_sub [0, 1, 2, 3, 4] rfl ?_
            exact hj9 (1 : Int32)
      · refine J_aload_n hE dd_X3_readNumbers_32 0 rfl rfl ?_
        refine J_iconst hE (v := (2 : Int32)) dd_X3_readNumbers_33 (by decide) ?_
        refine J_aload_n hE dd_X3_readNumbers_34 0 rfl rfl ?_
        refine J_get hE (hv1.ob _) jc_X3 7 (by decide) fl_RX3_64 (v := .int (T8 7 0)) rfl dd_X3_readNumbers_35 ?_
        refine J_invVwi hE (e := fun T => (T, S6)) (As := [.int (2 : Int32), .int (T8 7 0)]) (st := []) (JC.lift_w (e := fun T => (T, S6)) (tX3_refuse E.2.1 (v1X3s hv1 S6) T8 (2 : Int32) (T8 7 0)) rfl) (hv1.ob _) m_X3_refuse rfl ml_RX3_56 (Nat.le_of_ble_eq_true rfl) (Nat.le_of_ble_eq_true rfl) rfl (Nat.le_of_ble_eq_true rfl) dd_X3_readNumbers_38 (fun q26 => ?_)
        refine J_let1 (S := S6) (fun T27 => ?_)
        refine J_zb (fun hz => ?_)
        exact J_zret hE hz dd_X3_readNumbers_41 rfl rfl
set_option maxHeartbeats 4000000 in
set_option maxRecDepth 100000 in
theorem tX3_readNumbers (l : Launch) {V : JV (M2 × M2)} {b : Nat} {a : Nat → Nat} {b2 : Nat} {a2 : Nat → Nat} (hv1 : v1X3 V b a) (hv2 : v2X1 V b2 a2) (T : M2) (S : M2) (i1 : Int32) : JC l V yX3_readNumbers cX3_readNumbers 5 (some .boolean) jj_i 3 [.ref b, .int i1, .ref b2] (T, S) ((fX3_readNumbers i1 T S).map (fun q => (q.1, q.2))) := by
  refine jj_of (by decide) (Nat.le_of_ble_eq_true rfl) (fun E hlE hE => ?_)
  unfold fX3_readNumbers
  refine J_sub (L' := [(0, .ref b), (1, .int i1), (2, .ref b2)]) [0, 1, 2] rfl ?_
  refine J_iload_n hE dd_X3_readNumbers_0 1 rfl rfl ?_
  refine J_iconst hE (v := (4 : Int32)) dd_X3_readNumbers_1 (by decide) ?_
  refine J_jn (m := 10) (Lf := fun p3 => [(0, .ref b), (1, .int i1), (2, .ref b2)]) (sf := fun p3 => [.int p3]) (Xf := fun p3 => (T, S)) (fun p3 => ?_) (fun hj1 => ?_)
  · show J V E _ _ 10 [(0, .ref b), (1, .int i1), (2, .ref b2)] [.int p3] (T, S)
    refine J_istore_n hE (L' := [(3, .int p3), (0, .ref b), (1, .int i1), (2, .ref b2)]) dd_X3_readNumbers_10 (Nat.le_of_ble_eq_true rfl) rfl rfl ?_
    refine J_iconst hE (v := (0 : Int32)) dd_X3_readNumbers_11 (by decide) ?_
    refine J_istore hE (L' := [(4, .int (0 : Int32)), (3, .int p3), (0, .ref b), (1, .int i1), (2, .ref b2)]) dd_X3_readNumbers_12 (Nat.le_of_ble_eq_true rfl) rfl ?_
    refine J_sub [2, 3, 4, 1, 0] rfl ?_
    refine tX3_readNumbers_L14 hv1 hv2 T S i1 p3 hE (fun p30 => ?_) 400 (0 : Int32) T S
    show J V E _ _ 122 [] [] (p30.1, p30.2)
    refine J_iconst hE (v := (1 : Int32)) dd_X3_readNumbers_122 (by decide) ?_
    exact J_zret hE (Or.inr rfl) dd_X3_readNumbers_123 rfl rfl
  · refine J_icmp_gt hE (tgt := 9) dd_X3_readNumbers_2 (by decide) (fun c2 => ?_) (fun c2 => ?_)
    · refine J_iconst hE (v := (1 : Int32)) dd_X3_readNumbers_9 (by decide) ?_
      refine J_sub [0, 1, 2] rfl ?_
      exact hj1 (1 : Int32)
    · refine J_iconst hE (v := (3 : Int32)) dd_X3_readNumbers_5 (by decide) ?_
      refine J_goto hE (tgt := 10) dd_X3_readNumbers_6 (by decide) ?_
      refine J_sub [0, 1, 2] rfl ?_
      exact hj1 (3 : Int32)
theorem dd_X3_take_0 : jd cX3_take 0 (.iload_n 1) 1 1 := ⟨by decide +kernel, rfl⟩
theorem dd_X3_take_32 : jd cX3_take 32 (.aload_n 2) 1 33 := ⟨by decide +kernel, rfl⟩
theorem dd_X3_take_33 : jd cX3_take 33 (.aload_n 0) 1 34 := ⟨by decide +kernel, rfl⟩
theorem dd_X3_take_34 : jd cX3_take 34 (.getfield 15) 3 37 := ⟨by decide +kernel, rfl⟩
theorem dd_X3_take_37 : jd cX3_take 37 (.iconst 0) 1 38 := ⟨by decide +kernel, rfl⟩
theorem dd_X3_take_38 : jd cX3_take 38 (.iaload) 1 39 := ⟨by decide +kernel, rfl⟩
theorem dd_X3_take_39 : jd cX3_take 39 (.aload_n 0) 1 40 := ⟨by decide +kernel, rfl⟩
theorem dd_X3_take_40 : jd cX3_take 40 (.getfield 15) 3 43 := ⟨by decide +kernel, rfl⟩
theorem dd_X3_take_43 : jd cX3_take 43 (.iconst 1) 1 44 := ⟨by decide +kernel, rfl⟩
theorem dd_X3_take_44 : jd cX3_take 44 (.iaload) 1 45 := ⟨by decide +kernel, rfl⟩
theorem dd_X3_take_45 : jd cX3_take 45 (.aload_n 0) 1 46 := ⟨by decide +kernel, rfl⟩
theorem dd_X3_take_46 : jd cX3_take 46 (.getfield 15) 3 49 := ⟨by decide +kernel, rfl⟩
theorem dd_X3_take_49 : jd cX3_take 49 (.iconst 2) 1 50 := ⟨by decide +kernel, rfl⟩
theorem dd_X3_take_50 : jd cX3_take 50 (.iaload) 1 51 := ⟨by decide +kernel, rfl⟩
theorem ml_RX3_97 : (Cond.methodLink "MothCustoms$Tape" 97 yX1_addBolt : Cond) ∈ jj_tb := jj_m (List.mem_of_getElem? (i := 425) (by decide +kernel)) rfl
theorem dd_X3_take_51 : jd cX3_take 51 (.invokevirtual 97) 3 54 := ⟨by decide +kernel, rfl⟩
theorem dd_X3_take_136 : jd cX3_take 136 (.return_) 1 137 := ⟨by decide +kernel, rfl⟩
theorem dd_X3_take_54 : jd cX3_take 54 (.goto 82) 3 57 := ⟨by decide +kernel, rfl⟩
theorem dd_X3_take_57 : jd cX3_take 57 (.aload_n 2) 1 58 := ⟨by decide +kernel, rfl⟩
theorem dd_X3_take_58 : jd cX3_take 58 (.dup) 1 59 := ⟨by decide +kernel, rfl⟩
theorem fl_RX3_47 : (Cond.fieldLink "MothCustoms$Tape" 47 "MothCustoms$Shed" "camphor" "I" : Cond) ∈ jj_tb := jj_m (List.mem_of_getElem? (i := 147) (by decide +kernel)) rfl
theorem dd_X3_take_59 : jd cX3_take 59 (.getfield 47) 3 62 := ⟨by decide +kernel, rfl⟩
theorem dd_X3_take_62 : jd cX3_take 62 (.iconst 1) 1 63 := ⟨by decide +kernel, rfl⟩
theorem dd_X3_take_63 : jd cX3_take 63 (.aload_n 0) 1 64 := ⟨by decide +kernel, rfl⟩
theorem dd_X3_take_64 : jd cX3_take 64 (.getfield 15) 3 67 := ⟨by decide +kernel, rfl⟩
theorem dd_X3_take_67 : jd cX3_take 67 (.iconst 0) 1 68 := ⟨by decide +kernel, rfl⟩
theorem dd_X3_take_68 : jd cX3_take 68 (.iaload) 1 69 := ⟨by decide +kernel, rfl⟩
theorem dd_X3_take_69 : jd cX3_take 69 (.ishl) 1 70 := ⟨by decide +kernel, rfl⟩
theorem dd_X3_take_70 : jd cX3_take 70 (.ior) 1 71 := ⟨by decide +kernel, rfl⟩
theorem dd_X3_take_71 : jd cX3_take 71 (.putfield 47) 3 74 := ⟨by decide +kernel, rfl⟩
theorem dd_X3_take_74 : jd cX3_take 74 (.goto 62) 3 77 := ⟨by decide +kernel, rfl⟩
theorem dd_X3_take_77 : jd cX3_take 77 (.aload_n 2) 1 78 := ⟨by decide +kernel, rfl⟩
theorem dd_X3_take_78 : jd cX3_take 78 (.aload_n 0) 1 79 := ⟨by decide +kernel, rfl⟩
theorem dd_X3_take_79 : jd cX3_take 79 (.getfield 15) 3 82 := ⟨by decide +kernel, rfl⟩
theorem dd_X3_take_82 : jd cX3_take 82 (.iconst 0) 1 83 := ⟨by decide +kernel, rfl⟩
theorem dd_X3_take_83 : jd cX3_take 83 (.iaload) 1 84 := ⟨by decide +kernel, rfl⟩
theorem fl_RX3_101 : (Cond.fieldLink "MothCustoms$Tape" 101 "MothCustoms$Shed" "moon" "I" : Cond) ∈ jj_tb := jj_m (List.mem_of_getElem? (i := 166) (by decide +kernel)) rfl
theorem dd_X3_take_84 : jd cX3_take 84 (.putfield 101) 3 87 := ⟨by decide +kernel, rfl⟩
theorem dd_X3_take_87 : jd cX3_take 87 (.aload_n 0) 1 88 := ⟨by decide +kernel, rfl⟩
theorem dd_X3_take_88 : jd cX3_take 88 (.iconst 1) 1 89 := ⟨by decide +kernel, rfl⟩
theorem fl_RX3_30 : (Cond.fieldLink "MothCustoms$Tape" 30 "MothCustoms$Tape" "moonTold" "Z" : Cond) ∈ jj_tb := jj_m (List.mem_of_getElem? (i := 104) (by decide +kernel)) rfl
theorem dd_X3_take_89 : jd cX3_take 89 (.putfield 30) 3 92 := ⟨by decide +kernel, rfl⟩
theorem dd_X3_take_92 : jd cX3_take 92 (.goto 44) 3 95 := ⟨by decide +kernel, rfl⟩
theorem dd_X3_take_95 : jd cX3_take 95 (.aload_n 2) 1 96 := ⟨by decide +kernel, rfl⟩
theorem dd_X3_take_96 : jd cX3_take 96 (.aload_n 0) 1 97 := ⟨by decide +kernel, rfl⟩
theorem dd_X3_take_97 : jd cX3_take 97 (.getfield 15) 3 100 := ⟨by decide +kernel, rfl⟩
theorem dd_X3_take_100 : jd cX3_take 100 (.iconst 0) 1 101 := ⟨by decide +kernel, rfl⟩
theorem dd_X3_take_101 : jd cX3_take 101 (.iaload) 1 102 := ⟨by decide +kernel, rfl⟩
theorem fl_RX3_104 : (Cond.fieldLink "MothCustoms$Tape" 104 "MothCustoms$Shed" "rate" "I" : Cond) ∈ jj_tb := jj_m (List.mem_of_getElem? (i := 169) (by decide +kernel)) rfl
theorem dd_X3_take_102 : jd cX3_take 102 (.putfield 104) 3 105 := ⟨by decide +kernel, rfl⟩
theorem dd_X3_take_105 : jd cX3_take 105 (.aload_n 0) 1 106 := ⟨by decide +kernel, rfl⟩
theorem dd_X3_take_106 : jd cX3_take 106 (.iconst 1) 1 107 := ⟨by decide +kernel, rfl⟩
theorem fl_RX3_34 : (Cond.fieldLink "MothCustoms$Tape" 34 "MothCustoms$Tape" "rateTold" "Z" : Cond) ∈ jj_tb := jj_m (List.mem_of_getElem? (i := 105) (by decide +kernel)) rfl
theorem dd_X3_take_107 : jd cX3_take 107 (.putfield 34) 3 110 := ⟨by decide +kernel, rfl⟩
theorem dd_X3_take_110 : jd cX3_take 110 (.goto 26) 3 113 := ⟨by decide +kernel, rfl⟩
theorem dd_X3_take_113 : jd cX3_take 113 (.aload_n 2) 1 114 := ⟨by decide +kernel, rfl⟩
theorem dd_X3_take_114 : jd cX3_take 114 (.iload_n 1) 1 115 := ⟨by decide +kernel, rfl⟩
theorem dd_X3_take_115 : jd cX3_take 115 (.aload_n 0) 1 116 := ⟨by decide +kernel, rfl⟩
theorem dd_X3_take_116 : jd cX3_take 116 (.getfield 15) 3 119 := ⟨by decide +kernel, rfl⟩
theorem dd_X3_take_119 : jd cX3_take 119 (.iconst 0) 1 120 := ⟨by decide +kernel, rfl⟩
theorem dd_X3_take_120 : jd cX3_take 120 (.iaload) 1 121 := ⟨by decide +kernel, rfl⟩
theorem dd_X3_take_121 : jd cX3_take 121 (.aload_n 0) 1 122 := ⟨by decide +kernel, rfl⟩
theorem dd_X3_take_122 : jd cX3_take 122 (.getfield 15) 3 125 := ⟨by decide +kernel, rfl⟩
theorem dd_X3_take_125 : jd cX3_take 125 (.iconst 1) 1 126 := ⟨by decide +kernel, rfl⟩
theorem dd_X3_take_126 : jd cX3_take 126 (.iaload) 1 127 := ⟨by decide +kernel, rfl⟩
theorem dd_X3_take_127 : jd cX3_take 127 (.aload_n 0) 1 128 := ⟨by decide +kernel, rfl⟩
theorem dd_X3_take_128 : jd cX3_take 128 (.getfield 15) 3 131 := ⟨by decide +kernel, rfl⟩
theorem dd_X3_take_131 : jd cX3_take 131 (.iconst 2) 1 132 := ⟨by decide +kernel, rfl⟩
theorem dd_X3_take_132 : jd cX3_take 132 (.iaload) 1 133 := ⟨by decide +kernel, rfl⟩
theorem ml_RX3_107 : (Cond.methodLink "MothCustoms$Tape" 107 yX1_addMoth : Cond) ∈ jj_tb := jj_m (List.mem_of_getElem? (i := 433) (by decide +kernel)) rfl
theorem dd_X3_take_133 : jd cX3_take 133 (.invokevirtual 107) 3 136 := ⟨by decide +kernel, rfl⟩
theorem dd_X3_take_1 : jd cX3_take 1 (.tableswitch 112 4 7 #[31, 56, 76, 94]) 31 32 := ⟨by decide +kernel, rfl⟩
theorem m_X3_take : jmV yX3_take cX3_take 3 none 2 := ⟨⟨(jj_m (w := Cond.code yX3_take cX3_take 3 none) (List.mem_of_getElem? (i := 424) (by decide +kernel)) rfl), (jj_m (w := Cond.initialized yX3_take.cls) (List.mem_of_getElem? (i := 65) (by decide +kernel)) rfl), ⟨by decide, by decide⟩, by decide +kernel⟩, (jj_m (w := Cond.instanceMethod yX3_take) (List.mem_of_getElem? (i := 423) (by decide +kernel)) rfl), (jj_m (w := Cond.selects yX3_take.cls yX3_take yX3_take) (List.mem_of_getElem? (i := 8) (by decide +kernel)) rfl)⟩
def fX3_take (i1 : Int32) (T : M2) (S : M2) : Option (M2 × M2) :=
  if i1 = 4 then
    bnd (0 : Int32) 3 <|
    bnd (1 : Int32) 3 <|
    bnd (2 : Int32) 3 <|
    (fX1_addBolt (T 4 (0 : Int32).toNatClampNeg) (T 4 (1 : Int32).toNatClampNeg) (T 4 (2 : Int32).toNatClampNeg) S).bind fun q2 =>
    lt (q2) fun S3 =>
    some (T, S3)
  else
    if i1 = 5 then
      bnd (0 : Int32) 3 <|
      lt (va_up S 4 (fun _ => ((S 4 0) ||| ((1 : Int32) <<< ((T 4 (0 : Int32).toNatClampNeg) &&& 31))))) fun S5 =>
      some (T, S5)
    else
      if i1 = 6 then
        bnd (0 : Int32) 3 <|
        lt (va_up S 12 (fun _ => (T 4 (0 : Int32).toNatClampNeg))) fun S7 =>
        lt (va_up T 9 (fun _ => (1 : Int32))) fun T8 =>
        some (T8, S7)
      else
        if i1 = 7 then
          bnd (0 : Int32) 3 <|
          lt (va_up S 13 (fun _ => (T 4 (0 : Int32).toNatClampNeg))) fun S10 =>
          lt (va_up T 10 (fun _ => (1 : Int32))) fun T11 =>
          some (T11, S10)
        else
          bnd (0 : Int32) 3 <|
          bnd (1 : Int32) 3 <|
          bnd (2 : Int32) 3 <|
          (fX1_addMoth i1 (T 4 (0 : Int32).toNatClampNeg) (T 4 (1 : Int32).toNatClampNeg) (T 4 (2 : Int32).toNatClampNeg) S).bind fun q12 =>
          lt (q12) fun S13 =>
          some (T, S13)

set_option maxHeartbeats 4000000 in
set_option maxRecDepth 100000 in
theorem tX3_take (l : Launch) {V : JV (M2 × M2)} {b : Nat} {a : Nat → Nat} {b2 : Nat} {a2 : Nat → Nat} (hv1 : v1X3 V b a) (hv2 : v2X1 V b2 a2) (T : M2) (S : M2) (i1 : Int32) : JC l V yX3_take cX3_take 3 none jj_v 2 [.ref b, .int i1, .ref b2] (T, S) ((fX3_take i1 T S).map (fun q => ((), q))) := by
  refine jj_of (by decide) (Nat.le_of_ble_eq_true rfl) (fun E hlE hE => ?_)
  unfold fX3_take
  refine J_sub (L' := [(0, .ref b), (1, .int i1), (2, .ref b2)]) [0, 1, 2] rfl ?_
  refine J_iload_n hE dd_X3_take_0 1 rfl rfl ?_
  refine J_ite (fun c1 => ?_) (fun c1 => ?_)
  · refine J_tsAt hE c1 (off := 31) (tgt := 32) dd_X3_take_1 (by decide) (by decide) (by decide) (by decide) ?_
    refine J_aload_n hE dd_X3_take_32 2 rfl rfl ?_
    refine J_aload_n hE dd_X3_take_33 0 rfl rfl ?_
    refine J_get hE (hv1.ob _) jc_X3 4 (by decide) fl_RX3_15 (v := .ref (a 4)) rfl dd_X3_take_34 ?_
    refine J_iconst hE (v := (0 : Int32)) dd_X3_take_37 (by decide) ?_
    refine J_ald hE (hv1.arr 4 (n := 3) (ty := .int) (by decide) _) dd_X3_take_38 ?_
    refine J_aload_n hE dd_X3_take_39 0 rfl rfl ?_
    refine J_get hE (hv1.ob _) jc_X3 4 (by decide) fl_RX3_15 (v := .ref (a 4)) rfl dd_X3_take_40 ?_
    refine J_iconst hE (v := (1 : Int32)) dd_X3_take_43 (by decide) ?_
    refine J_ald hE (hv1.arr 4 (n := 3) (ty := .int) (by decide) _) dd_X3_take_44 ?_
    refine J_aload_n hE dd_X3_take_45 0 rfl rfl ?_
    refine J_get hE (hv1.ob _) jc_X3 4 (by decide) fl_RX3_15 (v := .ref (a 4)) rfl dd_X3_take_46 ?_
    refine J_iconst hE (v := (2 : Int32)) dd_X3_take_49 (by decide) ?_
    refine J_ald hE (hv1.arr 4 (n := 3) (ty := .int) (by decide) _) dd_X3_take_50 ?_
    refine J_invVwv hE (e := fun S => (T, S)) (As := [.int (T 4 (0 : Int32).toNatClampNeg), .int (T 4 (1 : Int32).toNatClampNeg), .int (T 4 (2 : Int32).toNatClampNeg)]) (st := []) (JC.lift_v (e := fun S => (T, S)) (tX1_addBolt E.2.1 (v2X1s hv2 T) S (T 4 (0 : Int32).toNatClampNeg) (T 4 (1 : Int32).toNatClampNeg) (T 4 (2 : Int32).toNatClampNeg)) rfl) (hv2.ob _) m_X1_addBolt rfl ml_RX3_97 (Nat.le_of_ble_eq_true rfl) (Nat.le_of_ble_eq_true rfl) rfl (Nat.le_of_ble_eq_true rfl) dd_X3_take_51 (fun q2 => ?_)
    refine J_let2 (T := T) (fun S3 => ?_)
    refine J_goto hE (tgt := 136) dd_X3_take_54 (by decide) ?_
    exact J_vret hE dd_X3_take_136 rfl rfl
  · refine J_ite (fun c4 => ?_) (fun c4 => ?_)
    · refine J_tsAt hE c4 (off := 56) (tgt := 57) dd_X3_take_1 (by decide) (by decide) (by decide) (by decide) ?_
      refine J_aload_n hE dd_X3_take_57 2 rfl rfl ?_
      refine J_dup hE dd_X3_take_58 rfl ?_
      refine J_get hE (hv2.ob _) jc_X1 4 (by decide) fl_RX3_47 (v := .int (S 4 0)) rfl dd_X3_take_59 ?_
      refine J_iconst hE (v := (1 : Int32)) dd_X3_take_62 (by decide) ?_
      refine J_aload_n hE dd_X3_take_63 0 rfl rfl ?_
      refine J_get hE (hv1.ob _) jc_X3 4 (by decide) fl_RX3_15 (v := .ref (a 4)) rfl dd_X3_take_64 ?_
      refine J_iconst hE (v := (0 : Int32)) dd_X3_take_67 (by decide) ?_
      refine J_ald hE (hv1.arr 4 (n := 3) (ty := .int) (by decide) _) dd_X3_take_68 ?_
      refine J_ishl hE dd_X3_take_69 ?_
      refine J_ior hE dd_X3_take_70 ?_
      refine J_put hE hv2 jc_X1 4 (by decide) (by decide) fl_RX3_47 rfl rfl rfl (Nat.le_of_ble_eq_true rfl) dd_X3_take_71 ?_
      refine J_let2 (T := T) (fun S5 => ?_)
      refine J_goto hE (tgt := 136) dd_X3_take_74 (by decide) ?_
      exact J_vret hE dd_X3_take_136 rfl rfl
    · refine J_ite (fun c6 => ?_) (fun c6 => ?_)
      · refine J_tsAt hE c6 (off := 76) (tgt := 77) dd_X3_take_1 (by decide) (by decide) (by decide) (by decide) ?_
        refine J_aload_n hE dd_X3_take_77 2 rfl rfl ?_
        refine J_aload_n hE dd_X3_take_78 0 rfl rfl ?_
        refine J_get hE (hv1.ob _) jc_X3 4 (by decide) fl_RX3_15 (v := .ref (a 4)) rfl dd_X3_take_79 ?_
        refine J_iconst hE (v := (0 : Int32)) dd_X3_take_82 (by decide) ?_
        refine J_ald hE (hv1.arr 4 (n := 3) (ty := .int) (by decide) _) dd_X3_take_83 ?_
        refine J_put hE hv2 jc_X1 12 (by decide) (by decide) fl_RX3_101 rfl rfl rfl (Nat.le_of_ble_eq_true rfl) dd_X3_take_84 ?_
        refine J_let2 (T := T) (fun S7 => ?_)
        refine J_aload_n hE dd_X3_take_87 0 rfl rfl ?_
        refine J_iconst hE (v := (1 : Int32)) dd_X3_take_88 (by decide) ?_
        refine J_put hE hv1 jc_X3 9 (by decide) (by decide) fl_RX3_30 rfl rfl rfl (Nat.le_of_ble_eq_true rfl) dd_X3_take_89 ?_
        refine J_let1 (S := S7) (fun T8 => ?_)
        refine J_goto hE (tgt := 136) dd_X3_take_92 (by decide) ?_
        exact J_vret hE dd_X3_take_136 rfl rfl
      · refine J_ite (fun c9 => ?_) (fun c9 => ?_)
        · refine J_tsAt hE c9 (off := 94) (tgt := 95) dd_X3_take_1 (by decide) (by decide) (by decide) (by decide) ?_
          refine J_aload_n hE dd_X3_take_95 2 rfl rfl ?_
          refine J_aload_n hE dd_X3_take_96 0 rfl rfl ?_
          refine J_get hE (hv1.ob _) jc_X3 4 (by decide) fl_RX3_15 (v := .ref (a 4)) rfl dd_X3_take_97 ?_
          refine J_iconst hE (v := (0 : Int32)) dd_X3_take_100 (by decide) ?_
          refine J_ald hE (hv1.arr 4 (n := 3) (ty := .int) (by decide) _) dd_X3_take_101 ?_
          refine J_put hE hv2 jc_X1 13 (by decide) (by decide) fl_RX3_104 rfl rfl rfl (Nat.le_of_ble_eq_true rfl) dd_X3_take_102 ?_
          refine J_let2 (T := T) (fun S10 => ?_)
          refine J_aload_n hE dd_X3_take_105 0 rfl rfl ?_
          refine J_iconst hE (v := (1 : Int32)) dd_X3_take_106 (by decide) ?_
          refine J_put hE hv1 jc_X3 10 (by decide) (by decide) fl_RX3_34 rfl rfl rfl (Nat.le_of_ble_eq_true rfl) dd_X3_take_107 ?_
          refine J_let1 (S := S10) (fun T11 => ?_)
          refine J_goto hE (tgt := 136) dd_X3_take_110 (by decide) ?_
          exact J_vret hE dd_X3_take_136 rfl rfl
        · refine J_tsOut hE (tgt := 113) dd_X3_take_1 (by have e0 : ¬ (i1).toInt = 4 := fun q => c1 (Int32.toInt_inj.mp (q.trans (by decide))); have e1 : ¬ (i1).toInt = 5 := fun q => c4 (Int32.toInt_inj.mp (q.trans (by decide))); have e2 : ¬ (i1).toInt = 6 := fun q => c6 (Int32.toInt_inj.mp (q.trans (by decide))); have e3 : ¬ (i1).toInt = 7 := fun q => c9 (Int32.toInt_inj.mp (q.trans (by decide))); omega) (by decide) ?_
          refine J_aload_n hE dd_X3_take_113 2 rfl rfl ?_
          refine J_iload_n hE dd_X3_take_114 1 rfl rfl ?_
          refine J_aload_n hE dd_X3_take_115 0 rfl rfl ?_
          refine J_get hE (hv1.ob _) jc_X3 4 (by decide) fl_RX3_15 (v := .ref (a 4)) rfl dd_X3_take_116 ?_
          refine J_iconst hE (v := (0 : Int32)) dd_X3_take_119 (by decide) ?_
          refine J_ald hE (hv1.arr 4 (n := 3) (ty := .int) (by decide) _) dd_X3_take_120 ?_
          refine J_aload_n hE dd_X3_take_121 0 rfl rfl ?_
          refine J_get hE (hv1.ob _) jc_X3 4 (by decide) fl_RX3_15 (v := .ref (a 4)) rfl dd_X3_take_122 ?_
          refine J_iconst hE (v := (1 : Int32)) dd_X3_take_125 (by decide) ?_
          refine J_ald hE (hv1.arr 4 (n := 3) (ty := .int) (by decide) _) dd_X3_take_126 ?_
          refine J_aload_n hE dd_X3_take_127 0 rfl rfl ?_
          refine J_get hE (hv1.ob _) jc_X3 4 (by decide) fl_RX3_15 (v := .ref (a 4)) rfl dd_X3_take_128 ?_
          refine J_iconst hE (v := (2 : Int32)) dd_X3_take_131 (by decide) ?_
          refine J_ald hE (hv1.arr 4 (n := 3) (ty := .int) (by decide) _) dd_X3_take_132 ?_
          refine J_invVwv hE (e := fun S => (T, S)) (As := [.int i1, .int (T 4 (0 : Int32).toNatClampNeg), .int (T 4 (1 : Int32).toNatClampNeg), .int (T 4 (2 : Int32).toNatClampNeg)]) (st := []) (JC.lift_v (e := fun S => (T, S)) (tX1_addMoth E.2.1 (v2X1s hv2 T) S i1 (T 4 (0 : Int32).toNatClampNeg) (T 4 (1 : Int32).toNatClampNeg) (T 4 (2 : Int32).toNatClampNeg)) rfl) (hv2.ob _) m_X1_addMoth rfl ml_RX3_107 (Nat.le_of_ble_eq_true rfl) (Nat.le_of_ble_eq_true rfl) rfl (Nat.le_of_ble_eq_true rfl) dd_X3_take_133 (fun q12 => ?_)
          refine J_let2 (T := T) (fun S13 => ?_)
          exact J_vret hE dd_X3_take_136 rfl rfl
theorem dd_X3_tellLine_0 : jd cX3_tellLine 0 (.aload_n 0) 1 1 := ⟨by decide +kernel, rfl⟩
theorem dd_X3_tellLine_1 : jd cX3_tellLine 1 (.getfield 40) 3 4 := ⟨by decide +kernel, rfl⟩
theorem dd_X3_tellLine_4 : jd cX3_tellLine 4 (.iconst 1) 1 5 := ⟨by decide +kernel, rfl⟩
theorem dd_X3_tellLine_15 : jd cX3_tellLine 15 (.iconst (-1)) 1 16 := ⟨by decide +kernel, rfl⟩
theorem dd_X3_tellLine_8 : jd cX3_tellLine 8 (.aload_n 0) 1 9 := ⟨by decide +kernel, rfl⟩
theorem ml_RX3_60 : (Cond.methodLink "MothCustoms$Tape" 60 yX3_lineNamed : Cond) ∈ jj_tb := jj_m (List.mem_of_getElem? (i := 342) (by decide +kernel)) rfl
theorem dd_X3_tellLine_9 : jd cX3_tellLine 9 (.invokevirtual 60) 3 12 := ⟨by decide +kernel, rfl⟩
theorem dd_X3_tellLine_12 : jd cX3_tellLine 12 (.goto 4) 3 15 := ⟨by decide +kernel, rfl⟩
theorem dd_X3_tellLine_5 : jd cX3_tellLine 5 (.if_icmp .ne 10) 3 8 := ⟨by decide +kernel, rfl⟩
theorem dd_X3_tellLine_16 : jd cX3_tellLine 16 (.istore_n 2) 1 17 := ⟨by decide +kernel, rfl⟩
theorem dd_X3_tellLine_17 : jd cX3_tellLine 17 (.iload_n 2) 1 18 := ⟨by decide +kernel, rfl⟩
theorem dd_X3_tellLine_18 : jd cX3_tellLine 18 (.iconst (-1)) 1 19 := ⟨by decide +kernel, rfl⟩
theorem dd_X3_tellLine_32 : jd cX3_tellLine 32 (.iload_n 2) 1 33 := ⟨by decide +kernel, rfl⟩
theorem dd_X3_tellLine_33 : jd cX3_tellLine 33 (.bipush 6) 2 35 := ⟨by decide +kernel, rfl⟩
theorem dd_X3_tellLine_38 : jd cX3_tellLine 38 (.aload_n 0) 1 39 := ⟨by decide +kernel, rfl⟩
theorem dd_X3_tellLine_39 : jd cX3_tellLine 39 (.getfield 30) 3 42 := ⟨by decide +kernel, rfl⟩
theorem dd_X3_tellLine_42 : jd cX3_tellLine 42 (.ifCond .ne 16) 3 45 := ⟨by decide +kernel, rfl⟩
theorem dd_X3_tellLine_35 : jd cX3_tellLine 35 (.if_icmp .ne 10) 3 38 := ⟨by decide +kernel, rfl⟩
theorem dd_X3_tellLine_45 : jd cX3_tellLine 45 (.iload_n 2) 1 46 := ⟨by decide +kernel, rfl⟩
theorem dd_X3_tellLine_46 : jd cX3_tellLine 46 (.bipush 7) 2 48 := ⟨by decide +kernel, rfl⟩
theorem dd_X3_tellLine_51 : jd cX3_tellLine 51 (.aload_n 0) 1 52 := ⟨by decide +kernel, rfl⟩
theorem dd_X3_tellLine_52 : jd cX3_tellLine 52 (.getfield 34) 3 55 := ⟨by decide +kernel, rfl⟩
theorem dd_X3_tellLine_55 : jd cX3_tellLine 55 (.ifCond .eq 13) 3 58 := ⟨by decide +kernel, rfl⟩
theorem dd_X3_tellLine_48 : jd cX3_tellLine 48 (.if_icmp .ne 20) 3 51 := ⟨by decide +kernel, rfl⟩
theorem dd_X3_tellLine_68 : jd cX3_tellLine 68 (.iload_n 2) 1 69 := ⟨by decide +kernel, rfl⟩
theorem dd_X3_tellLine_69 : jd cX3_tellLine 69 (.iconst 4) 1 70 := ⟨by decide +kernel, rfl⟩
theorem dd_X3_tellLine_73 : jd cX3_tellLine 73 (.aload_n 1) 1 74 := ⟨by decide +kernel, rfl⟩
theorem fl_RX3_50 : (Cond.fieldLink "MothCustoms$Tape" 50 "MothCustoms$Shed" "bolts" "I" : Cond) ∈ jj_tb := jj_m (List.mem_of_getElem? (i := 137) (by decide +kernel)) rfl
theorem dd_X3_tellLine_74 : jd cX3_tellLine 74 (.getfield 50) 3 77 := ⟨by decide +kernel, rfl⟩
theorem dd_X3_tellLine_77 : jd cX3_tellLine 77 (.iconst 5) 1 78 := ⟨by decide +kernel, rfl⟩
theorem dd_X3_tellLine_78 : jd cX3_tellLine 78 (.if_icmp .ge 16) 3 81 := ⟨by decide +kernel, rfl⟩
theorem dd_X3_tellLine_70 : jd cX3_tellLine 70 (.if_icmp .ne 11) 3 73 := ⟨by decide +kernel, rfl⟩
theorem dd_X3_tellLine_81 : jd cX3_tellLine 81 (.iload_n 2) 1 82 := ⟨by decide +kernel, rfl⟩
theorem dd_X3_tellLine_82 : jd cX3_tellLine 82 (.iconst 3) 1 83 := ⟨by decide +kernel, rfl⟩
theorem dd_X3_tellLine_86 : jd cX3_tellLine 86 (.aload_n 1) 1 87 := ⟨by decide +kernel, rfl⟩
theorem fl_RX3_67 : (Cond.fieldLink "MothCustoms$Tape" 67 "MothCustoms$Shed" "moths" "I" : Cond) ∈ jj_tb := jj_m (List.mem_of_getElem? (i := 156) (by decide +kernel)) rfl
theorem dd_X3_tellLine_87 : jd cX3_tellLine 87 (.getfield 67) 3 90 := ⟨by decide +kernel, rfl⟩
theorem dd_X3_tellLine_90 : jd cX3_tellLine 90 (.iconst 4) 1 91 := ⟨by decide +kernel, rfl⟩
theorem dd_X3_tellLine_91 : jd cX3_tellLine 91 (.if_icmp .lt 13) 3 94 := ⟨by decide +kernel, rfl⟩
theorem dd_X3_tellLine_83 : jd cX3_tellLine 83 (.if_icmp .gt 21) 3 86 := ⟨by decide +kernel, rfl⟩
theorem dd_X3_tellLine_104 : jd cX3_tellLine 104 (.aload_n 0) 1 105 := ⟨by decide +kernel, rfl⟩
theorem dd_X3_tellLine_105 : jd cX3_tellLine 105 (.iload_n 2) 1 106 := ⟨by decide +kernel, rfl⟩
theorem dd_X3_tellLine_106 : jd cX3_tellLine 106 (.aload_n 1) 1 107 := ⟨by decide +kernel, rfl⟩
theorem ml_RX3_70 : (Cond.methodLink "MothCustoms$Tape" 70 yX3_readNumbers : Cond) ∈ jj_tb := jj_m (List.mem_of_getElem? (i := 406) (by decide +kernel)) rfl
theorem dd_X3_tellLine_107 : jd cX3_tellLine 107 (.invokevirtual 70) 3 110 := ⟨by decide +kernel, rfl⟩
theorem dd_X3_tellLine_115 : jd cX3_tellLine 115 (.aload_n 0) 1 116 := ⟨by decide +kernel, rfl⟩
theorem dd_X3_tellLine_116 : jd cX3_tellLine 116 (.invokevirtual 37) 3 119 := ⟨by decide +kernel, rfl⟩
theorem dd_X3_tellLine_119 : jd cX3_tellLine 119 (.aload_n 0) 1 120 := ⟨by decide +kernel, rfl⟩
theorem dd_X3_tellLine_120 : jd cX3_tellLine 120 (.getfield 40) 3 123 := ⟨by decide +kernel, rfl⟩
theorem dd_X3_tellLine_123 : jd cX3_tellLine 123 (.iconst 3) 1 124 := ⟨by decide +kernel, rfl⟩
theorem dd_X3_tellLine_137 : jd cX3_tellLine 137 (.aload_n 0) 1 138 := ⟨by decide +kernel, rfl⟩
theorem dd_X3_tellLine_138 : jd cX3_tellLine 138 (.iload_n 2) 1 139 := ⟨by decide +kernel, rfl⟩
theorem dd_X3_tellLine_139 : jd cX3_tellLine 139 (.aload_n 1) 1 140 := ⟨by decide +kernel, rfl⟩
theorem ml_RX3_74 : (Cond.methodLink "MothCustoms$Tape" 74 yX3_take : Cond) ∈ jj_tb := jj_m (List.mem_of_getElem? (i := 421) (by decide +kernel)) rfl
theorem dd_X3_tellLine_140 : jd cX3_tellLine 140 (.invokevirtual 74) 3 143 := ⟨by decide +kernel, rfl⟩
theorem dd_X3_tellLine_143 : jd cX3_tellLine 143 (.iconst 1) 1 144 := ⟨by decide +kernel, rfl⟩
theorem dd_X3_tellLine_144 : jd cX3_tellLine 144 (.ireturn) 1 145 := ⟨by decide +kernel, rfl⟩
theorem dd_X3_tellLine_127 : jd cX3_tellLine 127 (.aload_n 0) 1 128 := ⟨by decide +kernel, rfl⟩
theorem dd_X3_tellLine_128 : jd cX3_tellLine 128 (.iconst 2) 1 129 := ⟨by decide +kernel, rfl⟩
theorem dd_X3_tellLine_129 : jd cX3_tellLine 129 (.aload_n 0) 1 130 := ⟨by decide +kernel, rfl⟩
theorem dd_X3_tellLine_130 : jd cX3_tellLine 130 (.getfield 64) 3 133 := ⟨by decide +kernel, rfl⟩
theorem dd_X3_tellLine_133 : jd cX3_tellLine 133 (.invokevirtual 56) 3 136 := ⟨by decide +kernel, rfl⟩
theorem dd_X3_tellLine_136 : jd cX3_tellLine 136 (.ireturn) 1 137 := ⟨by decide +kernel, rfl⟩
theorem dd_X3_tellLine_124 : jd cX3_tellLine 124 (.if_icmp .eq 13) 3 127 := ⟨by decide +kernel, rfl⟩
theorem dd_X3_tellLine_113 : jd cX3_tellLine 113 (.iconst 0) 1 114 := ⟨by decide +kernel, rfl⟩
theorem dd_X3_tellLine_114 : jd cX3_tellLine 114 (.ireturn) 1 115 := ⟨by decide +kernel, rfl⟩
theorem dd_X3_tellLine_110 : jd cX3_tellLine 110 (.ifCond .ne 5) 3 113 := ⟨by decide +kernel, rfl⟩
theorem dd_X3_tellLine_94 : jd cX3_tellLine 94 (.aload_n 0) 1 95 := ⟨by decide +kernel, rfl⟩
theorem dd_X3_tellLine_95 : jd cX3_tellLine 95 (.iconst 5) 1 96 := ⟨by decide +kernel, rfl⟩
theorem dd_X3_tellLine_96 : jd cX3_tellLine 96 (.aload_n 0) 1 97 := ⟨by decide +kernel, rfl⟩
theorem dd_X3_tellLine_97 : jd cX3_tellLine 97 (.getfield 64) 3 100 := ⟨by decide +kernel, rfl⟩
theorem dd_X3_tellLine_100 : jd cX3_tellLine 100 (.invokevirtual 56) 3 103 := ⟨by decide +kernel, rfl⟩
theorem dd_X3_tellLine_103 : jd cX3_tellLine 103 (.ireturn) 1 104 := ⟨by decide +kernel, rfl⟩
theorem dd_X3_tellLine_58 : jd cX3_tellLine 58 (.aload_n 0) 1 59 := ⟨by decide +kernel, rfl⟩
theorem dd_X3_tellLine_59 : jd cX3_tellLine 59 (.iconst 4) 1 60 := ⟨by decide +kernel, rfl⟩
theorem dd_X3_tellLine_60 : jd cX3_tellLine 60 (.aload_n 0) 1 61 := ⟨by decide +kernel, rfl⟩
theorem dd_X3_tellLine_61 : jd cX3_tellLine 61 (.getfield 64) 3 64 := ⟨by decide +kernel, rfl⟩
theorem dd_X3_tellLine_64 : jd cX3_tellLine 64 (.invokevirtual 56) 3 67 := ⟨by decide +kernel, rfl⟩
theorem dd_X3_tellLine_67 : jd cX3_tellLine 67 (.ireturn) 1 68 := ⟨by decide +kernel, rfl⟩
theorem dd_X3_tellLine_22 : jd cX3_tellLine 22 (.aload_n 0) 1 23 := ⟨by decide +kernel, rfl⟩
theorem dd_X3_tellLine_23 : jd cX3_tellLine 23 (.iconst 2) 1 24 := ⟨by decide +kernel, rfl⟩
theorem dd_X3_tellLine_24 : jd cX3_tellLine 24 (.aload_n 0) 1 25 := ⟨by decide +kernel, rfl⟩
theorem dd_X3_tellLine_25 : jd cX3_tellLine 25 (.getfield 64) 3 28 := ⟨by decide +kernel, rfl⟩
theorem dd_X3_tellLine_28 : jd cX3_tellLine 28 (.invokevirtual 56) 3 31 := ⟨by decide +kernel, rfl⟩
theorem dd_X3_tellLine_31 : jd cX3_tellLine 31 (.ireturn) 1 32 := ⟨by decide +kernel, rfl⟩
theorem dd_X3_tellLine_19 : jd cX3_tellLine 19 (.if_icmp .ne 13) 3 22 := ⟨by decide +kernel, rfl⟩
theorem m_X3_tellLine : jmV yX3_tellLine cX3_tellLine 3 (some .boolean) 1 := ⟨⟨(jj_m (w := Cond.code yX3_tellLine cX3_tellLine 3 (some .boolean)) (List.mem_of_getElem? (i := 341) (by decide +kernel)) rfl), (jj_m (w := Cond.initialized yX3_tellLine.cls) (List.mem_of_getElem? (i := 65) (by decide +kernel)) rfl), ⟨by decide, by decide⟩, by decide +kernel⟩, (jj_m (w := Cond.instanceMethod yX3_tellLine) (List.mem_of_getElem? (i := 340) (by decide +kernel)) rfl), (jj_m (w := Cond.selects yX3_tellLine.cls yX3_tellLine yX3_tellLine) (List.mem_of_getElem? (i := 4) (by decide +kernel)) rfl)⟩
def fX3_tellLine  (T : M2) (S : M2) : Option (Int32 × (M2 × M2)) :=
  jn (α := Option (Int32 × (M2 × M2))) (β := Int32) (fun j1 =>
    if (T 6 0) = (1 : Int32) then
      (fX3_lineNamed  T).bind fun r2 =>
      j1 r2
    else
      j1 (-1 : Int32)) (fun p4 => 
    if p4 = (-1 : Int32) then
      (fX3_refuse (2 : Int32) (T 7 0) T).bind fun q41 =>
      lt (q41.2) fun T42 =>
      zb q41.1 (some (q41.1, (T42, S)))
    else
      jn (α := Option (Int32 × (M2 × M2))) (β := Unit) (fun j6 =>
        jn (α := Option (Int32 × (M2 × M2))) (β := Unit) (fun j5 =>
          if p4 = (6 : Int32) then
            if (T 9 0) = 0 then
              j5 ()
            else
              j6 ()
          else
            j5 ()) (fun _ => 
          jn (α := Option (Int32 × (M2 × M2))) (β := Unit) (fun j10 =>
            if p4 = (7 : Int32) then
              if (T 10 0) = 0 then
                j10 ()
              else
                j6 ()
            else
              j10 ()) (fun _ => 
            jn (α := Option (Int32 × (M2 × M2))) (β := Unit) (fun j15 =>
              jn (α := Option (Int32 × (M2 × M2))) (β := Unit) (fun j14 =>
                if p4 = (4 : Int32) then
                  if (5 : Int32) ≤ (S 0 0) then
                    j15 ()
                  else
                    j14 ()
                else
                  j14 ()) (fun _ => 
                jn (α := Option (Int32 × (M2 × M2))) (β := Unit) (fun j19 =>
                  if (3 : Int32) < p4 then
                    j19 ()
                  else
                    if (S 7 0) < (4 : Int32) then
                      j19 ()
                    else
                      j15 ()) (fun _ => 
                  (fX3_readNumbers p4 T S).bind fun q23 =>
                  lt q23.2.1 fun T24 => lt q23.2.2 fun S25 =>
                  if q23.1 = 0 then
                    some ((0 : Int32), (T24, S25))
                  else
                    (fX3_nextToken  T24).bind fun q26 =>
                    lt (q26) fun T27 =>
                    if (T27 6 0) = (3 : Int32) then
                      (fX3_take p4 T27 S25).bind fun q28 =>
                      lt q28.1 fun T29 => lt q28.2 fun S30 =>
                      some ((1 : Int32), (T29, S30))
                    else
                      (fX3_refuse (2 : Int32) (T27 7 0) T27).bind fun q31 =>
                      lt (q31.2) fun T32 =>
                      zb q31.1 (some (q31.1, (T32, S25)))))) (fun _ => 
              (fX3_refuse (5 : Int32) (T 7 0) T).bind fun q36 =>
              lt (q36.2) fun T37 =>
              zb q36.1 (some (q36.1, (T37, S))))))) (fun _ => 
        (fX3_refuse (4 : Int32) (T 7 0) T).bind fun q39 =>
        lt (q39.2) fun T40 =>
        zb q39.1 (some (q39.1, (T40, S)))))

set_option maxHeartbeats 4000000 in
set_option maxRecDepth 100000 in
theorem tX3_tellLine (l : Launch) {V : JV (M2 × M2)} {b : Nat} {a : Nat → Nat} {b2 : Nat} {a2 : Nat → Nat} (hv1 : v1X3 V b a) (hv2 : v2X1 V b2 a2) (T : M2) (S : M2)  : JC l V yX3_tellLine cX3_tellLine 3 (some .boolean) jj_i 7 [.ref b, .ref b2] (T, S) ((fX3_tellLine  T S).map (fun q => (q.1, q.2))) := by
  refine jj_of (by decide) (Nat.le_of_ble_eq_true rfl) (fun E hlE hE => ?_)
  unfold fX3_tellLine
  refine J_sub (L' := [(0, .ref b), (1, .ref b2)]) [0, 1] rfl ?_
  refine J_aload_n hE dd_X3_tellLine_0 0 rfl rfl ?_
  refine J_get hE (hv1.ob _) jc_X3 6 (by decide) fl_RX3_40 (v := .int (T 6 0)) rfl dd_X3_tellLine_1 ?_
  refine J_iconst hE (v := (1 : Int32)) dd_X3_tellLine_4 (by decide) ?_
  refine J_jn (m := 16) (Lf := fun p4 => [(0, .ref b), (1, .ref b2)]) (sf := fun p4 => [.int p4]) (Xf := fun p4 => (T, S)) (fun p4 => ?_) (fun hj1 => ?_)
  · show J V E _ _ 16 [(0, .ref b), (1, .ref b2)] [.int p4] (T, S)
    refine J_istore_n hE (L' := [(2, .int p4), (0, .ref b), (1, .ref b2)]) dd_X3_tellLine_16 (Nat.le_of_ble_eq_true rfl) rfl rfl ?_
    refine J_iload_n hE dd_X3_tellLine_17 0 rfl rfl ?_
    refine J_iconst hE (v := (-1 : Int32)) dd_X3_tellLine_18 (by decide) ?_
    refine J_icmp_ne hE (tgt := 32) dd_X3_tellLine_19 (by decide) (fun c43 => ?_) (fun c43 => ?_)
    · refine J_iload_n hE dd_X3_tellLine_32 0 rfl rfl ?_
      refine J_bipush hE (v := (6 : Int32)) dd_X3_tellLine_33 (by decide) ?_
      refine J_jn (m := 58) (Lf := fun _ => [(0, .ref b)]) (sf := fun _ => []) (Xf := fun _ => (T, S)) (fun _ => ?_) (fun hj6 => ?_)
      · show J V E _ _ 58 [(0, .ref b)] [] (T, S)
        refine J_aload_n hE dd_X3_tellLine_58 0 rfl rfl ?_
        refine J_iconst hE (v := (4 : Int32)) dd_X3_tellLine_59 (by decide) ?_
        refine J_aload_n hE dd_X3_tellLine_60 0 rfl rfl ?_
        refine J_get hE (hv1.ob _) jc_X3 7 (by decide) fl_RX3_64 (v := .int (T 7 0)) rfl dd_X3_tellLine_61 ?_
        refine J_invVwi hE (e := fun T => (T, S)) (As := [.int (4 : Int32), .int (T 7 0)]) (st := []) (JC.lift_w (e := fun T => (T, S)) (tX3_refuse E.2.1 (v1X3s hv1 S) T (4 : Int32) (T 7 0)) rfl) (hv1.ob _) m_X3_refuse rfl ml_RX3_56 (Nat.le_of_ble_eq_true rfl) (Nat.le_of_ble_eq_true rfl) rfl (Nat.le_of_ble_eq_true rfl) dd_X3_tellLine_64 (fun q39 => ?_)
        refine J_let1 (S := S) (fun T40 => ?_)
        refine J_zb (fun hz => ?_)
        exact J_zret hE hz dd_X3_tellLine_67 rfl rfl
      · refine J_jn (m := 45) (Lf := fun _ => [(0, .ref b), (1, .ref b2), (2, .int p4)]) (sf := fun _ => []) (Xf := fun _ => (T, S)) (fun _ => ?_) (fun hj5 => ?_)
        · show J V E _ _ 45 [(0, .ref b), (1, .ref b2), (2, .int p4)] [] (T, S)
          refine J_iload_n hE dd_X3_tellLine_45 2 rfl rfl ?_
          refine J_bipush hE (v := (7 : Int32)) dd_X3_tellLine_46 (by decide) ?_
          refine J_jn (m := 68) (Lf := fun _ => [(0, .ref b), (1, .ref b2), (2, .int p4)]) (sf := fun _ => []) (Xf := fun _ => (T, S)) (fun _ => ?_) (fun hj10 => ?_)
          · show J V E _ _ 68 [(0, .ref b), (1, .ref b2), (2, .int p4)] [] (T, S)
            refine J_iload_n hE dd_X3_tellLine_68 2 rfl rfl ?_
            refine J_iconst hE (v := (4 : Int32)) dd_X3_tellLine_69 (by decide) ?_
            refine J_jn (m := 94) (Lf := fun _ => [(0, .ref b)]) (sf := fun _ => []) (Xf := fun _ => (T, S)) (fun _ => ?_) (fun hj15 => ?_)
            · show J V E _ _ 94 [(0, .ref b)] [] (T, S)
              refine J_aload_n hE dd_X3_tellLine_94 0 rfl rfl ?_
              refine J_iconst hE (v := (5 : Int32)) dd_X3_tellLine_95 (by decide) ?_
              refine J_aload_n hE dd_X3_tellLine_96 0 rfl rfl ?_
              refine J_get hE (hv1.ob _) jc_X3 7 (by decide) fl_RX3_64 (v := .int (T 7 0)) rfl dd_X3_tellLine_97 ?_
              refine J_invVwi hE (e := fun T => (T, S)) (As := [.int (5 : Int32), .int (T 7 0)]) (st := []) (JC.lift_w (e := fun T => (T, S)) (tX3_refuse E.2.1 (v1X3s hv1 S) T (5 : Int32) (T 7 0)) rfl) (hv1.ob _) m_X3_refuse rfl ml_RX3_56 (Nat.le_of_ble_eq_true rfl) (Nat.le_of_ble_eq_true rfl) rfl (Nat.le_of_ble_eq_true rfl) dd_X3_tellLine_100 (fun q36 => ?_)
              refine J_let1 (S := S) (fun T37 => ?_)
              refine J_zb (fun hz => ?_)
              exact J_zret hE hz dd_X3_tellLine_103 rfl rfl
            · refine J_jn (m := 81) (Lf := fun _ => [(0, .ref b), (1, .ref b2), (2, .int p4)]) (sf := fun _ => []) (Xf := fun _ => (T, S)) (fun _ => ?_) (fun hj14 => ?_)
              · show J V E _ _ 81 [(0, .ref b), (1, .ref b2), (2, .int p4)] [] (T, S)
                refine J_iload_n hE dd_X3_tellLine_81 2 rfl rfl ?_
                refine J_iconst hE (v := (3 : Int32)) dd_X3_tellLine_82 (by decide) ?_
                refine J_jn (m := 104) (Lf := fun _ => [(0, .ref b), (1, .ref b2), (2, .int p4)]) (sf := fun _ => []) (Xf := fun _ => (T, S)) (fun _ => ?_) (fun hj19 => ?_)
                · show J V E _ _ 104 [(0, .ref b), (1, .ref b2), (2, .int p4)] [] (T, S)
                  refine J_aload_n hE dd_X3_tellLine_104 0 rfl rfl ?_
                  refine J_iload_n hE dd_X3_tellLine_105 2 rfl rfl ?_
                  refine J_aload_n hE dd_X3_tellLine_106 1 rfl rfl ?_
                  refine J_invVwi hE (e := fun x => x) (As := [.int p4, .ref b2]) (st := []) (tX3_readNumbers E.2.1 hv1 hv2 T S p4) (hv1.ob _) m_X3_readNumbers rfl ml_RX3_70 (Nat.le_of_ble_eq_true rfl) (Nat.le_of_ble_eq_true rfl) rfl (Nat.le_of_ble_eq_true rfl) dd_X3_tellLine_107 (fun q23 => ?_)
                  refine J_letP (fun T24 S25 => ?_)
                  refine J_if_ne hE (tgt := 115) dd_X3_tellLine_110 (by decide) (fun c34 => ?_) (fun c34 => ?_)
                  · refine J_aload_n hE dd_X3_tellLine_115 0 rfl rfl ?_
                    refine J_invVwv hE (e := fun T => (T, S25)) (As := []) (st := []) (JC.lift_v (e := fun T => (T, S25)) (tX3_nextToken E.2.1 (v1X3s hv1 S25) T24 ) rfl) (hv1.ob _) m_X3_nextToken rfl ml_RX3_37 (Nat.le_of_ble_eq_true rfl) (Nat.le_of_ble_eq_true rfl) rfl (Nat.le_of_ble_eq_true rfl) dd_X3_tellLine_116 (fun q26 => ?_)
                    refine J_let1 (S := S25) (fun T27 => ?_)
                    refine J_aload_n hE dd_X3_tellLine_119 0 rfl rfl ?_
                    refine J_get hE (hv1.ob _) jc_X3 6 (by decide) fl_RX3_40 (v := .int (T27 6 0)) rfl dd_X3_tellLine_120 ?_
                    refine J_iconst hE (v := (3 : Int32)) dd_X3_tellLine_123 (by decide) ?_
                    refine J_icmp_eq hE (tgt := 137) dd_X3_tellLine_124 (by decide) (fun c33 => ?_) (fun c33 => ?_)
                    · refine J_aload_n hE dd_X3_tellLine_137 0 rfl rfl ?_
                      refine J_iload_n hE dd_X3_tellLine_138 2 rfl rfl ?_
                      refine J_aload_n hE dd_X3_tellLine_139 1 rfl rfl ?_
                      refine J_invVwv hE (e := fun x => x) (As := [.int p4, .ref b2]) (st := []) (tX3_take E.2.1 hv1 hv2 T27 S25 p4) (hv1.ob _) m_X3_take rfl ml_RX3_74 (Nat.le_of_ble_eq_true rfl) (Nat.le_of_ble_eq_true rfl) rfl (Nat.le_of_ble_eq_true rfl) dd_X3_tellLine_140 (fun q28 => ?_)
                      refine J_letP (fun T29 S30 => ?_)
                      refine J_iconst hE (v := (1 : Int32)) dd_X3_tellLine_143 (by decide) ?_
                      exact J_zret hE (Or.inr rfl) dd_X3_tellLine_144 rfl rfl
                    · refine J_aload_n hE dd_X3_tellLine_127 0 rfl rfl ?_
                      refine J_iconst hE (v := (2 : Int32)) dd_X3_tellLine_128 (by decide) ?_
                      refine J_aload_n hE dd_X3_tellLine_129 0 rfl rfl ?_
                      refine J_get hE (hv1.ob _) jc_X3 7 (by decide) fl_RX3_64 (v := .int (T27 7 0)) rfl dd_X3_tellLine_130 ?_
                      refine J_invVwi hE (e := fun T => (T, S25)) (As := [.int (2 : Int32), .int (T27 7 0)]) (st := []) (JC.lift_w (e := fun T => (T, S25)) (tX3_refuse E.2.1 (v1X3s hv1 S25) T27 (2 : Int32) (T27 7 0)) rfl) (hv1.ob _) m_X3_refuse rfl ml_RX3_56 (Nat.le_of_ble_eq_true rfl) (Nat.le_of_ble_eq_true rfl) rfl (Nat.le_of_ble_eq_true rfl) dd_X3_tellLine_133 (fun q31 => ?_)
                      refine J_let1 (S := S25) (fun T32 => ?_)
                      refine J_zb (fun hz => ?_)
                      exact J_zret hE hz dd_X3_tellLine_136 rfl rfl
                  · refine J_iconst hE (v := (0 : Int32)) dd_X3_tellLine_113 (by decide) ?_
                    exact J_zret hE (Or.inl rfl) dd_X3_tellLine_114 rfl rfl
                · refine J_icmp_gt hE (tgt := 104) dd_X3_tellLine_83 (by decide) (fun c21 => ?_) (fun c21 => ?_)
                  · refine J_sub [0, 1, 2] rfl ?_
                    exact hj19 ()
                  · refine J_aload_n hE dd_X3_tellLine_86 1 rfl rfl ?_
                    refine J_get hE (hv2.ob _) jc_X1 7 (by decide) fl_RX3_67 (v := .int (S 7 0)) rfl dd_X3_tellLine_87 ?_
                    refine J_iconst hE (v := (4 : Int32)) dd_X3_tellLine_90 (by decide) ?_
                    refine J_icmp_lt hE (tgt := 104) dd_X3_tellLine_91 (by decide) (fun c20 => ?_) (fun c20 => ?_)
                    · refine J_sub [0, 1, 2] rfl ?_
                      exact hj19 ()
                    · refine J_sub [0] rfl ?_
                      exact hj15 ()
              · refine J_icmp_ne hE (tgt := 81) dd_X3_tellLine_70 (by decide) (fun c17 => ?_) (fun c17 => ?_)
                · refine J_sub [0, 1, 2] rfl ?_
                  exact hj14 ()
                · refine J_aload_n hE dd_X3_tellLine_73 1 rfl rfl ?_
                  refine J_get hE (hv2.ob _) jc_X1 0 (by decide) fl_RX3_50 (v := .int (S 0 0)) rfl dd_X3_tellLine_74 ?_
                  refine J_iconst hE (v := (5 : Int32)) dd_X3_tellLine_77 (by decide) ?_
                  refine J_icmp_ge hE (tgt := 94) dd_X3_tellLine_78 (by decide) (fun c16 => ?_) (fun c16 => ?_)
                  · refine J_sub [0] rfl ?_
                    exact hj15 ()
                  · refine J_sub [0, 1, 2] rfl ?_
                    exact hj14 ()
          · refine J_icmp_ne hE (tgt := 68) dd_X3_tellLine_48 (by decide) (fun c12 => ?_) (fun c12 => ?_)
            · refine J_sub [0, 1, 2] rfl ?_
              exact hj10 ()
            · refine J_aload_n hE dd_X3_tellLine_51 0 rfl rfl ?_
              refine J_get hE (hv1.ob _) jc_X3 10 (by decide) fl_RX3_34 (v := .int (T 10 0)) rfl dd_X3_tellLine_52 ?_
              refine J_if_eq hE (tgt := 68) dd_X3_tellLine_55 (by decide) (fun c11 => ?_) (fun c11 => ?_)
              · refine J_sub [0, 1, 2] rfl ?_
                exact hj10 ()
              · refine J_sub [0] rfl ?_
                exact hj6 ()
        · refine J_icmp_ne hE (tgt := 45) dd_X3_tellLine_35 (by decide) (fun c8 => ?_) (fun c8 => ?_)
          · refine J_sub [1, 2, 0] rfl ?_
            exact hj5 ()
          · refine J_aload_n hE dd_X3_tellLine_38 1 rfl rfl ?_
            refine J_get hE (hv1.ob _) jc_X3 9 (by decide) fl_RX3_30 (v := .int (T 9 0)) rfl dd_X3_tellLine_39 ?_
            refine J_if_ne hE (tgt := 58) dd_X3_tellLine_42 (by decide) (fun c7 => ?_) (fun c7 => ?_)
            · refine J_sub [1] rfl ?_
              exact hj6 ()
            · refine J_sub [1, 2, 0] rfl ?_
              exact hj5 ()
    · refine J_aload_n hE dd_X3_tellLine_22 1 rfl rfl ?_
      refine J_iconst hE (v := (2 : Int32)) dd_X3_tellLine_23 (by decide) ?_
      refine J_aload_n hE dd_X3_tellLine_24 1 rfl rfl ?_
      refine J_get hE (hv1.ob _) jc_X3 7 (by decide) fl_RX3_64 (v := .int (T 7 0)) rfl dd_X3_tellLine_25 ?_
      refine J_invVwi hE (e := fun T => (T, S)) (As := [.int (2 : Int32), .int (T 7 0)]) (st := []) (JC.lift_w (e := fun T => (T, S)) (tX3_refuse E.2.1 (v1X3s hv1 S) T (2 : Int32) (T 7 0)) rfl) (hv1.ob _) m_X3_refuse rfl ml_RX3_56 (Nat.le_of_ble_eq_true rfl) (Nat.le_of_ble_eq_true rfl) rfl (Nat.le_of_ble_eq_true rfl) dd_X3_tellLine_28 (fun q41 => ?_)
      refine J_let1 (S := S) (fun T42 => ?_)
      refine J_zb (fun hz => ?_)
      exact J_zret hE hz dd_X3_tellLine_31 rfl rfl
  · refine J_icmp_ne hE (tgt := 15) dd_X3_tellLine_5 (by decide) (fun c3 => ?_) (fun c3 => ?_)
    · refine J_iconst hE (v := (-1 : Int32)) dd_X3_tellLine_15 (by decide) ?_
      refine J_sub [0, 1] rfl ?_
      exact hj1 (-1 : Int32)
    · refine J_aload_n hE dd_X3_tellLine_8 0 rfl rfl ?_
      refine J_invVri hE (As := []) (st := []) (JC.lift_r (e := fun T => (T, S)) (tX3_lineNamed E.2.1 (v1X3s hv1 S) T ) rfl) (hv1.ob _) m_X3_lineNamed rfl ml_RX3_60 (Nat.le_of_ble_eq_true rfl) (Nat.le_of_ble_eq_true rfl) rfl (Nat.le_of_ble_eq_true rfl) dd_X3_tellLine_9 (fun r2 => ?_)
      refine J_goto hE (tgt := 16) dd_X3_tellLine_12 (by decide) ?_
      refine J_sub [0, 1] rfl ?_
      exact hj1 r2
theorem dd_X3_tellInto_0 : jd cX3_tellInto 0 (.aload_n 1) 1 1 := ⟨by decide +kernel, rfl⟩
theorem ml_RX3_18 : (Cond.methodLink "MothCustoms$Tape" 18 yX1_makeEmpty : Cond) ∈ jj_tb := jj_m (List.mem_of_getElem? (i := 312) (by decide +kernel)) rfl
theorem dd_X3_tellInto_1 : jd cX3_tellInto 1 (.invokevirtual 18) 3 4 := ⟨by decide +kernel, rfl⟩
theorem dd_X3_tellInto_4 : jd cX3_tellInto 4 (.aload_n 0) 1 5 := ⟨by decide +kernel, rfl⟩
theorem dd_X3_tellInto_5 : jd cX3_tellInto 5 (.iconst 0) 1 6 := ⟨by decide +kernel, rfl⟩
theorem dd_X3_tellInto_6 : jd cX3_tellInto 6 (.putfield 23) 3 9 := ⟨by decide +kernel, rfl⟩
theorem dd_X3_tellInto_9 : jd cX3_tellInto 9 (.aload_n 0) 1 10 := ⟨by decide +kernel, rfl⟩
theorem dd_X3_tellInto_10 : jd cX3_tellInto 10 (.iconst 0) 1 11 := ⟨by decide +kernel, rfl⟩
theorem dd_X3_tellInto_11 : jd cX3_tellInto 11 (.putfield 27) 3 14 := ⟨by decide +kernel, rfl⟩
theorem dd_X3_tellInto_14 : jd cX3_tellInto 14 (.aload_n 0) 1 15 := ⟨by decide +kernel, rfl⟩
theorem dd_X3_tellInto_15 : jd cX3_tellInto 15 (.iconst 0) 1 16 := ⟨by decide +kernel, rfl⟩
theorem dd_X3_tellInto_16 : jd cX3_tellInto 16 (.putfield 30) 3 19 := ⟨by decide +kernel, rfl⟩
theorem dd_X3_tellInto_19 : jd cX3_tellInto 19 (.aload_n 0) 1 20 := ⟨by decide +kernel, rfl⟩
theorem dd_X3_tellInto_20 : jd cX3_tellInto 20 (.iconst 0) 1 21 := ⟨by decide +kernel, rfl⟩
theorem dd_X3_tellInto_21 : jd cX3_tellInto 21 (.putfield 34) 3 24 := ⟨by decide +kernel, rfl⟩
theorem dd_X3_tellInto_24 : jd cX3_tellInto 24 (.iconst 0) 1 25 := ⟨by decide +kernel, rfl⟩
theorem dd_X3_tellInto_25 : jd cX3_tellInto 25 (.istore_n 2) 1 26 := ⟨by decide +kernel, rfl⟩
theorem dd_X3_tellInto_26 : jd cX3_tellInto 26 (.aload_n 0) 1 27 := ⟨by decide +kernel, rfl⟩
theorem dd_X3_tellInto_27 : jd cX3_tellInto 27 (.invokevirtual 37) 3 30 := ⟨by decide +kernel, rfl⟩
theorem dd_X3_tellInto_30 : jd cX3_tellInto 30 (.iload_n 2) 1 31 := ⟨by decide +kernel, rfl⟩
theorem dd_X3_tellInto_31 : jd cX3_tellInto 31 (.sipush 160) 3 34 := ⟨by decide +kernel, rfl⟩
theorem dd_X3_tellInto_37 : jd cX3_tellInto 37 (.aload_n 0) 1 38 := ⟨by decide +kernel, rfl⟩
theorem dd_X3_tellInto_38 : jd cX3_tellInto 38 (.getfield 40) 3 41 := ⟨by decide +kernel, rfl⟩
theorem dd_X3_tellInto_41 : jd cX3_tellInto 41 (.iconst 4) 1 42 := ⟨by decide +kernel, rfl⟩
theorem dd_X3_tellInto_45 : jd cX3_tellInto 45 (.aload_n 0) 1 46 := ⟨by decide +kernel, rfl⟩
theorem dd_X3_tellInto_46 : jd cX3_tellInto 46 (.aload_n 1) 1 47 := ⟨by decide +kernel, rfl⟩
theorem ml_RX3_43 : (Cond.methodLink "MothCustoms$Tape" 43 yX3_tellLine : Cond) ∈ jj_tb := jj_m (List.mem_of_getElem? (i := 338) (by decide +kernel)) rfl
theorem dd_X3_tellInto_47 : jd cX3_tellInto 47 (.invokevirtual 43) 3 50 := ⟨by decide +kernel, rfl⟩
theorem dd_X3_tellInto_53 : jd cX3_tellInto 53 (.iinc 2 1) 3 56 := ⟨by decide +kernel, rfl⟩
theorem dd_X3_tellInto_56 : jd cX3_tellInto 56 (.aload_n 0) 1 57 := ⟨by decide +kernel, rfl⟩
theorem dd_X3_tellInto_57 : jd cX3_tellInto 57 (.invokevirtual 37) 3 60 := ⟨by decide +kernel, rfl⟩
theorem dd_X3_tellInto_60 : jd cX3_tellInto 60 (.goto (-30)) 3 63 := ⟨by decide +kernel, rfl⟩
theorem dd_X3_tellInto_50 : jd cX3_tellInto 50 (.ifCond .eq 13) 3 53 := ⟨by decide +kernel, rfl⟩
theorem dd_X3_tellInto_42 : jd cX3_tellInto 42 (.if_icmp .eq 21) 3 45 := ⟨by decide +kernel, rfl⟩
theorem dd_X3_tellInto_34 : jd cX3_tellInto 34 (.if_icmp .ge 29) 3 37 := ⟨by decide +kernel, rfl⟩
theorem dd_X3_tellInto_63 : jd cX3_tellInto 63 (.aload_n 1) 1 64 := ⟨by decide +kernel, rfl⟩
theorem dd_X3_tellInto_64 : jd cX3_tellInto 64 (.getfield 47) 3 67 := ⟨by decide +kernel, rfl⟩
theorem dd_X3_tellInto_67 : jd cX3_tellInto 67 (.aload_n 1) 1 68 := ⟨by decide +kernel, rfl⟩
theorem dd_X3_tellInto_68 : jd cX3_tellInto 68 (.getfield 50) 3 71 := ⟨by decide +kernel, rfl⟩
theorem dd_X3_tellInto_71 : jd cX3_tellInto 71 (.ishr) 1 72 := ⟨by decide +kernel, rfl⟩
theorem dd_X3_tellInto_75 : jd cX3_tellInto 75 (.aload_n 0) 1 76 := ⟨by decide +kernel, rfl⟩
theorem dd_X3_tellInto_76 : jd cX3_tellInto 76 (.bipush 6) 2 78 := ⟨by decide +kernel, rfl⟩
theorem dd_X3_tellInto_78 : jd cX3_tellInto 78 (.aload_n 0) 1 79 := ⟨by decide +kernel, rfl⟩
theorem dd_X3_tellInto_79 : jd cX3_tellInto 79 (.getfield 53) 3 82 := ⟨by decide +kernel, rfl⟩
theorem dd_X3_tellInto_82 : jd cX3_tellInto 82 (.invokevirtual 56) 3 85 := ⟨by decide +kernel, rfl⟩
theorem dd_X3_tellInto_85 : jd cX3_tellInto 85 (.pop) 1 86 := ⟨by decide +kernel, rfl⟩
theorem dd_X3_tellInto_72 : jd cX3_tellInto 72 (.ifCond .eq 14) 3 75 := ⟨by decide +kernel, rfl⟩
theorem dd_X3_tellInto_86 : jd cX3_tellInto 86 (.aload_n 0) 1 87 := ⟨by decide +kernel, rfl⟩
theorem dd_X3_tellInto_87 : jd cX3_tellInto 87 (.iconst 0) 1 88 := ⟨by decide +kernel, rfl⟩
theorem dd_X3_tellInto_88 : jd cX3_tellInto 88 (.putfield 53) 3 91 := ⟨by decide +kernel, rfl⟩
theorem dd_X3_tellInto_91 : jd cX3_tellInto 91 (.iload_n 2) 1 92 := ⟨by decide +kernel, rfl⟩
theorem dd_X3_tellInto_92 : jd cX3_tellInto 92 (.ireturn) 1 93 := ⟨by decide +kernel, rfl⟩
theorem m_X3_tellInto : jmV yX3_tellInto cX3_tellInto 3 (some .int) 1 := ⟨⟨(jj_m (w := Cond.code yX3_tellInto cX3_tellInto 3 (some .int)) (List.mem_of_getElem? (i := 311) (by decide +kernel)) rfl), (jj_m (w := Cond.initialized yX3_tellInto.cls) (List.mem_of_getElem? (i := 65) (by decide +kernel)) rfl), ⟨by decide, by decide⟩, by decide +kernel⟩, (jj_m (w := Cond.instanceMethod yX3_tellInto) (List.mem_of_getElem? (i := 309) (by decide +kernel)) rfl), (jj_m (w := Cond.selects yX3_tellInto.cls yX3_tellInto yX3_tellInto) (List.mem_of_getElem? (i := 310) (by decide +kernel)) rfl)⟩
def fX3_tellInto_L30 (T : M2) (S : M2) (k63 : (Int32 × M2 × M2) → Option (Int32 × (M2 × M2))) : Nat → Int32 → M2 → M2 → Option (Int32 × (M2 × M2))
  | 0, _, _, _ => none
  | n_ + 1, v9, T10, S11 =>
    if (160 : Int32) ≤ v9 then
      k63 (v9, T10, S11)
    else
      if (T10 6 0) = (4 : Int32) then
        k63 (v9, T10, S11)
      else
        (fX3_tellLine  T10 S11).bind fun q12 =>
        lt q12.2.1 fun T13 => lt q12.2.2 fun S14 =>
        if q12.1 = 0 then
          k63 (v9, T13, S14)
        else
          lt (v9 + (1 : Int32)) fun x15 =>
          (fX3_nextToken  T13).bind fun q16 =>
          lt (q16) fun T17 =>
          fX3_tellInto_L30 T S k63 n_ x15 T17 S14

def fX3_tellInto  (T : M2) (S : M2) : Option (Int32 × (M2 × M2)) :=
  (fX1_makeEmpty  S).bind fun q1 =>
  lt (q1) fun S2 =>
  lt (va_up T 2 (fun _ => (0 : Int32))) fun T3 =>
  lt (va_up T3 5 (fun _ => (0 : Int32))) fun T4 =>
  lt (va_up T4 9 (fun _ => (0 : Int32))) fun T5 =>
  lt (va_up T5 10 (fun _ => (0 : Int32))) fun T6 =>
  (fX3_nextToken  T6).bind fun q7 =>
  lt (q7) fun T8 =>
  fX3_tellInto_L30 T S
    (fun p21 =>
      jn (α := Option (Int32 × (M2 × M2))) (β := M2) (fun j22 =>
        if ((p21.2.2 4 0) >>> ((p21.2.2 0 0) &&& 31)) = 0 then
          j22 p21.2.1
        else
          (fX3_refuse (6 : Int32) (p21.2.1 1 0) p21.2.1).bind fun q23 =>
          lt (q23.2) fun T24 =>
          j22 T24) (fun p26 => 
        lt (va_up p26 1 (fun _ => (0 : Int32))) fun T27 =>
        some (p21.1, (T27, p21.2.2))))
    400 (0 : Int32) T8 S2

set_option maxHeartbeats 4000000 in
set_option maxRecDepth 100000 in
theorem tX3_tellInto_L30 {V : JV (M2 × M2)} {b : Nat} {a : Nat → Nat} {b2 : Nat} {a2 : Nat → Nat} (hv1 : v1X3 V b a) (hv2 : v2X1 V b2 a2) (T : M2) (S : M2) {E : JE (M2 × M2) Int32} (hE : JOk V E cX3_tellInto yX3_tellInto.cls 3 8 (some .int) jj_i) {k63 : (Int32 × M2 × M2) → Option (Int32 × (M2 × M2))} (hk63 : ∀ p, J V E (fun q => (q.1, q.2)) (k63 p) 63 [(0, .ref b), (1, .ref b2), (2, .int p.1)] [] (p.2.1, p.2.2)) : ∀ (n_ : Nat) (v9 : Int32) (T10 : M2) (S11 : M2), J V E (fun q => (q.1, q.2)) (fX3_tellInto_L30 T S k63 n_ v9 T10 S11) 30 [(0, .ref b), (1, .ref b2), (2, .int v9)] [] (T10, S11) := by
  intro n_
  induction n_ with
  | zero =>
    intros
    exact J_none
  | succ n_ ih =>
    intros v9 T10 S11
    rw [fX3_tellInto_L30]
    refine J_iload_n hE dd_X3_tellInto_30 2 rfl rfl ?_
    refine J_sipush hE (v := (160 : Int32)) dd_X3_tellInto_31 (by decide) ?_
    refine J_icmp_ge hE (tgt := 63) dd_X3_tellInto_34 (by decide) (fun c20 => ?_) (fun c20 => ?_)
    · refine J_sub [0, 1, 2] rfl ?_
      exact hk63 (v9, T10, S11)
    · refine J_aload_n hE dd_X3_tellInto_37 0 rfl rfl ?_
      refine J_get hE (hv1.ob _) jc_X3 6 (by decide) fl_RX3_40 (v := .int (T10 6 0)) rfl dd_X3_tellInto_38 ?_
      refine J_iconst hE (v := (4 : Int32)) dd_X3_tellInto_41 (by decide) ?_
      refine J_icmp_eq hE (tgt := 63) dd_X3_tellInto_42 (by decide) (fun c19 => ?_) (fun c19 => ?_)
      · refine J_sub [0, 1, 2] rfl ?_
        exact hk63 (v9, T10, S11)
      · refine J_aload_n hE dd_X3_tellInto_45 0 rfl rfl ?_
        refine J_aload_n hE dd_X3_tellInto_46 1 rfl rfl ?_
        refine J_invVwi hE (e := fun x => x) (As := [.ref b2]) (st := []) (tX3_tellLine E.2.1 hv1 hv2 T10 S11 ) (hv1.ob _) m_X3_tellLine rfl ml_RX3_43 (Nat.le_of_ble_eq_true rfl) (Nat.le_of_ble_eq_true rfl) rfl (Nat.le_of_ble_eq_true rfl) dd_X3_tellInto_47 (fun q12 => ?_)
        refine J_letP (fun T13 S14 => ?_)
        refine J_if_eq hE (tgt := 63) dd_X3_tellInto_50 (by decide) (fun c18 => ?_) (fun c18 => ?_)
        · refine J_sub [0, 1, 2] rfl ?_
          exact hk63 (v9, T13, S14)
        · refine J_iincL hE (v := (v9 + (1 : Int32))) (Lf := fun x15 => [(2, .int x15), (0, .ref b), (1, .ref b2)]) dd_X3_tellInto_53 (j := 2) rfl (congrArg (v9 + ·) (by decide)) (Nat.le_of_ble_eq_true rfl) (fun _ => rfl) (fun x15 => ?_)
          refine J_aload_n hE dd_X3_tellInto_56 1 rfl rfl ?_
          refine J_invVwv hE (e := fun T => (T, S14)) (As := []) (st := []) (JC.lift_v (e := fun T => (T, S14)) (tX3_nextToken E.2.1 (v1X3s hv1 S14) T13 ) rfl) (hv1.ob _) m_X3_nextToken rfl ml_RX3_37 (Nat.le_of_ble_eq_true rfl) (Nat.le_of_ble_eq_true rfl) rfl (Nat.le_of_ble_eq_true rfl) dd_X3_tellInto_57 (fun q16 => ?_)
          refine J_let1 (S := S14) (fun T17 => ?_)
          refine J_goto hE (tgt := 30) dd_X3_tellInto_60 (by decide) ?_
          refine J_sub [1, 2, 0] rfl ?_
          exact ih x15 T17 S14
set_option maxHeartbeats 4000000 in
set_option maxRecDepth 100000 in
theorem tX3_tellInto (l : Launch) {V : JV (M2 × M2)} {b : Nat} {a : Nat → Nat} {b2 : Nat} {a2 : Nat → Nat} (hv1 : v1X3 V b a) (hv2 : v2X1 V b2 a2) (T : M2) (S : M2)  : JC l V yX3_tellInto cX3_tellInto 3 (some .int) jj_i 8 [.ref b, .ref b2] (T, S) ((fX3_tellInto  T S).map (fun q => (q.1, q.2))) := by
  refine jj_of (by decide) (Nat.le_of_ble_eq_true rfl) (fun E hlE hE => ?_)
  unfold fX3_tellInto
  refine J_sub (L' := [(0, .ref b), (1, .ref b2)]) [0, 1] rfl ?_
  refine J_aload_n hE dd_X3_tellInto_0 1 rfl rfl ?_
  refine J_invVwv hE (e := fun S => (T, S)) (As := []) (st := []) (JC.lift_v (e := fun S => (T, S)) (tX1_makeEmpty E.2.1 (v2X1s hv2 T) S ) rfl) (hv2.ob _) m_X1_makeEmpty rfl ml_RX3_18 (Nat.le_of_ble_eq_true rfl) (Nat.le_of_ble_eq_true rfl) rfl (Nat.le_of_ble_eq_true rfl) dd_X3_tellInto_1 (fun q1 => ?_)
  refine J_let2 (T := T) (fun S2 => ?_)
  refine J_aload_n hE dd_X3_tellInto_4 0 rfl rfl ?_
  refine J_iconst hE (v := (0 : Int32)) dd_X3_tellInto_5 (by decide) ?_
  refine J_put hE hv1 jc_X3 2 (by decide) (by decide) fl_RX3_23 rfl rfl rfl (Nat.le_of_ble_eq_true rfl) dd_X3_tellInto_6 ?_
  refine J_let1 (S := S2) (fun T3 => ?_)
  refine J_aload_n hE dd_X3_tellInto_9 0 rfl rfl ?_
  refine J_iconst hE (v := (0 : Int32)) dd_X3_tellInto_10 (by decide) ?_
  refine J_put hE hv1 jc_X3 5 (by decide) (by decide) fl_RX3_27 rfl rfl rfl (Nat.le_of_ble_eq_true rfl) dd_X3_tellInto_11 ?_
  refine J_let1 (S := S2) (fun T4 => ?_)
  refine J_aload_n hE dd_X3_tellInto_14 0 rfl rfl ?_
  refine J_iconst hE (v := (0 : Int32)) dd_X3_tellInto_15 (by decide) ?_
  refine J_put hE hv1 jc_X3 9 (by decide) (by decide) fl_RX3_30 rfl rfl rfl (Nat.le_of_ble_eq_true rfl) dd_X3_tellInto_16 ?_
  refine J_let1 (S := S2) (fun T5 => ?_)
  refine J_aload_n hE dd_X3_tellInto_19 0 rfl rfl ?_
  refine J_iconst hE (v := (0 : Int32)) dd_X3_tellInto_20 (by decide) ?_
  refine J_put hE hv1 jc_X3 10 (by decide) (by decide) fl_RX3_34 rfl rfl rfl (Nat.le_of_ble_eq_true rfl) dd_X3_tellInto_21 ?_
  refine J_let1 (S := S2) (fun T6 => ?_)
  refine J_iconst hE (v := (0 : Int32)) dd_X3_tellInto_24 (by decide) ?_
  refine J_istore_n hE (L' := [(2, .int (0 : Int32)), (0, .ref b), (1, .ref b2)]) dd_X3_tellInto_25 (Nat.le_of_ble_eq_true rfl) rfl rfl ?_
  refine J_aload_n hE dd_X3_tellInto_26 1 rfl rfl ?_
  refine J_invVwv hE (e := fun T => (T, S2)) (As := []) (st := []) (JC.lift_v (e := fun T => (T, S2)) (tX3_nextToken E.2.1 (v1X3s hv1 S2) T6 ) rfl) (hv1.ob _) m_X3_nextToken rfl ml_RX3_37 (Nat.le_of_ble_eq_true rfl) (Nat.le_of_ble_eq_true rfl) rfl (Nat.le_of_ble_eq_true rfl) dd_X3_tellInto_27 (fun q7 => ?_)
  refine J_let1 (S := S2) (fun T8 => ?_)
  refine J_sub [1, 2, 0] rfl ?_
  refine tX3_tellInto_L30 hv1 hv2 T S hE (fun p21 => ?_) 400 (0 : Int32) T8 S2
  show J V E _ _ 63 [(0, .ref b), (1, .ref b2), (2, .int p21.1)] [] (p21.2.1, p21.2.2)
  refine J_aload_n hE dd_X3_tellInto_63 1 rfl rfl ?_
  refine J_get hE (hv2.ob _) jc_X1 4 (by decide) fl_RX3_47 (v := .int (p21.2.2 4 0)) rfl dd_X3_tellInto_64 ?_
  refine J_aload_n hE dd_X3_tellInto_67 1 rfl rfl ?_
  refine J_get hE (hv2.ob _) jc_X1 0 (by decide) fl_RX3_50 (v := .int (p21.2.2 0 0)) rfl dd_X3_tellInto_68 ?_
  refine J_ishr hE dd_X3_tellInto_71 ?_
  refine J_jn (m := 86) (Lf := fun p26 => [(0, .ref b), (2, .int p21.1)]) (sf := fun p26 => []) (Xf := fun p26 => (p26, p21.2.2)) (fun p26 => ?_) (fun hj22 => ?_)
  · show J V E _ _ 86 [(0, .ref b), (2, .int p21.1)] [] (p26, p21.2.2)
    refine J_aload_n hE dd_X3_tellInto_86 0 rfl rfl ?_
    refine J_iconst hE (v := (0 : Int32)) dd_X3_tellInto_87 (by decide) ?_
    refine J_put hE hv1 jc_X3 1 (by decide) (by decide) fl_RX3_53 rfl rfl rfl (Nat.le_of_ble_eq_true rfl) dd_X3_tellInto_88 ?_
    refine J_let1 (S := p21.2.2) (fun T27 => ?_)
    refine J_iload_n hE dd_X3_tellInto_91 1 rfl rfl ?_
    exact J_iret hE dd_X3_tellInto_92 rfl rfl
  · refine J_if_eq hE (tgt := 86) dd_X3_tellInto_72 (by decide) (fun c25 => ?_) (fun c25 => ?_)
    · refine J_sub [0, 2] rfl ?_
      exact hj22 p21.2.1
    · refine J_aload_n hE dd_X3_tellInto_75 0 rfl rfl ?_
      refine J_bipush hE (v := (6 : Int32)) dd_X3_tellInto_76 (by decide) ?_
      refine J_aload_n hE dd_X3_tellInto_78 0 rfl rfl ?_
      refine J_get hE (hv1.ob _) jc_X3 1 (by decide) fl_RX3_53 (v := .int (p21.2.1 1 0)) rfl dd_X3_tellInto_79 ?_
      refine J_invVwi hE (e := fun T => (T, p21.2.2)) (As := [.int (6 : Int32), .int (p21.2.1 1 0)]) (st := []) (JC.lift_w (e := fun T => (T, p21.2.2)) (tX3_refuse E.2.1 (v1X3s hv1 p21.2.2) p21.2.1 (6 : Int32) (p21.2.1 1 0)) rfl) (hv1.ob _) m_X3_refuse rfl ml_RX3_56 (Nat.le_of_ble_eq_true rfl) (Nat.le_of_ble_eq_true rfl) rfl (Nat.le_of_ble_eq_true rfl) dd_X3_tellInto_82 (fun q23 => ?_)
      refine J_let1 (S := p21.2.2) (fun T24 => ?_)
      refine J_pop hE dd_X3_tellInto_85 rfl ?_
      refine J_sub [0, 2] rfl ?_
      exact hj22 T24
