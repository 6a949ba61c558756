theorem dd_X1_makeEmpty_0 : jd cX1_makeEmpty 0 (.aload_n 0) 1 1 := ⟨by decide +kernel, rfl⟩
theorem dd_X1_makeEmpty_1 : jd cX1_makeEmpty 1 (.iconst 0) 1 2 := ⟨by decide +kernel, rfl⟩
theorem fl_RX1_49 : (Cond.fieldLink "MothCustoms$Shed" 49 "MothCustoms$Shed" "bolts" "I" : Cond) ∈ jj_tb := jj_m (List.mem_of_getElem? (i := 136) (by decide +kernel)) rfl
theorem dd_X1_makeEmpty_2 : jd cX1_makeEmpty 2 (.putfield 49) 3 5 := ⟨by decide +kernel, rfl⟩
theorem dd_X1_makeEmpty_5 : jd cX1_makeEmpty 5 (.aload_n 0) 1 6 := ⟨by decide +kernel, rfl⟩
theorem dd_X1_makeEmpty_6 : jd cX1_makeEmpty 6 (.iconst 0) 1 7 := ⟨by decide +kernel, rfl⟩
theorem fl_RX1_52 : (Cond.fieldLink "MothCustoms$Shed" 52 "MothCustoms$Shed" "camphor" "I" : Cond) ∈ jj_tb := jj_m (List.mem_of_getElem? (i := 146) (by decide +kernel)) rfl
theorem dd_X1_makeEmpty_7 : jd cX1_makeEmpty 7 (.putfield 52) 3 10 := ⟨by decide +kernel, rfl⟩
theorem dd_X1_makeEmpty_10 : jd cX1_makeEmpty 10 (.aload_n 0) 1 11 := ⟨by decide +kernel, rfl⟩
theorem dd_X1_makeEmpty_11 : jd cX1_makeEmpty 11 (.iconst 0) 1 12 := ⟨by decide +kernel, rfl⟩
theorem fl_RX1_55 : (Cond.fieldLink "MothCustoms$Shed" 55 "MothCustoms$Shed" "moths" "I" : Cond) ∈ jj_tb := jj_m (List.mem_of_getElem? (i := 155) (by decide +kernel)) rfl
theorem dd_X1_makeEmpty_12 : jd cX1_makeEmpty 12 (.putfield 55) 3 15 := ⟨by decide +kernel, rfl⟩
theorem dd_X1_makeEmpty_15 : jd cX1_makeEmpty 15 (.aload_n 0) 1 16 := ⟨by decide +kernel, rfl⟩
theorem dd_X1_makeEmpty_16 : jd cX1_makeEmpty 16 (.iconst 0) 1 17 := ⟨by decide +kernel, rfl⟩
theorem fl_RX1_58 : (Cond.fieldLink "MothCustoms$Shed" 58 "MothCustoms$Shed" "moon" "I" : Cond) ∈ jj_tb := jj_m (List.mem_of_getElem? (i := 164) (by decide +kernel)) rfl
theorem dd_X1_makeEmpty_17 : jd cX1_makeEmpty 17 (.putfield 58) 3 20 := ⟨by decide +kernel, rfl⟩
theorem dd_X1_makeEmpty_20 : jd cX1_makeEmpty 20 (.aload_n 0) 1 21 := ⟨by decide +kernel, rfl⟩
theorem dd_X1_makeEmpty_21 : jd cX1_makeEmpty 21 (.iconst 1) 1 22 := ⟨by decide +kernel, rfl⟩
theorem fl_RX1_39 : (Cond.fieldLink "MothCustoms$Shed" 39 "MothCustoms$Shed" "rate" "I" : Cond) ∈ jj_tb := jj_m (List.mem_of_getElem? (i := 167) (by decide +kernel)) rfl
theorem dd_X1_makeEmpty_22 : jd cX1_makeEmpty 22 (.putfield 39) 3 25 := ⟨by decide +kernel, rfl⟩
theorem dd_X1_makeEmpty_25 : jd cX1_makeEmpty 25 (.aload_n 0) 1 26 := ⟨by decide +kernel, rfl⟩
theorem dd_X1_makeEmpty_26 : jd cX1_makeEmpty 26 (.iconst 0) 1 27 := ⟨by decide +kernel, rfl⟩
theorem fl_RX1_61 : (Cond.fieldLink "MothCustoms$Shed" 61 "MothCustoms$Shed" "night" "I" : Cond) ∈ jj_tb := jj_m (List.mem_of_getElem? (i := 170) (by decide +kernel)) rfl
theorem dd_X1_makeEmpty_27 : jd cX1_makeEmpty 27 (.putfield 61) 3 30 := ⟨by decide +kernel, rfl⟩
theorem dd_X1_makeEmpty_30 : jd cX1_makeEmpty 30 (.aload_n 0) 1 31 := ⟨by decide +kernel, rfl⟩
theorem dd_X1_makeEmpty_31 : jd cX1_makeEmpty 31 (.iconst 0) 1 32 := ⟨by decide +kernel, rfl⟩
theorem fl_RX1_64 : (Cond.fieldLink "MothCustoms$Shed" 64 "MothCustoms$Shed" "seen" "I" : Cond) ∈ jj_tb := jj_m (List.mem_of_getElem? (i := 172) (by decide +kernel)) rfl
theorem dd_X1_makeEmpty_32 : jd cX1_makeEmpty 32 (.putfield 64) 3 35 := ⟨by decide +kernel, rfl⟩
theorem dd_X1_makeEmpty_35 : jd cX1_makeEmpty 35 (.iconst 0) 1 36 := ⟨by decide +kernel, rfl⟩
theorem dd_X1_makeEmpty_36 : jd cX1_makeEmpty 36 (.istore_n 1) 1 37 := ⟨by decide +kernel, rfl⟩
theorem dd_X1_makeEmpty_37 : jd cX1_makeEmpty 37 (.iload_n 1) 1 38 := ⟨by decide +kernel, rfl⟩
theorem dd_X1_makeEmpty_38 : jd cX1_makeEmpty 38 (.iconst 3) 1 39 := ⟨by decide +kernel, rfl⟩
theorem dd_X1_makeEmpty_42 : jd cX1_makeEmpty 42 (.aload_n 0) 1 43 := ⟨by decide +kernel, rfl⟩
theorem fl_RX1_24 : (Cond.fieldLink "MothCustoms$Shed" 24 "MothCustoms$Shed" "height" "[I" : Cond) ∈ jj_tb := jj_m (List.mem_of_getElem? (i := 152) (by decide +kernel)) rfl
theorem dd_X1_makeEmpty_43 : jd cX1_makeEmpty 43 (.getfield 24) 3 46 := ⟨by decide +kernel, rfl⟩
theorem dd_X1_makeEmpty_46 : jd cX1_makeEmpty 46 (.iload_n 1) 1 47 := ⟨by decide +kernel, rfl⟩
theorem dd_X1_makeEmpty_47 : jd cX1_makeEmpty 47 (.iconst 0) 1 48 := ⟨by decide +kernel, rfl⟩
theorem dd_X1_makeEmpty_48 : jd cX1_makeEmpty 48 (.iastore) 1 49 := ⟨by decide +kernel, rfl⟩
theorem dd_X1_makeEmpty_49 : jd cX1_makeEmpty 49 (.iinc 1 1) 3 52 := ⟨by decide +kernel, rfl⟩
theorem dd_X1_makeEmpty_52 : jd cX1_makeEmpty 52 (.goto (-15)) 3 55 := ⟨by decide +kernel, rfl⟩
theorem dd_X1_makeEmpty_39 : jd cX1_makeEmpty 39 (.if_icmp .ge 16) 3 42 := ⟨by decide +kernel, rfl⟩
theorem dd_X1_makeEmpty_55 : jd cX1_makeEmpty 55 (.return_) 1 56 := ⟨by decide +kernel, rfl⟩
theorem m_X1_makeEmpty : jmV yX1_makeEmpty cX1_makeEmpty 2 none 0 := ⟨⟨(jj_m (w := Cond.code yX1_makeEmpty cX1_makeEmpty 2 none) (List.mem_of_getElem? (i := 315) (by decide +kernel)) rfl), (jj_m (w := Cond.initialized yX1_makeEmpty.cls) (List.mem_of_getElem? (i := 66) (by decide +kernel)) rfl), ⟨by decide, by decide⟩, by decide +kernel⟩, (jj_m (w := Cond.instanceMethod yX1_makeEmpty) (List.mem_of_getElem? (i := 313) (by decide +kernel)) rfl), (jj_m (w := Cond.selects yX1_makeEmpty.cls yX1_makeEmpty yX1_makeEmpty) (List.mem_of_getElem? (i := 314) (by decide +kernel)) rfl)⟩
def fX1_makeEmpty_L37  (k55 : M2 → Option (M2)) : Nat → Int32 → M2 → Option (M2)
  | 0, _, _ => none
  | n_ + 1, v8, S9 =>
    if (3 : Int32) ≤ v8 then
      k55 S9
    else
      bnd v8 3 <|
      lt (va_up S9 6 (upd (S9 6) v8.toNatClampNeg (0 : Int32))) fun S10 =>
      lt (v8 + (1 : Int32)) fun x11 =>
      fX1_makeEmpty_L37 k55 n_ x11 S10

def fX1_makeEmpty  (S : M2) : Option (M2) :=
  lt (va_up S 0 (fun _ => (0 : Int32))) fun S1 =>
  lt (va_up S1 4 (fun _ => (0 : Int32))) fun S2 =>
  lt (va_up S2 7 (fun _ => (0 : Int32))) fun S3 =>
  lt (va_up S3 12 (fun _ => (0 : Int32))) fun S4 =>
  lt (va_up S4 13 (fun _ => (1 : Int32))) fun S5 =>
  lt (va_up S5 14 (fun _ => (0 : Int32))) fun S6 =>
  lt (va_up S6 15 (fun _ => (0 : Int32))) fun S7 =>
  fX1_makeEmpty_L37 
    (fun p13 =>
      some p13)
    400 (0 : Int32) S7

set_option maxHeartbeats 4000000 in
set_option maxRecDepth 100000 in
theorem tX1_makeEmpty_L37 {V : JV M2} {b : Nat} {a : Nat → Nat} (hv : vX1 V b a)  {E : JE (M2) Unit} (hE : JOk V E cX1_makeEmpty yX1_makeEmpty.cls 2 0 none jj_v) {k55 : M2 → Option (M2)} (hk55 : ∀ p, J V E (fun q => ((), q)) (k55 p) 55 [] [] p) : ∀ (n_ : Nat) (v8 : Int32) (S9 : M2), J V E (fun q => ((), q)) (fX1_makeEmpty_L37 k55 n_ v8 S9) 37 [(0, .ref b), (1, .int v8)] [] S9 := by
  intro n_
  induction n_ with
  | zero =>
    intros
    exact J_none
  | succ n_ ih =>
    intros v8 S9
    rw [fX1_makeEmpty_L37]
    refine J_iload_n hE dd_X1_makeEmpty_37 1 rfl rfl ?_
    refine J_iconst hE (v := (3 : Int32)) dd_X1_makeEmpty_38 (by decide) ?_
    refine J_icmp_ge hE (tgt := 55) dd_X1_makeEmpty_39 (by decide) (fun c12 => ?_) (fun c12 => ?_)
    · refine J_sub [] rfl ?_
      exact hk55 S9
    · refine J_aload_n hE dd_X1_makeEmpty_42 0 rfl rfl ?_
      refine J_get hE (hv.ob _) jc_X1 6 (by decide) fl_RX1_24 (v := .ref (a 6)) rfl dd_X1_makeEmpty_43 ?_
      refine J_iload_n hE dd_X1_makeEmpty_46 1 rfl rfl ?_
      refine J_iconst hE (v := (0 : Int32)) dd_X1_makeEmpty_47 (by decide) ?_
      refine J_ast hE hv 6 (N := 3) (by decide) dd_X1_makeEmpty_48 ?_
      refine J_letS (fun S10 => ?_)
      refine J_iincL hE (v := (v8 + (1 : Int32))) (Lf := fun x11 => [(1, .int x11), (0, .ref b)]) dd_X1_makeEmpty_49 (j := 1) rfl (congrArg (v8 + ·) (by decide)) (Nat.le_of_ble_eq_true rfl) (fun _ => rfl) (fun x11 => ?_)
      refine J_goto hE (tgt := 37) dd_X1_makeEmpty_52 (by decide) ?_
      refine J_sub [1, 0] rfl ?_
      exact ih x11 S10
set_option maxHeartbeats 4000000 in
set_option maxRecDepth 100000 in
theorem tX1_makeEmpty (l : Launch) {V : JV M2} {b : Nat} {a : Nat → Nat} (hv : vX1 V b a) (S : M2)  : JC l V yX1_makeEmpty cX1_makeEmpty 2 none jj_v 0 [.ref b] S ((fX1_makeEmpty  S).map (fun q => ((), q))) := by
  refine jj_of (by decide) (Nat.le_of_ble_eq_true rfl) (fun E hlE hE => ?_)
  unfold fX1_makeEmpty
  refine J_sub (L' := [(0, .ref b)]) [0] rfl ?_
  refine J_aload_n hE dd_X1_makeEmpty_0 0 rfl rfl ?_
  refine J_iconst hE (v := (0 : Int32)) dd_X1_makeEmpty_1 (by decide) ?_
  refine J_put hE hv jc_X1 0 (by decide) (by decide) fl_RX1_49 rfl rfl rfl (Nat.le_of_ble_eq_true rfl) dd_X1_makeEmpty_2 ?_
  refine J_letS (fun S1 => ?_)
  refine J_aload_n hE dd_X1_makeEmpty_5 0 rfl rfl ?_
  refine J_iconst hE (v := (0 : Int32)) dd_X1_makeEmpty_6 (by decide) ?_
  refine J_put hE hv jc_X1 4 (by decide) (by decide) fl_RX1_52 rfl rfl rfl (Nat.le_of_ble_eq_true rfl) dd_X1_makeEmpty_7 ?_
  refine J_letS (fun S2 => ?_)
  refine J_aload_n hE dd_X1_makeEmpty_10 0 rfl rfl ?_
  refine J_iconst hE (v := (0 : Int32)) dd_X1_makeEmpty_11 (by decide) ?_
  refine J_put hE hv jc_X1 7 (by decide) (by decide) fl_RX1_55 rfl rfl rfl (Nat.le_of_ble_eq_true rfl) dd_X1_makeEmpty_12 ?_
  refine J_letS (fun S3 => ?_)
  refine J_aload_n hE dd_X1_makeEmpty_15 0 rfl rfl ?_
  refine J_iconst hE (v := (0 : Int32)) dd_X1_makeEmpty_16 (by decide) ?_
  refine J_put hE hv jc_X1 12 (by decide) (by decide) fl_RX1_58 rfl rfl rfl (Nat.le_of_ble_eq_true rfl) dd_X1_makeEmpty_17 ?_
  refine J_letS (fun S4 => ?_)
  refine J_aload_n hE dd_X1_makeEmpty_20 0 rfl rfl ?_
  refine J_iconst hE (v := (1 : Int32)) dd_X1_makeEmpty_21 (by decide) ?_
  refine J_put hE hv jc_X1 13 (by decide) (by decide) fl_RX1_39 rfl rfl rfl (Nat.le_of_ble_eq_true rfl) dd_X1_makeEmpty_22 ?_
  refine J_letS (fun S5 => ?_)
  refine J_aload_n hE dd_X1_makeEmpty_25 0 rfl rfl ?_
  refine J_iconst hE (v := (0 : Int32)) dd_X1_makeEmpty_26 (by decide) ?_
  refine J_put hE hv jc_X1 14 (by decide) (by decide) fl_RX1_61 rfl rfl rfl (Nat.le_of_ble_eq_true rfl) dd_X1_makeEmpty_27 ?_
  refine J_letS (fun S6 => ?_)
  refine J_aload_n hE dd_X1_makeEmpty_30 0 rfl rfl ?_
  refine J_iconst hE (v := (0 : Int32)) dd_X1_makeEmpty_31 (by decide) ?_
  refine J_put hE hv jc_X1 15 (by decide) (by decide) fl_RX1_64 rfl rfl rfl (Nat.le_of_ble_eq_true rfl) dd_X1_makeEmpty_32 ?_
  refine J_letS (fun S7 => ?_)
  refine J_iconst hE (v := (0 : Int32)) dd_X1_makeEmpty_35 (by decide) ?_
  refine J_istore_n hE (L' := [(1, .int (0 : Int32)), (0, .ref b)]) dd_X1_makeEmpty_36 (Nat.le_of_ble_eq_true rfl) rfl rfl ?_
  refine J_sub [1, 0] rfl ?_
  refine tX1_makeEmpty_L37 hv  hE (fun p13 => ?_) 400 (0 : Int32) S7
  show J V E _ _ 55 [] [] p13
  exact J_vret hE dd_X1_makeEmpty_55 rfl rfl
theorem dd_X1_copyHolesFrom_0 : jd cX1_copyHolesFrom 0 (.aload_n 1) 1 1 := ⟨by decide +kernel, rfl⟩
theorem fl_RX1_18 : (Cond.fieldLink "MothCustoms$Shed" 18 "MothCustoms$Shed" "holes" "[I" : Cond) ∈ jj_tb := jj_m (List.mem_of_getElem? (i := 144) (by decide +kernel)) rfl
theorem dd_X1_copyHolesFrom_1 : jd cX1_copyHolesFrom 1 (.getfield 18) 3 4 := ⟨by decide +kernel, rfl⟩
theorem dd_X1_copyHolesFrom_4 : jd cX1_copyHolesFrom 4 (.iconst 0) 1 5 := ⟨by decide +kernel, rfl⟩
theorem dd_X1_copyHolesFrom_5 : jd cX1_copyHolesFrom 5 (.aload_n 0) 1 6 := ⟨by decide +kernel, rfl⟩
theorem dd_X1_copyHolesFrom_6 : jd cX1_copyHolesFrom 6 (.getfield 18) 3 9 := ⟨by decide +kernel, rfl⟩
theorem dd_X1_copyHolesFrom_9 : jd cX1_copyHolesFrom 9 (.iconst 0) 1 10 := ⟨by decide +kernel, rfl⟩
theorem dd_X1_copyHolesFrom_10 : jd cX1_copyHolesFrom 10 (.iconst 5) 1 11 := ⟨by decide +kernel, rfl⟩
theorem ml_RX1_67 : (Cond.methodLink "MothCustoms$Shed" 67 arraycopyName : Cond) ∈ jj_tb := jj_m (List.mem_of_getElem? (i := 441) (by decide +kernel)) rfl
theorem dd_X1_copyHolesFrom_11 : jd cX1_copyHolesFrom 11 (.invokestatic 67) 3 14 := ⟨by decide +kernel, rfl⟩
theorem dd_X1_copyHolesFrom_14 : jd cX1_copyHolesFrom 14 (.return_) 1 15 := ⟨by decide +kernel, rfl⟩
theorem m_X1_copyHolesFrom : jmV yX1_copyHolesFrom cX1_copyHolesFrom 2 none 1 := ⟨⟨(jj_m (w := Cond.code yX1_copyHolesFrom cX1_copyHolesFrom 2 none) (List.mem_of_getElem? (i := 447) (by decide +kernel)) rfl), (jj_m (w := Cond.initialized yX1_copyHolesFrom.cls) (List.mem_of_getElem? (i := 66) (by decide +kernel)) rfl), ⟨by decide, by decide⟩, by decide +kernel⟩, (jj_m (w := Cond.instanceMethod yX1_copyHolesFrom) (List.mem_of_getElem? (i := 445) (by decide +kernel)) rfl), (jj_m (w := Cond.selects yX1_copyHolesFrom.cls yX1_copyHolesFrom yX1_copyHolesFrom) (List.mem_of_getElem? (i := 446) (by decide +kernel)) rfl)⟩
def fX1_copyHolesFrom  (S : M2) (N : M2) : Option (M2) :=
  lt (va_up S 3 (va_cpy (N 3) (S 3) 0 0 5)) fun S1 =>
  some S1

set_option maxHeartbeats 4000000 in
set_option maxRecDepth 100000 in
theorem tX1_copyHolesFrom (l : Launch) {V : JV M2} {b : Nat} {a : Nat → Nat} (hv : vX1 V b a) {b2 : Nat} {a2 : Nat → Nat} {N : M2} (hr : rX1 V b2 a2 N) (S : M2)  : JC l V yX1_copyHolesFrom cX1_copyHolesFrom 2 none jj_v 1 [.ref b, .ref b2] S ((fX1_copyHolesFrom  S N).map (fun q => ((), q))) := by
  refine jj_of (by decide) (Nat.le_of_ble_eq_true rfl) (fun E hlE hE => ?_)
  unfold fX1_copyHolesFrom
  refine J_sub (L' := [(0, .ref b), (1, .ref b2)]) [0, 1] rfl ?_
  refine J_aload_n hE dd_X1_copyHolesFrom_0 1 rfl rfl ?_
  refine J_get hE (hr.ob _) jc_X1 3 (by decide) fl_RX1_18 (v := .ref (a2 3)) rfl dd_X1_copyHolesFrom_1 ?_
  refine J_iconst hE (v := (0 : Int32)) dd_X1_copyHolesFrom_4 (by decide) ?_
  refine J_aload_n hE dd_X1_copyHolesFrom_5 0 rfl rfl ?_
  refine J_get hE (hv.ob _) jc_X1 3 (by decide) fl_RX1_18 (v := .ref (a 3)) rfl dd_X1_copyHolesFrom_6 ?_
  refine J_iconst hE (v := (0 : Int32)) dd_X1_copyHolesFrom_9 (by decide) ?_
  refine J_iconst hE (v := (5 : Int32)) dd_X1_copyHolesFrom_10 (by decide) ?_
  refine J_copy hE hv 3 (N := 5) (by decide) (hr.arr 3 (n := 5) (ty := .int) (by decide) _) (by decide) (by decide) ml_RX1_67 (Nat.le_of_ble_eq_true rfl) (Nat.le_of_ble_eq_true rfl) dd_X1_copyHolesFrom_11 ?_
  refine J_letS (fun S1 => ?_)
  exact J_vret hE dd_X1_copyHolesFrom_14 rfl rfl
theorem dd_X1_copyLyingFrom_0 : jd cX1_copyLyingFrom 0 (.aload_n 1) 1 1 := ⟨by decide +kernel, rfl⟩
theorem fl_RX1_21 : (Cond.fieldLink "MothCustoms$Shed" 21 "MothCustoms$Shed" "lying" "[I" : Cond) ∈ jj_tb := jj_m (List.mem_of_getElem? (i := 149) (by decide +kernel)) rfl
theorem dd_X1_copyLyingFrom_1 : jd cX1_copyLyingFrom 1 (.getfield 21) 3 4 := ⟨by decide +kernel, rfl⟩
theorem dd_X1_copyLyingFrom_4 : jd cX1_copyLyingFrom 4 (.iconst 0) 1 5 := ⟨by decide +kernel, rfl⟩
theorem dd_X1_copyLyingFrom_5 : jd cX1_copyLyingFrom 5 (.aload_n 0) 1 6 := ⟨by decide +kernel, rfl⟩
theorem dd_X1_copyLyingFrom_6 : jd cX1_copyLyingFrom 6 (.getfield 21) 3 9 := ⟨by decide +kernel, rfl⟩
theorem dd_X1_copyLyingFrom_9 : jd cX1_copyLyingFrom 9 (.iconst 0) 1 10 := ⟨by decide +kernel, rfl⟩
theorem dd_X1_copyLyingFrom_10 : jd cX1_copyLyingFrom 10 (.bipush 15) 2 12 := ⟨by decide +kernel, rfl⟩
theorem dd_X1_copyLyingFrom_12 : jd cX1_copyLyingFrom 12 (.invokestatic 67) 3 15 := ⟨by decide +kernel, rfl⟩
theorem dd_X1_copyLyingFrom_15 : jd cX1_copyLyingFrom 15 (.aload_n 1) 1 16 := ⟨by decide +kernel, rfl⟩
theorem dd_X1_copyLyingFrom_16 : jd cX1_copyLyingFrom 16 (.getfield 24) 3 19 := ⟨by decide +kernel, rfl⟩
theorem dd_X1_copyLyingFrom_19 : jd cX1_copyLyingFrom 19 (.iconst 0) 1 20 := ⟨by decide +kernel, rfl⟩
theorem dd_X1_copyLyingFrom_20 : jd cX1_copyLyingFrom 20 (.aload_n 0) 1 21 := ⟨by decide +kernel, rfl⟩
theorem dd_X1_copyLyingFrom_21 : jd cX1_copyLyingFrom 21 (.getfield 24) 3 24 := ⟨by decide +kernel, rfl⟩
theorem dd_X1_copyLyingFrom_24 : jd cX1_copyLyingFrom 24 (.iconst 0) 1 25 := ⟨by decide +kernel, rfl⟩
theorem dd_X1_copyLyingFrom_25 : jd cX1_copyLyingFrom 25 (.iconst 3) 1 26 := ⟨by decide +kernel, rfl⟩
theorem dd_X1_copyLyingFrom_26 : jd cX1_copyLyingFrom 26 (.invokestatic 67) 3 29 := ⟨by decide +kernel, rfl⟩
theorem dd_X1_copyLyingFrom_29 : jd cX1_copyLyingFrom 29 (.return_) 1 30 := ⟨by decide +kernel, rfl⟩
theorem m_X1_copyLyingFrom : jmV yX1_copyLyingFrom cX1_copyLyingFrom 2 none 1 := ⟨⟨(jj_m (w := Cond.code yX1_copyLyingFrom cX1_copyLyingFrom 2 none) (List.mem_of_getElem? (i := 451) (by decide +kernel)) rfl), (jj_m (w := Cond.initialized yX1_copyLyingFrom.cls) (List.mem_of_getElem? (i := 66) (by decide +kernel)) rfl), ⟨by decide, by decide⟩, by decide +kernel⟩, (jj_m (w := Cond.instanceMethod yX1_copyLyingFrom) (List.mem_of_getElem? (i := 449) (by decide +kernel)) rfl), (jj_m (w := Cond.selects yX1_copyLyingFrom.cls yX1_copyLyingFrom yX1_copyLyingFrom) (List.mem_of_getElem? (i := 450) (by decide +kernel)) rfl)⟩
def fX1_copyLyingFrom  (S : M2) (N : M2) : Option (M2) :=
  lt (va_up S 5 (va_cpy (N 5) (S 5) 0 0 15)) fun S1 =>
  lt (va_up S1 6 (va_cpy (N 6) (S1 6) 0 0 3)) fun S2 =>
  some S2

set_option maxHeartbeats 4000000 in
set_option maxRecDepth 100000 in
theorem tX1_copyLyingFrom (l : Launch) {V : JV M2} {b : Nat} {a : Nat → Nat} (hv : vX1 V b a) {b2 : Nat} {a2 : Nat → Nat} {N : M2} (hr : rX1 V b2 a2 N) (S : M2)  : JC l V yX1_copyLyingFrom cX1_copyLyingFrom 2 none jj_v 1 [.ref b, .ref b2] S ((fX1_copyLyingFrom  S N).map (fun q => ((), q))) := by
  refine jj_of (by decide) (Nat.le_of_ble_eq_true rfl) (fun E hlE hE => ?_)
  unfold fX1_copyLyingFrom
  refine J_sub (L' := [(0, .ref b), (1, .ref b2)]) [0, 1] rfl ?_
  refine J_aload_n hE dd_X1_copyLyingFrom_0 1 rfl rfl ?_
  refine J_get hE (hr.ob _) jc_X1 5 (by decide) fl_RX1_21 (v := .ref (a2 5)) rfl dd_X1_copyLyingFrom_1 ?_
  refine J_iconst hE (v := (0 : Int32)) dd_X1_copyLyingFrom_4 (by decide) ?_
  refine J_aload_n hE dd_X1_copyLyingFrom_5 0 rfl rfl ?_
  refine J_get hE (hv.ob _) jc_X1 5 (by decide) fl_RX1_21 (v := .ref (a 5)) rfl dd_X1_copyLyingFrom_6 ?_
  refine J_iconst hE (v := (0 : Int32)) dd_X1_copyLyingFrom_9 (by decide) ?_
  refine J_bipush hE (v := (15 : Int32)) dd_X1_copyLyingFrom_10 (by decide) ?_
  refine J_copy hE hv 5 (N := 15) (by decide) (hr.arr 5 (n := 15) (ty := .int) (by decide) _) (by decide) (by decide) ml_RX1_67 (Nat.le_of_ble_eq_true rfl) (Nat.le_of_ble_eq_true rfl) dd_X1_copyLyingFrom_12 ?_
  refine J_letS (fun S1 => ?_)
  refine J_aload_n hE dd_X1_copyLyingFrom_15 1 rfl rfl ?_
  refine J_get hE (hr.ob _) jc_X1 6 (by decide) fl_RX1_24 (v := .ref (a2 6)) rfl dd_X1_copyLyingFrom_16 ?_
  refine J_iconst hE (v := (0 : Int32)) dd_X1_copyLyingFrom_19 (by decide) ?_
  refine J_aload_n hE dd_X1_copyLyingFrom_20 0 rfl rfl ?_
  refine J_get hE (hv.ob _) jc_X1 6 (by decide) fl_RX1_24 (v := .ref (a 6)) rfl dd_X1_copyLyingFrom_21 ?_
  refine J_iconst hE (v := (0 : Int32)) dd_X1_copyLyingFrom_24 (by decide) ?_
  refine J_iconst hE (v := (3 : Int32)) dd_X1_copyLyingFrom_25 (by decide) ?_
  refine J_copy hE hv 6 (N := 3) (by decide) (hr.arr 6 (n := 3) (ty := .int) (by decide) _) (by decide) (by decide) ml_RX1_67 (Nat.le_of_ble_eq_true rfl) (Nat.le_of_ble_eq_true rfl) dd_X1_copyLyingFrom_26 ?_
  refine J_letS (fun S2 => ?_)
  exact J_vret hE dd_X1_copyLyingFrom_29 rfl rfl
theorem dd_X1_copyFrom_0 : jd cX1_copyFrom 0 (.aload_n 0) 1 1 := ⟨by decide +kernel, rfl⟩
theorem dd_X1_copyFrom_1 : jd cX1_copyFrom 1 (.aload_n 1) 1 2 := ⟨by decide +kernel, rfl⟩
theorem dd_X1_copyFrom_2 : jd cX1_copyFrom 2 (.getfield 49) 3 5 := ⟨by decide +kernel, rfl⟩
theorem dd_X1_copyFrom_5 : jd cX1_copyFrom 5 (.putfield 49) 3 8 := ⟨by decide +kernel, rfl⟩
theorem dd_X1_copyFrom_8 : jd cX1_copyFrom 8 (.aload_n 1) 1 9 := ⟨by decide +kernel, rfl⟩
theorem fl_RX1_9 : (Cond.fieldLink "MothCustoms$Shed" 9 "MothCustoms$Shed" "dye" "[I" : Cond) ∈ jj_tb := jj_m (List.mem_of_getElem? (i := 140) (by decide +kernel)) rfl
theorem dd_X1_copyFrom_9 : jd cX1_copyFrom 9 (.getfield 9) 3 12 := ⟨by decide +kernel, rfl⟩
theorem dd_X1_copyFrom_12 : jd cX1_copyFrom 12 (.iconst 0) 1 13 := ⟨by decide +kernel, rfl⟩
theorem dd_X1_copyFrom_13 : jd cX1_copyFrom 13 (.aload_n 0) 1 14 := ⟨by decide +kernel, rfl⟩
theorem dd_X1_copyFrom_14 : jd cX1_copyFrom 14 (.getfield 9) 3 17 := ⟨by decide +kernel, rfl⟩
theorem dd_X1_copyFrom_17 : jd cX1_copyFrom 17 (.iconst 0) 1 18 := ⟨by decide +kernel, rfl⟩
theorem dd_X1_copyFrom_18 : jd cX1_copyFrom 18 (.iconst 5) 1 19 := ⟨by decide +kernel, rfl⟩
theorem dd_X1_copyFrom_19 : jd cX1_copyFrom 19 (.invokestatic 67) 3 22 := ⟨by decide +kernel, rfl⟩
theorem dd_X1_copyFrom_22 : jd cX1_copyFrom 22 (.aload_n 1) 1 23 := ⟨by decide +kernel, rfl⟩
theorem fl_RX1_15 : (Cond.fieldLink "MothCustoms$Shed" 15 "MothCustoms$Shed" "wool" "[I" : Cond) ∈ jj_tb := jj_m (List.mem_of_getElem? (i := 142) (by decide +kernel)) rfl
theorem dd_X1_copyFrom_23 : jd cX1_copyFrom 23 (.getfield 15) 3 26 := ⟨by decide +kernel, rfl⟩
theorem dd_X1_copyFrom_26 : jd cX1_copyFrom 26 (.iconst 0) 1 27 := ⟨by decide +kernel, rfl⟩
theorem dd_X1_copyFrom_27 : jd cX1_copyFrom 27 (.aload_n 0) 1 28 := ⟨by decide +kernel, rfl⟩
theorem dd_X1_copyFrom_28 : jd cX1_copyFrom 28 (.getfield 15) 3 31 := ⟨by decide +kernel, rfl⟩
theorem dd_X1_copyFrom_31 : jd cX1_copyFrom 31 (.iconst 0) 1 32 := ⟨by decide +kernel, rfl⟩
theorem dd_X1_copyFrom_32 : jd cX1_copyFrom 32 (.iconst 5) 1 33 := ⟨by decide +kernel, rfl⟩
theorem dd_X1_copyFrom_33 : jd cX1_copyFrom 33 (.invokestatic 67) 3 36 := ⟨by decide +kernel, rfl⟩
theorem dd_X1_copyFrom_36 : jd cX1_copyFrom 36 (.aload_n 0) 1 37 := ⟨by decide +kernel, rfl⟩
theorem dd_X1_copyFrom_37 : jd cX1_copyFrom 37 (.aload_n 1) 1 38 := ⟨by decide +kernel, rfl⟩
theorem ml_RX1_73 : (Cond.methodLink "MothCustoms$Shed" 73 yX1_copyHolesFrom : Cond) ∈ jj_tb := jj_m (List.mem_of_getElem? (i := 444) (by decide +kernel)) rfl
theorem dd_X1_copyFrom_38 : jd cX1_copyFrom 38 (.invokevirtual 73) 3 41 := ⟨by decide +kernel, rfl⟩
theorem dd_X1_copyFrom_41 : jd cX1_copyFrom 41 (.aload_n 0) 1 42 := ⟨by decide +kernel, rfl⟩
theorem dd_X1_copyFrom_42 : jd cX1_copyFrom 42 (.aload_n 1) 1 43 := ⟨by decide +kernel, rfl⟩
theorem dd_X1_copyFrom_43 : jd cX1_copyFrom 43 (.getfield 52) 3 46 := ⟨by decide +kernel, rfl⟩
theorem dd_X1_copyFrom_46 : jd cX1_copyFrom 46 (.putfield 52) 3 49 := ⟨by decide +kernel, rfl⟩
theorem dd_X1_copyFrom_49 : jd cX1_copyFrom 49 (.aload_n 0) 1 50 := ⟨by decide +kernel, rfl⟩
theorem dd_X1_copyFrom_50 : jd cX1_copyFrom 50 (.aload_n 1) 1 51 := ⟨by decide +kernel, rfl⟩
theorem ml_RX1_77 : (Cond.methodLink "MothCustoms$Shed" 77 yX1_copyLyingFrom : Cond) ∈ jj_tb := jj_m (List.mem_of_getElem? (i := 448) (by decide +kernel)) rfl
theorem dd_X1_copyFrom_51 : jd cX1_copyFrom 51 (.invokevirtual 77) 3 54 := ⟨by decide +kernel, rfl⟩
theorem dd_X1_copyFrom_54 : jd cX1_copyFrom 54 (.aload_n 0) 1 55 := ⟨by decide +kernel, rfl⟩
theorem dd_X1_copyFrom_55 : jd cX1_copyFrom 55 (.aload_n 1) 1 56 := ⟨by decide +kernel, rfl⟩
theorem dd_X1_copyFrom_56 : jd cX1_copyFrom 56 (.getfield 55) 3 59 := ⟨by decide +kernel, rfl⟩
theorem dd_X1_copyFrom_59 : jd cX1_copyFrom 59 (.putfield 55) 3 62 := ⟨by decide +kernel, rfl⟩
theorem dd_X1_copyFrom_62 : jd cX1_copyFrom 62 (.aload_n 1) 1 63 := ⟨by decide +kernel, rfl⟩
theorem fl_RX1_27 : (Cond.fieldLink "MothCustoms$Shed" 27 "MothCustoms$Shed" "kind" "[I" : Cond) ∈ jj_tb := jj_m (List.mem_of_getElem? (i := 158) (by decide +kernel)) rfl
theorem dd_X1_copyFrom_63 : jd cX1_copyFrom 63 (.getfield 27) 3 66 := ⟨by decide +kernel, rfl⟩
theorem dd_X1_copyFrom_66 : jd cX1_copyFrom 66 (.iconst 0) 1 67 := ⟨by decide +kernel, rfl⟩
theorem dd_X1_copyFrom_67 : jd cX1_copyFrom 67 (.aload_n 0) 1 68 := ⟨by decide +kernel, rfl⟩
theorem dd_X1_copyFrom_68 : jd cX1_copyFrom 68 (.getfield 27) 3 71 := ⟨by decide +kernel, rfl⟩
theorem dd_X1_copyFrom_71 : jd cX1_copyFrom 71 (.iconst 0) 1 72 := ⟨by decide +kernel, rfl⟩
theorem dd_X1_copyFrom_72 : jd cX1_copyFrom 72 (.iconst 4) 1 73 := ⟨by decide +kernel, rfl⟩
theorem dd_X1_copyFrom_73 : jd cX1_copyFrom 73 (.invokestatic 67) 3 76 := ⟨by decide +kernel, rfl⟩
theorem dd_X1_copyFrom_76 : jd cX1_copyFrom 76 (.aload_n 1) 1 77 := ⟨by decide +kernel, rfl⟩
theorem fl_RX1_30 : (Cond.fieldLink "MothCustoms$Shed" 30 "MothCustoms$Shed" "taste" "[I" : Cond) ∈ jj_tb := jj_m (List.mem_of_getElem? (i := 159) (by decide +kernel)) rfl
theorem dd_X1_copyFrom_77 : jd cX1_copyFrom 77 (.getfield 30) 3 80 := ⟨by decide +kernel, rfl⟩
theorem dd_X1_copyFrom_80 : jd cX1_copyFrom 80 (.iconst 0) 1 81 := ⟨by decide +kernel, rfl⟩
theorem dd_X1_copyFrom_81 : jd cX1_copyFrom 81 (.aload_n 0) 1 82 := ⟨by decide +kernel, rfl⟩
theorem dd_X1_copyFrom_82 : jd cX1_copyFrom 82 (.getfield 30) 3 85 := ⟨by decide +kernel, rfl⟩
theorem dd_X1_copyFrom_85 : jd cX1_copyFrom 85 (.iconst 0) 1 86 := ⟨by decide +kernel, rfl⟩
theorem dd_X1_copyFrom_86 : jd cX1_copyFrom 86 (.iconst 4) 1 87 := ⟨by decide +kernel, rfl⟩
theorem dd_X1_copyFrom_87 : jd cX1_copyFrom 87 (.invokestatic 67) 3 90 := ⟨by decide +kernel, rfl⟩
theorem dd_X1_copyFrom_90 : jd cX1_copyFrom 90 (.aload_n 1) 1 91 := ⟨by decide +kernel, rfl⟩
theorem fl_RX1_33 : (Cond.fieldLink "MothCustoms$Shed" 33 "MothCustoms$Shed" "hunger" "[I" : Cond) ∈ jj_tb := jj_m (List.mem_of_getElem? (i := 161) (by decide +kernel)) rfl
theorem dd_X1_copyFrom_91 : jd cX1_copyFrom 91 (.getfield 33) 3 94 := ⟨by decide +kernel, rfl⟩
theorem dd_X1_copyFrom_94 : jd cX1_copyFrom 94 (.iconst 0) 1 95 := ⟨by decide +kernel, rfl⟩
theorem dd_X1_copyFrom_95 : jd cX1_copyFrom 95 (.aload_n 0) 1 96 := ⟨by decide +kernel, rfl⟩
theorem dd_X1_copyFrom_96 : jd cX1_copyFrom 96 (.getfield 33) 3 99 := ⟨by decide +kernel, rfl⟩
theorem dd_X1_copyFrom_99 : jd cX1_copyFrom 99 (.iconst 0) 1 100 := ⟨by decide +kernel, rfl⟩
theorem dd_X1_copyFrom_100 : jd cX1_copyFrom 100 (.iconst 4) 1 101 := ⟨by decide +kernel, rfl⟩
theorem dd_X1_copyFrom_101 : jd cX1_copyFrom 101 (.invokestatic 67) 3 104 := ⟨by decide +kernel, rfl⟩
theorem dd_X1_copyFrom_104 : jd cX1_copyFrom 104 (.aload_n 1) 1 105 := ⟨by decide +kernel, rfl⟩
theorem fl_RX1_36 : (Cond.fieldLink "MothCustoms$Shed" 36 "MothCustoms$Shed" "at" "[I" : Cond) ∈ jj_tb := jj_m (List.mem_of_getElem? (i := 162) (by decide +kernel)) rfl
theorem dd_X1_copyFrom_105 : jd cX1_copyFrom 105 (.getfield 36) 3 108 := ⟨by decide +kernel, rfl⟩
theorem dd_X1_copyFrom_108 : jd cX1_copyFrom 108 (.iconst 0) 1 109 := ⟨by decide +kernel, rfl⟩
theorem dd_X1_copyFrom_109 : jd cX1_copyFrom 109 (.aload_n 0) 1 110 := ⟨by decide +kernel, rfl⟩
theorem dd_X1_copyFrom_110 : jd cX1_copyFrom 110 (.getfield 36) 3 113 := ⟨by decide +kernel, rfl⟩
theorem dd_X1_copyFrom_113 : jd cX1_copyFrom 113 (.iconst 0) 1 114 := ⟨by decide +kernel, rfl⟩
theorem dd_X1_copyFrom_114 : jd cX1_copyFrom 114 (.iconst 4) 1 115 := ⟨by decide +kernel, rfl⟩
theorem dd_X1_copyFrom_115 : jd cX1_copyFrom 115 (.invokestatic 67) 3 118 := ⟨by decide +kernel, rfl⟩
theorem dd_X1_copyFrom_118 : jd cX1_copyFrom 118 (.aload_n 0) 1 119 := ⟨by decide +kernel, rfl⟩
theorem dd_X1_copyFrom_119 : jd cX1_copyFrom 119 (.aload_n 1) 1 120 := ⟨by decide +kernel, rfl⟩
theorem dd_X1_copyFrom_120 : jd cX1_copyFrom 120 (.getfield 58) 3 123 := ⟨by decide +kernel, rfl⟩
theorem dd_X1_copyFrom_123 : jd cX1_copyFrom 123 (.putfield 58) 3 126 := ⟨by decide +kernel, rfl⟩
theorem dd_X1_copyFrom_126 : jd cX1_copyFrom 126 (.aload_n 0) 1 127 := ⟨by decide +kernel, rfl⟩
theorem dd_X1_copyFrom_127 : jd cX1_copyFrom 127 (.aload_n 1) 1 128 := ⟨by decide +kernel, rfl⟩
theorem dd_X1_copyFrom_128 : jd cX1_copyFrom 128 (.getfield 39) 3 131 := ⟨by decide +kernel, rfl⟩
theorem dd_X1_copyFrom_131 : jd cX1_copyFrom 131 (.putfield 39) 3 134 := ⟨by decide +kernel, rfl⟩
theorem dd_X1_copyFrom_134 : jd cX1_copyFrom 134 (.aload_n 0) 1 135 := ⟨by decide +kernel, rfl⟩
theorem dd_X1_copyFrom_135 : jd cX1_copyFrom 135 (.aload_n 1) 1 136 := ⟨by decide +kernel, rfl⟩
theorem dd_X1_copyFrom_136 : jd cX1_copyFrom 136 (.getfield 61) 3 139 := ⟨by decide +kernel, rfl⟩
theorem dd_X1_copyFrom_139 : jd cX1_copyFrom 139 (.putfield 61) 3 142 := ⟨by decide +kernel, rfl⟩
theorem dd_X1_copyFrom_142 : jd cX1_copyFrom 142 (.aload_n 0) 1 143 := ⟨by decide +kernel, rfl⟩
theorem dd_X1_copyFrom_143 : jd cX1_copyFrom 143 (.aload_n 1) 1 144 := ⟨by decide +kernel, rfl⟩
theorem dd_X1_copyFrom_144 : jd cX1_copyFrom 144 (.getfield 64) 3 147 := ⟨by decide +kernel, rfl⟩
theorem dd_X1_copyFrom_147 : jd cX1_copyFrom 147 (.putfield 64) 3 150 := ⟨by decide +kernel, rfl⟩
theorem dd_X1_copyFrom_150 : jd cX1_copyFrom 150 (.aload_n 1) 1 151 := ⟨by decide +kernel, rfl⟩
theorem fl_RX1_43 : (Cond.fieldLink "MothCustoms$Shed" 43 "MothCustoms$Shed" "seenBolt" "[I" : Cond) ∈ jj_tb := jj_m (List.mem_of_getElem? (i := 174) (by decide +kernel)) rfl
theorem dd_X1_copyFrom_151 : jd cX1_copyFrom 151 (.getfield 43) 3 154 := ⟨by decide +kernel, rfl⟩
theorem dd_X1_copyFrom_154 : jd cX1_copyFrom 154 (.iconst 0) 1 155 := ⟨by decide +kernel, rfl⟩
theorem dd_X1_copyFrom_155 : jd cX1_copyFrom 155 (.aload_n 0) 1 156 := ⟨by decide +kernel, rfl⟩
theorem dd_X1_copyFrom_156 : jd cX1_copyFrom 156 (.getfield 43) 3 159 := ⟨by decide +kernel, rfl⟩
theorem dd_X1_copyFrom_159 : jd cX1_copyFrom 159 (.iconst 0) 1 160 := ⟨by decide +kernel, rfl⟩
theorem dd_X1_copyFrom_160 : jd cX1_copyFrom 160 (.bipush 6) 2 162 := ⟨by decide +kernel, rfl⟩
theorem dd_X1_copyFrom_162 : jd cX1_copyFrom 162 (.invokestatic 67) 3 165 := ⟨by decide +kernel, rfl⟩
theorem dd_X1_copyFrom_165 : jd cX1_copyFrom 165 (.aload_n 1) 1 166 := ⟨by decide +kernel, rfl⟩
theorem fl_RX1_46 : (Cond.fieldLink "MothCustoms$Shed" 46 "MothCustoms$Shed" "seenHoles" "[I" : Cond) ∈ jj_tb := jj_m (List.mem_of_getElem? (i := 176) (by decide +kernel)) rfl
theorem dd_X1_copyFrom_166 : jd cX1_copyFrom 166 (.getfield 46) 3 169 := ⟨by decide +kernel, rfl⟩
theorem dd_X1_copyFrom_169 : jd cX1_copyFrom 169 (.iconst 0) 1 170 := ⟨by decide +kernel, rfl⟩
theorem dd_X1_copyFrom_170 : jd cX1_copyFrom 170 (.aload_n 0) 1 171 := ⟨by decide +kernel, rfl⟩
theorem dd_X1_copyFrom_171 : jd cX1_copyFrom 171 (.getfield 46) 3 174 := ⟨by decide +kernel, rfl⟩
theorem dd_X1_copyFrom_174 : jd cX1_copyFrom 174 (.iconst 0) 1 175 := ⟨by decide +kernel, rfl⟩
theorem dd_X1_copyFrom_175 : jd cX1_copyFrom 175 (.bipush 6) 2 177 := ⟨by decide +kernel, rfl⟩
theorem dd_X1_copyFrom_177 : jd cX1_copyFrom 177 (.invokestatic 67) 3 180 := ⟨by decide +kernel, rfl⟩
theorem dd_X1_copyFrom_180 : jd cX1_copyFrom 180 (.return_) 1 181 := ⟨by decide +kernel, rfl⟩
theorem m_X1_copyFrom : jmV yX1_copyFrom cX1_copyFrom 2 none 1 := ⟨⟨(jj_m (w := Cond.code yX1_copyFrom cX1_copyFrom 2 none) (List.mem_of_getElem? (i := 440) (by decide +kernel)) rfl), (jj_m (w := Cond.initialized yX1_copyFrom.cls) (List.mem_of_getElem? (i := 66) (by decide +kernel)) rfl), ⟨by decide, by decide⟩, by decide +kernel⟩, (jj_m (w := Cond.instanceMethod yX1_copyFrom) (List.mem_of_getElem? (i := 438) (by decide +kernel)) rfl), (jj_m (w := Cond.selects yX1_copyFrom.cls yX1_copyFrom yX1_copyFrom) (List.mem_of_getElem? (i := 439) (by decide +kernel)) rfl)⟩
def fX1_copyFrom  (S : M2) (N : M2) : Option (M2) :=
  lt (va_up S 0 (fun _ => (N 0 0))) fun S1 =>
  lt (va_up S1 1 (va_cpy (N 1) (S1 1) 0 0 5)) fun S2 =>
  lt (va_up S2 2 (va_cpy (N 2) (S2 2) 0 0 5)) fun S3 =>
  (fX1_copyHolesFrom  S3 N).bind fun q4 =>
  lt (q4) fun S5 =>
  lt (va_up S5 4 (fun _ => (N 4 0))) fun S6 =>
  (fX1_copyLyingFrom  S6 N).bind fun q7 =>
  lt (q7) fun S8 =>
  lt (va_up S8 7 (fun _ => (N 7 0))) fun S9 =>
  lt (va_up S9 8 (va_cpy (N 8) (S9 8) 0 0 4)) fun S10 =>
  lt (va_up S10 9 (va_cpy (N 9) (S10 9) 0 0 4)) fun S11 =>
  lt (va_up S11 10 (va_cpy (N 10) (S11 10) 0 0 4)) fun S12 =>
  lt (va_up S12 11 (va_cpy (N 11) (S12 11) 0 0 4)) fun S13 =>
  lt (va_up S13 12 (fun _ => (N 12 0))) fun S14 =>
  lt (va_up S14 13 (fun _ => (N 13 0))) fun S15 =>
  lt (va_up S15 14 (fun _ => (N 14 0))) fun S16 =>
  lt (va_up S16 15 (fun _ => (N 15 0))) fun S17 =>
  lt (va_up S17 16 (va_cpy (N 16) (S17 16) 0 0 6)) fun S18 =>
  lt (va_up S18 17 (va_cpy (N 17) (S18 17) 0 0 6)) fun S19 =>
  some S19

set_option maxHeartbeats 4000000 in
set_option maxRecDepth 100000 in
theorem tX1_copyFrom (l : Launch) {V : JV M2} {b : Nat} {a : Nat → Nat} (hv : vX1 V b a) {b2 : Nat} {a2 : Nat → Nat} {N : M2} (hr : rX1 V b2 a2 N) (S : M2)  : JC l V yX1_copyFrom cX1_copyFrom 2 none jj_v 2 [.ref b, .ref b2] S ((fX1_copyFrom  S N).map (fun q => ((), q))) := by
  refine jj_of (by decide) (Nat.le_of_ble_eq_true rfl) (fun E hlE hE => ?_)
  unfold fX1_copyFrom
  refine J_sub (L' := [(0, .ref b), (1, .ref b2)]) [0, 1] rfl ?_
  refine J_aload_n hE dd_X1_copyFrom_0 0 rfl rfl ?_
  refine J_aload_n hE dd_X1_copyFrom_1 1 rfl rfl ?_
  refine J_get hE (hr.ob _) jc_X1 0 (by decide) fl_RX1_49 (v := .int (N 0 0)) rfl dd_X1_copyFrom_2 ?_
  refine J_put hE hv jc_X1 0 (by decide) (by decide) fl_RX1_49 rfl rfl rfl (Nat.le_of_ble_eq_true rfl) dd_X1_copyFrom_5 ?_
  refine J_letS (fun S1 => ?_)
  refine J_aload_n hE dd_X1_copyFrom_8 1 rfl rfl ?_
  refine J_get hE (hr.ob _) jc_X1 1 (by decide) fl_RX1_9 (v := .ref (a2 1)) rfl dd_X1_copyFrom_9 ?_
  refine J_iconst hE (v := (0 : Int32)) dd_X1_copyFrom_12 (by decide) ?_
  refine J_aload_n hE dd_X1_copyFrom_13 0 rfl rfl ?_
  refine J_get hE (hv.ob _) jc_X1 1 (by decide) fl_RX1_9 (v := .ref (a 1)) rfl dd_X1_copyFrom_14 ?_
  refine J_iconst hE (v := (0 : Int32)) dd_X1_copyFrom_17 (by decide) ?_
  refine J_iconst hE (v := (5 : Int32)) dd_X1_copyFrom_18 (by decide) ?_
  refine J_copy hE hv 1 (N := 5) (by decide) (hr.arr 1 (n := 5) (ty := .int) (by decide) _) (by decide) (by decide) ml_RX1_67 (Nat.le_of_ble_eq_true rfl) (Nat.le_of_ble_eq_true rfl) dd_X1_copyFrom_19 ?_
  refine J_letS (fun S2 => ?_)
  refine J_aload_n hE dd_X1_copyFrom_22 1 rfl rfl ?_
  refine J_get hE (hr.ob _) jc_X1 2 (by decide) fl_RX1_15 (v := .ref (a2 2)) rfl dd_X1_copyFrom_23 ?_
  refine J_iconst hE (v := (0 : Int32)) dd_X1_copyFrom_26 (by decide) ?_
  refine J_aload_n hE dd_X1_copyFrom_27 0 rfl rfl ?_
  refine J_get hE (hv.ob _) jc_X1 2 (by decide) fl_RX1_15 (v := .ref (a 2)) rfl dd_X1_copyFrom_28 ?_
  refine J_iconst hE (v := (0 : Int32)) dd_X1_copyFrom_31 (by decide) ?_
  refine J_iconst hE (v := (5 : Int32)) dd_X1_copyFrom_32 (by decide) ?_
  refine J_copy hE hv 2 (N := 5) (by decide) (hr.arr 2 (n := 5) (ty := .int) (by decide) _) (by decide) (by decide) ml_RX1_67 (Nat.le_of_ble_eq_true rfl) (Nat.le_of_ble_eq_true rfl) dd_X1_copyFrom_33 ?_
  refine J_letS (fun S3 => ?_)
  refine J_aload_n hE dd_X1_copyFrom_36 0 rfl rfl ?_
  refine J_aload_n hE dd_X1_copyFrom_37 1 rfl rfl ?_
  refine J_invVwv hE (e := fun x => x) (As := [.ref b2]) (st := []) (tX1_copyHolesFrom E.2.1 hv hr S3 ) (hv.ob _) m_X1_copyHolesFrom rfl ml_RX1_73 (Nat.le_of_ble_eq_true rfl) (Nat.le_of_ble_eq_true rfl) rfl (Nat.le_of_ble_eq_true rfl) dd_X1_copyFrom_38 (fun q4 => ?_)
  refine J_letS (fun S5 => ?_)
  refine J_aload_n hE dd_X1_copyFrom_41 0 rfl rfl ?_
  refine J_aload_n hE dd_X1_copyFrom_42 1 rfl rfl ?_
  refine J_get hE (hr.ob _) jc_X1 4 (by decide) fl_RX1_52 (v := .int (N 4 0)) rfl dd_X1_copyFrom_43 ?_
  refine J_put hE hv jc_X1 4 (by decide) (by decide) fl_RX1_52 rfl rfl rfl (Nat.le_of_ble_eq_true rfl) dd_X1_copyFrom_46 ?_
  refine J_letS (fun S6 => ?_)
  refine J_aload_n hE dd_X1_copyFrom_49 0 rfl rfl ?_
  refine J_aload_n hE dd_X1_copyFrom_50 1 rfl rfl ?_
  refine J_invVwv hE (e := fun x => x) (As := [.ref b2]) (st := []) (tX1_copyLyingFrom E.2.1 hv hr S6 ) (hv.ob _) m_X1_copyLyingFrom rfl ml_RX1_77 (Nat.le_of_ble_eq_true rfl) (Nat.le_of_ble_eq_true rfl) rfl (Nat.le_of_ble_eq_true rfl) dd_X1_copyFrom_51 (fun q7 => ?_)
  refine J_letS (fun S8 => ?_)
  refine J_aload_n hE dd_X1_copyFrom_54 0 rfl rfl ?_
  refine J_aload_n hE dd_X1_copyFrom_55 1 rfl rfl ?_
  refine J_get hE (hr.ob _) jc_X1 7 (by decide) fl_RX1_55 (v := .int (N 7 0)) rfl dd_X1_copyFrom_56 ?_
  refine J_put hE hv jc_X1 7 (by decide) (by decide) fl_RX1_55 rfl rfl rfl (Nat.le_of_ble_eq_true rfl) dd_X1_copyFrom_59 ?_
  refine J_letS (fun S9 => ?_)
  refine J_aload_n hE dd_X1_copyFrom_62 1 rfl rfl ?_
  refine J_get hE (hr.ob _) jc_X1 8 (by decide) fl_RX1_27 (v := .ref (a2 8)) rfl dd_X1_copyFrom_63 ?_
  refine J_iconst hE (v := (0 : Int32)) dd_X1_copyFrom_66 (by decide) ?_
  refine J_aload_n hE dd_X1_copyFrom_67 0 rfl rfl ?_
  refine J_get hE (hv.ob _) jc_X1 8 (by decide) fl_RX1_27 (v := .ref (a 8)) rfl dd_X1_copyFrom_68 ?_
  refine J_iconst hE (v := (0 : Int32)) dd_X1_copyFrom_71 (by decide) ?_
  refine J_iconst hE (v := (4 : Int32)) dd_X1_copyFrom_72 (by decide) ?_
  refine J_copy hE hv 8 (N := 4) (by decide) (hr.arr 8 (n := 4) (ty := .int) (by decide) _) (by decide) (by decide) ml_RX1_67 (Nat.le_of_ble_eq_true rfl) (Nat.le_of_ble_eq_true rfl) dd_X1_copyFrom_73 ?_
  refine J_letS (fun S10 => ?_)
  refine J_aload_n hE dd_X1_copyFrom_76 1 rfl rfl ?_
  refine J_get hE (hr.ob _) jc_X1 9 (by decide) fl_RX1_30 (v := .ref (a2 9)) rfl dd_X1_copyFrom_77 ?_
  refine J_iconst hE (v := (0 : Int32)) dd_X1_copyFrom_80 (by decide) ?_
  refine J_aload_n hE dd_X1_copyFrom_81 0 rfl rfl ?_
  refine J_get hE (hv.ob _) jc_X1 9 (by decide) fl_RX1_30 (v := .ref (a 9)) rfl dd_X1_copyFrom_82 ?_
  refine J_iconst hE (v := (0 : Int32)) dd_X1_copyFrom_85 (by decide) ?_
  refine J_iconst hE (v := (4 : Int32)) dd_X1_copyFrom_86 (by decide) ?_
  refine J_copy hE hv 9 (N := 4) (by decide) (hr.arr 9 (n := 4) (ty := .int) (by decide) _) (by decide) (by decide) ml_RX1_67 (Nat.le_of_ble_eq_true rfl) (Nat.le_of_ble_eq_true rfl) dd_X1_copyFrom_87 ?_
  refine J_letS (fun S11 => ?_)
  refine J_aload_n hE dd_X1_copyFrom_90 1 rfl rfl ?_
  refine J_get hE (hr.ob _) jc_X1 10 (by decide) fl_RX1_33 (v := .ref (a2 10)) rfl dd_X1_copyFrom_91 ?_
  refine J_iconst hE (v := (0 : Int32)) dd_X1_copyFrom_94 (by decide) ?_
  refine J_aload_n hE dd_X1_copyFrom_95 0 rfl rfl ?_
  refine J_get hE (hv.ob _) jc_X1 10 (by decide) fl_RX1_33 (v := .ref (a 10)) rfl dd_X1_copyFrom_96 ?_
  refine J_iconst hE (v := (0 : Int32)) dd_X1_copyFrom_99 (by decide) ?_
  refine J_iconst hE (v := (4 : Int32)) dd_X1_copyFrom_100 (by decide) ?_
  refine J_copy hE hv 10 (N := 4) (by decide) (hr.arr 10 (n := 4) (ty := .int) (by decide) _) (by decide) (by decide) ml_RX1_67 (Nat.le_of_ble_eq_true rfl) (Nat.le_of_ble_eq_true rfl) dd_X1_copyFrom_101 ?_
  refine J_letS (fun S12 => ?_)
  refine J_aload_n hE dd_X1_copyFrom_104 1 rfl rfl ?_
  refine J_get hE (hr.ob _) jc_X1 11 (by decide) fl_RX1_36 (v := .ref (a2 11)) rfl dd_X1_copyFrom_105 ?_
  refine J_iconst hE (v := (0 : Int32)) dd_X1_copyFrom_108 (by decide) ?_
  refine J_aload_n hE dd_X1_copyFrom_109 0 rfl rfl ?_
  refine J_get hE (hv.ob _) jc_X1 11 (by decide) fl_RX1_36 (v := .ref (a 11)) rfl dd_X1_copyFrom_110 ?_
  refine J_iconst hE (v := (0 : Int32)) dd_X1_copyFrom_113 (by decide) ?_
  refine J_iconst hE (v := (4 : Int32)) dd_X1_copyFrom_114 (by decide) ?_
  refine J_copy hE hv 11 (N := 4) (by decide) (hr.arr 11 (n := 4) (ty := .int) (by decide) _) (by decide) (by decide) ml_RX1_67 (Nat.le_of_ble_eq_true rfl) (Nat.le_of_ble_eq_true rfl) dd_X1_copyFrom_115 ?_
  refine J_letS (fun S13 => ?_)
  refine J_aload_n hE dd_X1_copyFrom_118 0 rfl rfl ?_
  refine J_aload_n hE dd_X1_copyFrom_119 1 rfl rfl ?_
  refine J_get hE (hr.ob _) jc_X1 12 (by decide) fl_RX1_58 (v := .int (N 12 0)) rfl dd_X1_copyFrom_120 ?_
  refine J_put hE hv jc_X1 12 (by decide) (by decide) fl_RX1_58 rfl rfl rfl (Nat.le_of_ble_eq_true rfl) dd_X1_copyFrom_123 ?_
  refine J_letS (fun S14 => ?_)
  refine J_aload_n hE dd_X1_copyFrom_126 0 rfl rfl ?_
  refine J_aload_n hE dd_X1_copyFrom_127 1 rfl rfl ?_
  refine J_get hE (hr.ob _) jc_X1 13 (by decide) fl_RX1_39 (v := .int (N 13 0)) rfl dd_X1_copyFrom_128 ?_
  refine J_put hE hv jc_X1 13 (by decide) (by decide) fl_RX1_39 rfl rfl rfl (Nat.le_of_ble_eq_true rfl) dd_X1_copyFrom_131 ?_
  refine J_letS (fun S15 => ?_)
  refine J_aload_n hE dd_X1_copyFrom_134 0 rfl rfl ?_
  refine J_aload_n hE dd_X1_copyFrom_135 1 rfl rfl ?_
  refine J_get hE (hr.ob _) jc_X1 14 (by decide) fl_RX1_61 (v := .int (N 14 0)) rfl dd_X1_copyFrom_136 ?_
  refine J_put hE hv jc_X1 14 (by decide) (by decide) fl_RX1_61 rfl rfl rfl (Nat.le_of_ble_eq_true rfl) dd_X1_copyFrom_139 ?_
  refine J_letS (fun S16 => ?_)
  refine J_aload_n hE dd_X1_copyFrom_142 0 rfl rfl ?_
  refine J_aload_n hE dd_X1_copyFrom_143 1 rfl rfl ?_
  refine J_get hE (hr.ob _) jc_X1 15 (by decide) fl_RX1_64 (v := .int (N 15 0)) rfl dd_X1_copyFrom_144 ?_
  refine J_put hE hv jc_X1 15 (by decide) (by decide) fl_RX1_64 rfl rfl rfl (Nat.le_of_ble_eq_true rfl) dd_X1_copyFrom_147 ?_
  refine J_letS (fun S17 => ?_)
  refine J_aload_n hE dd_X1_copyFrom_150 1 rfl rfl ?_
  refine J_get hE (hr.ob _) jc_X1 16 (by decide) fl_RX1_43 (v := .ref (a2 16)) rfl dd_X1_copyFrom_151 ?_
  refine J_iconst hE (v := (0 : Int32)) dd_X1_copyFrom_154 (by decide) ?_
  refine J_aload_n hE dd_X1_copyFrom_155 0 rfl rfl ?_
  refine J_get hE (hv.ob _) jc_X1 16 (by decide) fl_RX1_43 (v := .ref (a 16)) rfl dd_X1_copyFrom_156 ?_
  refine J_iconst hE (v := (0 : Int32)) dd_X1_copyFrom_159 (by decide) ?_
  refine J_bipush hE (v := (6 : Int32)) dd_X1_copyFrom_160 (by decide) ?_
  refine J_copy hE hv 16 (N := 6) (by decide) (hr.arr 16 (n := 6) (ty := .int) (by decide) _) (by decide) (by decide) ml_RX1_67 (Nat.le_of_ble_eq_true rfl) (Nat.le_of_ble_eq_true rfl) dd_X1_copyFrom_162 ?_
  refine J_letS (fun S18 => ?_)
  refine J_aload_n hE dd_X1_copyFrom_165 1 rfl rfl ?_
  refine J_get hE (hr.ob _) jc_X1 17 (by decide) fl_RX1_46 (v := .ref (a2 17)) rfl dd_X1_copyFrom_166 ?_
  refine J_iconst hE (v := (0 : Int32)) dd_X1_copyFrom_169 (by decide) ?_
  refine J_aload_n hE dd_X1_copyFrom_170 0 rfl rfl ?_
  refine J_get hE (hv.ob _) jc_X1 17 (by decide) fl_RX1_46 (v := .ref (a 17)) rfl dd_X1_copyFrom_171 ?_
  refine J_iconst hE (v := (0 : Int32)) dd_X1_copyFrom_174 (by decide) ?_
  refine J_bipush hE (v := (6 : Int32)) dd_X1_copyFrom_175 (by decide) ?_
  refine J_copy hE hv 17 (N := 6) (by decide) (hr.arr 17 (n := 6) (ty := .int) (by decide) _) (by decide) (by decide) ml_RX1_67 (Nat.le_of_ble_eq_true rfl) (Nat.le_of_ble_eq_true rfl) dd_X1_copyFrom_177 ?_
  refine J_letS (fun S19 => ?_)
  exact J_vret hE dd_X1_copyFrom_180 rfl rfl
theorem dd_X1_hasBolt_0 : jd cX1_hasBolt 0 (.iload_n 1) 1 1 := ⟨by decide +kernel, rfl⟩
theorem dd_X1_hasBolt_1 : jd cX1_hasBolt 1 (.iconst 0) 1 2 := ⟨by decide +kernel, rfl⟩
theorem dd_X1_hasBolt_2 : jd cX1_hasBolt 2 (.aload_n 0) 1 3 := ⟨by decide +kernel, rfl⟩
theorem dd_X1_hasBolt_3 : jd cX1_hasBolt 3 (.getfield 49) 3 6 := ⟨by decide +kernel, rfl⟩
theorem dd_X1_hasBolt_6 : jd cX1_hasBolt 6 (.iconst 1) 1 7 := ⟨by decide +kernel, rfl⟩
theorem dd_X1_hasBolt_7 : jd cX1_hasBolt 7 (.isub) 1 8 := ⟨by decide +kernel, rfl⟩
theorem dd_X1_hasBolt_8 : jd cX1_hasBolt 8 (.invokestatic 80) 3 11 := ⟨by decide +kernel, rfl⟩
theorem dd_X1_hasBolt_11 : jd cX1_hasBolt 11 (.ireturn) 1 12 := ⟨by decide +kernel, rfl⟩
theorem m_X1_hasBolt : jmV yX1_hasBolt cX1_hasBolt 2 (some .boolean) 1 := ⟨⟨(jj_m (w := Cond.code yX1_hasBolt cX1_hasBolt 2 (some .boolean)) (List.mem_of_getElem? (i := 476) (by decide +kernel)) rfl), (jj_m (w := Cond.initialized yX1_hasBolt.cls) (List.mem_of_getElem? (i := 66) (by decide +kernel)) rfl), ⟨by decide, by decide⟩, by decide +kernel⟩, (jj_m (w := Cond.instanceMethod yX1_hasBolt) (List.mem_of_getElem? (i := 474) (by decide +kernel)) rfl), (jj_m (w := Cond.selects yX1_hasBolt.cls yX1_hasBolt yX1_hasBolt) (List.mem_of_getElem? (i := 475) (by decide +kernel)) rfl)⟩
def fX1_hasBolt (i1 : Int32) (S : M2) : Option (Int32) :=
  (fX4_within i1 (0 : Int32) ((S 0 0) - (1 : Int32))).bind fun r1 =>
  zb r1 (some r1)

set_option maxHeartbeats 4000000 in
set_option maxRecDepth 100000 in
theorem tX1_hasBolt (l : Launch) {V : JV M2} {b : Nat} {a : Nat → Nat} (hv : vX1 V b a) (S : M2) (i1 : Int32) : JC l V yX1_hasBolt cX1_hasBolt 2 (some .boolean) jj_i 1 [.ref b, .int i1] S ((fX1_hasBolt i1 S).map (fun r => (r, S))) := by
  refine jj_of (by decide) (Nat.le_of_ble_eq_true rfl) (fun E hlE hE => ?_)
  unfold fX1_hasBolt
  refine J_sub (L' := [(0, .ref b), (1, .int i1)]) [0, 1] rfl ?_
  refine J_iload_n hE dd_X1_hasBolt_0 1 rfl rfl ?_
  refine J_iconst hE (v := (0 : Int32)) dd_X1_hasBolt_1 (by decide) ?_
  refine J_aload_n hE dd_X1_hasBolt_2 0 rfl rfl ?_
  refine J_get hE (hv.ob _) jc_X1 0 (by decide) fl_RX1_49 (v := .int (S 0 0)) rfl dd_X1_hasBolt_3 ?_
  refine J_iconst hE (v := (1 : Int32)) dd_X1_hasBolt_6 (by decide) ?_
  refine J_isub hE dd_X1_hasBolt_7 ?_
  refine J_invNri hE (host := "MothCustoms") (As := [.int i1, .int (0 : Int32), .int ((S 0 0) - (1 : Int32))]) (st := []) (tX4_within E.2.1 V S i1 (0 : Int32) ((S 0 0) - (1 : Int32))) m_X4_within s_X4_within rfl (by decide +kernel) (Nat.le_of_ble_eq_true rfl) (Nat.le_of_ble_eq_true rfl) rfl (Nat.le_of_ble_eq_true rfl) dd_X1_hasBolt_8 (fun r1 => ?_)
  refine J_zb (fun hz => ?_)
  exact J_zret hE hz dd_X1_hasBolt_11 rfl rfl
theorem dd_X1_hasMoth_0 : jd cX1_hasMoth 0 (.iload_n 1) 1 1 := ⟨by decide +kernel, rfl⟩
theorem dd_X1_hasMoth_1 : jd cX1_hasMoth 1 (.iconst 0) 1 2 := ⟨by decide +kernel, rfl⟩
theorem dd_X1_hasMoth_2 : jd cX1_hasMoth 2 (.aload_n 0) 1 3 := ⟨by decide +kernel, rfl⟩
theorem dd_X1_hasMoth_3 : jd cX1_hasMoth 3 (.getfield 55) 3 6 := ⟨by decide +kernel, rfl⟩
theorem dd_X1_hasMoth_6 : jd cX1_hasMoth 6 (.iconst 1) 1 7 := ⟨by decide +kernel, rfl⟩
theorem dd_X1_hasMoth_7 : jd cX1_hasMoth 7 (.isub) 1 8 := ⟨by decide +kernel, rfl⟩
theorem dd_X1_hasMoth_8 : jd cX1_hasMoth 8 (.invokestatic 80) 3 11 := ⟨by decide +kernel, rfl⟩
theorem dd_X1_hasMoth_11 : jd cX1_hasMoth 11 (.ireturn) 1 12 := ⟨by decide +kernel, rfl⟩
theorem m_X1_hasMoth : jmV yX1_hasMoth cX1_hasMoth 2 (some .boolean) 1 := ⟨⟨(jj_m (w := Cond.code yX1_hasMoth cX1_hasMoth 2 (some .boolean)) (List.mem_of_getElem? (i := 497) (by decide +kernel)) rfl), (jj_m (w := Cond.initialized yX1_hasMoth.cls) (List.mem_of_getElem? (i := 66) (by decide +kernel)) rfl), ⟨by decide, by decide⟩, by decide +kernel⟩, (jj_m (w := Cond.instanceMethod yX1_hasMoth) (List.mem_of_getElem? (i := 495) (by decide +kernel)) rfl), (jj_m (w := Cond.selects yX1_hasMoth.cls yX1_hasMoth yX1_hasMoth) (List.mem_of_getElem? (i := 496) (by decide +kernel)) rfl)⟩
def fX1_hasMoth (i1 : Int32) (S : M2) : Option (Int32) :=
  (fX4_within i1 (0 : Int32) ((S 7 0) - (1 : Int32))).bind fun r1 =>
  zb r1 (some r1)

set_option maxHeartbeats 4000000 in
set_option maxRecDepth 100000 in
theorem tX1_hasMoth (l : Launch) {V : JV M2} {b : Nat} {a : Nat → Nat} (hv : vX1 V b a) (S : M2) (i1 : Int32) : JC l V yX1_hasMoth cX1_hasMoth 2 (some .boolean) jj_i 1 [.ref b, .int i1] S ((fX1_hasMoth i1 S).map (fun r => (r, S))) := by
  refine jj_of (by decide) (Nat.le_of_ble_eq_true rfl) (fun E hlE hE => ?_)
  unfold fX1_hasMoth
  refine J_sub (L' := [(0, .ref b), (1, .int i1)]) [0, 1] rfl ?_
  refine J_iload_n hE dd_X1_hasMoth_0 1 rfl rfl ?_
  refine J_iconst hE (v := (0 : Int32)) dd_X1_hasMoth_1 (by decide) ?_
  refine J_aload_n hE dd_X1_hasMoth_2 0 rfl rfl ?_
  refine J_get hE (hv.ob _) jc_X1 7 (by decide) fl_RX1_55 (v := .int (S 7 0)) rfl dd_X1_hasMoth_3 ?_
  refine J_iconst hE (v := (1 : Int32)) dd_X1_hasMoth_6 (by decide) ?_
  refine J_isub hE dd_X1_hasMoth_7 ?_
  refine J_invNri hE (host := "MothCustoms") (As := [.int i1, .int (0 : Int32), .int ((S 7 0) - (1 : Int32))]) (st := []) (tX4_within E.2.1 V S i1 (0 : Int32) ((S 7 0) - (1 : Int32))) m_X4_within s_X4_within rfl (by decide +kernel) (Nat.le_of_ble_eq_true rfl) (Nat.le_of_ble_eq_true rfl) rfl (Nat.le_of_ble_eq_true rfl) dd_X1_hasMoth_8 (fun r1 => ?_)
  refine J_zb (fun hz => ?_)
  exact J_zret hE hz dd_X1_hasMoth_11 rfl rfl
theorem dd_X1_hasCamphor_0 : jd cX1_hasCamphor 0 (.aload_n 0) 1 1 := ⟨by decide +kernel, rfl⟩
theorem dd_X1_hasCamphor_1 : jd cX1_hasCamphor 1 (.getfield 52) 3 4 := ⟨by decide +kernel, rfl⟩
theorem dd_X1_hasCamphor_4 : jd cX1_hasCamphor 4 (.iload_n 1) 1 5 := ⟨by decide +kernel, rfl⟩
theorem dd_X1_hasCamphor_5 : jd cX1_hasCamphor 5 (.ishr) 1 6 := ⟨by decide +kernel, rfl⟩
theorem dd_X1_hasCamphor_6 : jd cX1_hasCamphor 6 (.iconst 1) 1 7 := ⟨by decide +kernel, rfl⟩
theorem dd_X1_hasCamphor_7 : jd cX1_hasCamphor 7 (.iand) 1 8 := ⟨by decide +kernel, rfl⟩
theorem dd_X1_hasCamphor_8 : jd cX1_hasCamphor 8 (.iconst 1) 1 9 := ⟨by decide +kernel, rfl⟩
theorem dd_X1_hasCamphor_16 : jd cX1_hasCamphor 16 (.iconst 0) 1 17 := ⟨by decide +kernel, rfl⟩
theorem dd_X1_hasCamphor_17 : jd cX1_hasCamphor 17 (.ireturn) 1 18 := ⟨by decide +kernel, rfl⟩
theorem dd_X1_hasCamphor_12 : jd cX1_hasCamphor 12 (.iconst 1) 1 13 := ⟨by decide +kernel, rfl⟩
theorem dd_X1_hasCamphor_13 : jd cX1_hasCamphor 13 (.goto 4) 3 16 := ⟨by decide +kernel, rfl⟩
theorem dd_X1_hasCamphor_9 : jd cX1_hasCamphor 9 (.if_icmp .ne 7) 3 12 := ⟨by decide +kernel, rfl⟩
theorem m_X1_hasCamphor : jmV yX1_hasCamphor cX1_hasCamphor 2 (some .boolean) 1 := ⟨⟨(jj_m (w := Cond.code yX1_hasCamphor cX1_hasCamphor 2 (some .boolean)) (List.mem_of_getElem? (i := 420) (by decide +kernel)) rfl), (jj_m (w := Cond.initialized yX1_hasCamphor.cls) (List.mem_of_getElem? (i := 66) (by decide +kernel)) rfl), ⟨by decide, by decide⟩, by decide +kernel⟩, (jj_m (w := Cond.instanceMethod yX1_hasCamphor) (List.mem_of_getElem? (i := 418) (by decide +kernel)) rfl), (jj_m (w := Cond.selects yX1_hasCamphor.cls yX1_hasCamphor yX1_hasCamphor) (List.mem_of_getElem? (i := 419) (by decide +kernel)) rfl)⟩
def fX1_hasCamphor (i1 : Int32) (S : M2) : Option (Int32) :=
  if (((S 4 0) >>> (i1 &&& 31)) &&& (1 : Int32)) = (1 : Int32) then
    some (1 : Int32)
  else
    some (0 : Int32)

set_option maxHeartbeats 4000000 in
set_option maxRecDepth 100000 in
theorem tX1_hasCamphor (l : Launch) {V : JV M2} {b : Nat} {a : Nat → Nat} (hv : vX1 V b a) (S : M2) (i1 : Int32) : JC l V yX1_hasCamphor cX1_hasCamphor 2 (some .boolean) jj_i 0 [.ref b, .int i1] S ((fX1_hasCamphor i1 S).map (fun r => (r, S))) := by
  refine jj_of (by decide) (Nat.le_of_ble_eq_true rfl) (fun E hlE hE => ?_)
  unfold fX1_hasCamphor
  refine J_sub (L' := [(0, .ref b), (1, .int i1)]) [0, 1] rfl ?_
  refine J_aload_n hE dd_X1_hasCamphor_0 0 rfl rfl ?_
  refine J_get hE (hv.ob _) jc_X1 4 (by decide) fl_RX1_52 (v := .int (S 4 0)) rfl dd_X1_hasCamphor_1 ?_
  refine J_iload_n hE dd_X1_hasCamphor_4 1 rfl rfl ?_
  refine J_ishr hE dd_X1_hasCamphor_5 ?_
  refine J_iconst hE (v := (1 : Int32)) dd_X1_hasCamphor_6 (by decide) ?_
  refine J_iand hE dd_X1_hasCamphor_7 ?_
  refine J_iconst hE (v := (1 : Int32)) dd_X1_hasCamphor_8 (by decide) ?_
  refine J_icmp_ne hE (tgt := 16) dd_X1_hasCamphor_9 (by decide) (fun c1 => ?_) (fun c1 => ?_)
  · refine J_iconst hE (v := (0 : Int32)) dd_X1_hasCamphor_16 (by decide) ?_
    exact J_zret hE (Or.inl rfl) dd_X1_hasCamphor_17 rfl rfl
  · refine J_iconst hE (v := (1 : Int32)) dd_X1_hasCamphor_12 (by decide) ?_
    refine J_goto hE (tgt := 17) dd_X1_hasCamphor_13 (by decide) ?_
    exact J_zret hE (Or.inr rfl) dd_X1_hasCamphor_17 rfl rfl
theorem dd_X1_putBelow_0 : jd cX1_putBelow 0 (.aload_n 0) 1 1 := ⟨by decide +kernel, rfl⟩
theorem dd_X1_putBelow_1 : jd cX1_putBelow 1 (.getfield 24) 3 4 := ⟨by decide +kernel, rfl⟩
theorem dd_X1_putBelow_4 : jd cX1_putBelow 4 (.iload_n 2) 1 5 := ⟨by decide +kernel, rfl⟩
theorem dd_X1_putBelow_5 : jd cX1_putBelow 5 (.iaload) 1 6 := ⟨by decide +kernel, rfl⟩
theorem dd_X1_putBelow_6 : jd cX1_putBelow 6 (.iconst 5) 1 7 := ⟨by decide +kernel, rfl⟩
theorem dd_X1_putBelow_11 : jd cX1_putBelow 11 (.aload_n 0) 1 12 := ⟨by decide +kernel, rfl⟩
theorem dd_X1_putBelow_12 : jd cX1_putBelow 12 (.getfield 21) 3 15 := ⟨by decide +kernel, rfl⟩
theorem dd_X1_putBelow_15 : jd cX1_putBelow 15 (.iload_n 2) 1 16 := ⟨by decide +kernel, rfl⟩
theorem dd_X1_putBelow_16 : jd cX1_putBelow 16 (.iconst 5) 1 17 := ⟨by decide +kernel, rfl⟩
theorem dd_X1_putBelow_17 : jd cX1_putBelow 17 (.imul) 1 18 := ⟨by decide +kernel, rfl⟩
theorem dd_X1_putBelow_18 : jd cX1_putBelow 18 (.aload_n 0) 1 19 := ⟨by decide +kernel, rfl⟩
theorem dd_X1_putBelow_19 : jd cX1_putBelow 19 (.getfield 24) 3 22 := ⟨by decide +kernel, rfl⟩
theorem dd_X1_putBelow_22 : jd cX1_putBelow 22 (.iload_n 2) 1 23 := ⟨by decide +kernel, rfl⟩
theorem dd_X1_putBelow_23 : jd cX1_putBelow 23 (.iaload) 1 24 := ⟨by decide +kernel, rfl⟩
theorem dd_X1_putBelow_24 : jd cX1_putBelow 24 (.iadd) 1 25 := ⟨by decide +kernel, rfl⟩
theorem dd_X1_putBelow_25 : jd cX1_putBelow 25 (.iload_n 1) 1 26 := ⟨by decide +kernel, rfl⟩
theorem dd_X1_putBelow_26 : jd cX1_putBelow 26 (.iastore) 1 27 := ⟨by decide +kernel, rfl⟩
theorem dd_X1_putBelow_27 : jd cX1_putBelow 27 (.aload_n 0) 1 28 := ⟨by decide +kernel, rfl⟩
theorem dd_X1_putBelow_28 : jd cX1_putBelow 28 (.getfield 24) 3 31 := ⟨by decide +kernel, rfl⟩
theorem dd_X1_putBelow_31 : jd cX1_putBelow 31 (.iload_n 2) 1 32 := ⟨by decide +kernel, rfl⟩
theorem dd_X1_putBelow_32 : jd cX1_putBelow 32 (.dup2) 1 33 := ⟨by decide +kernel, rfl⟩
theorem dd_X1_putBelow_33 : jd cX1_putBelow 33 (.iaload) 1 34 := ⟨by decide +kernel, rfl⟩
theorem dd_X1_putBelow_34 : jd cX1_putBelow 34 (.iconst 1) 1 35 := ⟨by decide +kernel, rfl⟩
theorem dd_X1_putBelow_35 : jd cX1_putBelow 35 (.iadd) 1 36 := ⟨by decide +kernel, rfl⟩
theorem dd_X1_putBelow_36 : jd cX1_putBelow 36 (.iastore) 1 37 := ⟨by decide +kernel, rfl⟩
theorem dd_X1_putBelow_37 : jd cX1_putBelow 37 (.return_) 1 38 := ⟨by decide +kernel, rfl⟩
theorem dd_X1_putBelow_10 : jd cX1_putBelow 10 (.return_) 1 11 := ⟨by decide +kernel, rfl⟩
theorem dd_X1_putBelow_7 : jd cX1_putBelow 7 (.if_icmp .lt 4) 3 10 := ⟨by decide +kernel, rfl⟩
theorem m_X1_putBelow : jmV yX1_putBelow cX1_putBelow 3 none 2 := ⟨⟨(jj_m (w := Cond.code yX1_putBelow cX1_putBelow 3 none) (List.mem_of_getElem? (i := 432) (by decide +kernel)) rfl), (jj_m (w := Cond.initialized yX1_putBelow.cls) (List.mem_of_getElem? (i := 66) (by decide +kernel)) rfl), ⟨by decide, by decide⟩, by decide +kernel⟩, (jj_m (w := Cond.instanceMethod yX1_putBelow) (List.mem_of_getElem? (i := 430) (by decide +kernel)) rfl), (jj_m (w := Cond.selects yX1_putBelow.cls yX1_putBelow yX1_putBelow) (List.mem_of_getElem? (i := 431) (by decide +kernel)) rfl)⟩
def fX1_putBelow (i1 : Int32) (i2 : Int32) (S : M2) : Option (M2) :=
  bnd i2 3 <|
  if (S 6 i2.toNatClampNeg) < (5 : Int32) then
    bnd i2 3 <|
    bnd ((i2 * (5 : Int32)) + (S 6 i2.toNatClampNeg)) 15 <|
    lt (va_up S 5 (upd (S 5) ((i2 * (5 : Int32)) + (S 6 i2.toNatClampNeg)).toNatClampNeg i1)) fun S1 =>
    bnd i2 3 <|
    bnd i2 3 <|
    lt (va_up S1 6 (upd (S1 6) i2.toNatClampNeg ((S1 6 i2.toNatClampNeg) + (1 : Int32)))) fun S2 =>
    some S2
  else
    some S

set_option maxHeartbeats 4000000 in
set_option maxRecDepth 100000 in
theorem tX1_putBelow (l : Launch) {V : JV M2} {b : Nat} {a : Nat → Nat} (hv : vX1 V b a) (S : M2) (i1 : Int32) (i2 : Int32) : JC l V yX1_putBelow cX1_putBelow 3 none jj_v 0 [.ref b, .int i1, .int i2] S ((fX1_putBelow i1 i2 S).map (fun q => ((), q))) := by
  refine jj_of (by decide) (Nat.le_of_ble_eq_true rfl) (fun E hlE hE => ?_)
  unfold fX1_putBelow
  refine J_sub (L' := [(0, .ref b), (1, .int i1), (2, .int i2)]) [0, 1, 2] rfl ?_
  refine J_aload_n hE dd_X1_putBelow_0 0 rfl rfl ?_
  refine J_get hE (hv.ob _) jc_X1 6 (by decide) fl_RX1_24 (v := .ref (a 6)) rfl dd_X1_putBelow_1 ?_
  refine J_iload_n hE dd_X1_putBelow_4 2 rfl rfl ?_
  refine J_ald hE (hv.arr 6 (n := 3) (ty := .int) (by decide) _) dd_X1_putBelow_5 ?_
  refine J_iconst hE (v := (5 : Int32)) dd_X1_putBelow_6 (by decide) ?_
  refine J_icmp_lt hE (tgt := 11) dd_X1_putBelow_7 (by decide) (fun c3 => ?_) (fun c3 => ?_)
  · refine J_aload_n hE dd_X1_putBelow_11 0 rfl rfl ?_
    refine J_get hE (hv.ob _) jc_X1 5 (by decide) fl_RX1_21 (v := .ref (a 5)) rfl dd_X1_putBelow_12 ?_
    refine J_iload_n hE dd_X1_putBelow_15 2 rfl rfl ?_
    refine J_iconst hE (v := (5 : Int32)) dd_X1_putBelow_16 (by decide) ?_
    refine J_imul hE dd_X1_putBelow_17 ?_
    refine J_aload_n hE dd_X1_putBelow_18 0 rfl rfl ?_
    refine J_get hE (hv.ob _) jc_X1 6 (by decide) fl_RX1_24 (v := .ref (a 6)) rfl dd_X1_putBelow_19 ?_
    refine J_iload_n hE dd_X1_putBelow_22 2 rfl rfl ?_
    refine J_ald hE (hv.arr 6 (n := 3) (ty := .int) (by decide) _) dd_X1_putBelow_23 ?_
    refine J_iadd hE dd_X1_putBelow_24 ?_
    refine J_iload_n hE dd_X1_putBelow_25 1 rfl rfl ?_
    refine J_ast hE hv 5 (N := 15) (by decide) dd_X1_putBelow_26 ?_
    refine J_letS (fun S1 => ?_)
    refine J_aload_n hE dd_X1_putBelow_27 0 rfl rfl ?_
    refine J_get hE (hv.ob _) jc_X1 6 (by decide) fl_RX1_24 (v := .ref (a 6)) rfl dd_X1_putBelow_28 ?_
    refine J_iload_n hE dd_X1_putBelow_31 2 rfl rfl ?_
    refine J_dup2 hE dd_X1_putBelow_32 rfl rfl ?_
    refine J_ald hE (hv.arr 6 (n := 3) (ty := .int) (by decide) _) dd_X1_putBelow_33 ?_
    refine J_iconst hE (v := (1 : Int32)) dd_X1_putBelow_34 (by decide) ?_
    refine J_iadd hE dd_X1_putBelow_35 ?_
    refine J_ast hE hv 6 (N := 3) (by decide) dd_X1_putBelow_36 ?_
    refine J_letS (fun S2 => ?_)
    exact J_vret hE dd_X1_putBelow_37 rfl rfl
  · exact J_vret hE dd_X1_putBelow_10 rfl rfl
theorem dd_X1_addBolt_0 : jd cX1_addBolt 0 (.aload_n 0) 1 1 := ⟨by decide +kernel, rfl⟩
theorem dd_X1_addBolt_1 : jd cX1_addBolt 1 (.getfield 49) 3 4 := ⟨by decide +kernel, rfl⟩
theorem dd_X1_addBolt_4 : jd cX1_addBolt 4 (.iconst 5) 1 5 := ⟨by decide +kernel, rfl⟩
theorem dd_X1_addBolt_9 : jd cX1_addBolt 9 (.aload_n 0) 1 10 := ⟨by decide +kernel, rfl⟩
theorem dd_X1_addBolt_10 : jd cX1_addBolt 10 (.getfield 49) 3 13 := ⟨by decide +kernel, rfl⟩
theorem dd_X1_addBolt_13 : jd cX1_addBolt 13 (.istore 4) 2 15 := ⟨by decide +kernel, rfl⟩
theorem dd_X1_addBolt_15 : jd cX1_addBolt 15 (.aload_n 0) 1 16 := ⟨by decide +kernel, rfl⟩
theorem dd_X1_addBolt_16 : jd cX1_addBolt 16 (.dup) 1 17 := ⟨by decide +kernel, rfl⟩
theorem dd_X1_addBolt_17 : jd cX1_addBolt 17 (.getfield 49) 3 20 := ⟨by decide +kernel, rfl⟩
theorem dd_X1_addBolt_20 : jd cX1_addBolt 20 (.iconst 1) 1 21 := ⟨by decide +kernel, rfl⟩
theorem dd_X1_addBolt_21 : jd cX1_addBolt 21 (.iadd) 1 22 := ⟨by decide +kernel, rfl⟩
theorem dd_X1_addBolt_22 : jd cX1_addBolt 22 (.putfield 49) 3 25 := ⟨by decide +kernel, rfl⟩
theorem dd_X1_addBolt_25 : jd cX1_addBolt 25 (.aload_n 0) 1 26 := ⟨by decide +kernel, rfl⟩
theorem dd_X1_addBolt_26 : jd cX1_addBolt 26 (.getfield 9) 3 29 := ⟨by decide +kernel, rfl⟩
theorem dd_X1_addBolt_29 : jd cX1_addBolt 29 (.iload 4) 2 31 := ⟨by decide +kernel, rfl⟩
theorem dd_X1_addBolt_31 : jd cX1_addBolt 31 (.iload_n 1) 1 32 := ⟨by decide +kernel, rfl⟩
theorem dd_X1_addBolt_32 : jd cX1_addBolt 32 (.iastore) 1 33 := ⟨by decide +kernel, rfl⟩
theorem dd_X1_addBolt_33 : jd cX1_addBolt 33 (.aload_n 0) 1 34 := ⟨by decide +kernel, rfl⟩
theorem dd_X1_addBolt_34 : jd cX1_addBolt 34 (.getfield 15) 3 37 := ⟨by decide +kernel, rfl⟩
theorem dd_X1_addBolt_37 : jd cX1_addBolt 37 (.iload 4) 2 39 := ⟨by decide +kernel, rfl⟩
theorem dd_X1_addBolt_39 : jd cX1_addBolt 39 (.iload_n 2) 1 40 := ⟨by decide +kernel, rfl⟩
theorem dd_X1_addBolt_40 : jd cX1_addBolt 40 (.iastore) 1 41 := ⟨by decide +kernel, rfl⟩
theorem dd_X1_addBolt_41 : jd cX1_addBolt 41 (.aload_n 0) 1 42 := ⟨by decide +kernel, rfl⟩
theorem dd_X1_addBolt_42 : jd cX1_addBolt 42 (.getfield 18) 3 45 := ⟨by decide +kernel, rfl⟩
theorem dd_X1_addBolt_45 : jd cX1_addBolt 45 (.iload 4) 2 47 := ⟨by decide +kernel, rfl⟩
theorem dd_X1_addBolt_47 : jd cX1_addBolt 47 (.iconst 0) 1 48 := ⟨by decide +kernel, rfl⟩
theorem dd_X1_addBolt_48 : jd cX1_addBolt 48 (.iastore) 1 49 := ⟨by decide +kernel, rfl⟩
theorem dd_X1_addBolt_49 : jd cX1_addBolt 49 (.aload_n 0) 1 50 := ⟨by decide +kernel, rfl⟩
theorem dd_X1_addBolt_50 : jd cX1_addBolt 50 (.iload 4) 2 52 := ⟨by decide +kernel, rfl⟩
theorem dd_X1_addBolt_52 : jd cX1_addBolt 52 (.iload_n 3) 1 53 := ⟨by decide +kernel, rfl⟩
theorem ml_RX1_84 : (Cond.methodLink "MothCustoms$Shed" 84 yX1_putBelow : Cond) ∈ jj_tb := jj_m (List.mem_of_getElem? (i := 429) (by decide +kernel)) rfl
theorem dd_X1_addBolt_53 : jd cX1_addBolt 53 (.invokevirtual 84) 3 56 := ⟨by decide +kernel, rfl⟩
theorem dd_X1_addBolt_56 : jd cX1_addBolt 56 (.return_) 1 57 := ⟨by decide +kernel, rfl⟩
theorem dd_X1_addBolt_8 : jd cX1_addBolt 8 (.return_) 1 9 := ⟨by decide +kernel, rfl⟩
theorem dd_X1_addBolt_5 : jd cX1_addBolt 5 (.if_icmp .lt 4) 3 8 := ⟨by decide +kernel, rfl⟩
theorem m_X1_addBolt : jmV yX1_addBolt cX1_addBolt 5 none 3 := ⟨⟨(jj_m (w := Cond.code yX1_addBolt cX1_addBolt 5 none) (List.mem_of_getElem? (i := 428) (by decide +kernel)) rfl), (jj_m (w := Cond.initialized yX1_addBolt.cls) (List.mem_of_getElem? (i := 66) (by decide +kernel)) rfl), ⟨by decide, by decide⟩, by decide +kernel⟩, (jj_m (w := Cond.instanceMethod yX1_addBolt) (List.mem_of_getElem? (i := 426) (by decide +kernel)) rfl), (jj_m (w := Cond.selects yX1_addBolt.cls yX1_addBolt yX1_addBolt) (List.mem_of_getElem? (i := 427) (by decide +kernel)) rfl)⟩
def fX1_addBolt (i1 : Int32) (i2 : Int32) (i3 : Int32) (S : M2) : Option (M2) :=
  if (S 0 0) < (5 : Int32) then
    lt ((S 0 0)) fun x1 =>
    lt (va_up S 0 (fun _ => ((S 0 0) + (1 : Int32)))) fun S2 =>
    bnd x1 5 <|
    lt (va_up S2 1 (upd (S2 1) x1.toNatClampNeg i1)) fun S3 =>
    bnd x1 5 <|
    lt (va_up S3 2 (upd (S3 2) x1.toNatClampNeg i2)) fun S4 =>
    bnd x1 5 <|
    lt (va_up S4 3 (upd (S4 3) x1.toNatClampNeg (0 : Int32))) fun S5 =>
    (fX1_putBelow x1 i3 S5).bind fun q6 =>
    lt (q6) fun S7 =>
    some S7
  else
    some S

set_option maxHeartbeats 4000000 in
set_option maxRecDepth 100000 in
theorem tX1_addBolt (l : Launch) {V : JV M2} {b : Nat} {a : Nat → Nat} (hv : vX1 V b a) (S : M2) (i1 : Int32) (i2 : Int32) (i3 : Int32) : JC l V yX1_addBolt cX1_addBolt 5 none jj_v 1 [.ref b, .int i1, .int i2, .int i3] S ((fX1_addBolt i1 i2 i3 S).map (fun q => ((), q))) := by
  refine jj_of (by decide) (Nat.le_of_ble_eq_true rfl) (fun E hlE hE => ?_)
  unfold fX1_addBolt
  refine J_sub (L' := [(0, .ref b), (1, .int i1), (2, .int i2), (3, .int i3)]) [0, 1, 2, 3] rfl ?_
  refine J_aload_n hE dd_X1_addBolt_0 0 rfl rfl ?_
  refine J_get hE (hv.ob _) jc_X1 0 (by decide) fl_RX1_49 (v := .int (S 0 0)) rfl dd_X1_addBolt_1 ?_
  refine J_iconst hE (v := (5 : Int32)) dd_X1_addBolt_4 (by decide) ?_
  refine J_icmp_lt hE (tgt := 9) dd_X1_addBolt_5 (by decide) (fun c8 => ?_) (fun c8 => ?_)
  · refine J_aload_n hE dd_X1_addBolt_9 0 rfl rfl ?_
    refine J_get hE (hv.ob _) jc_X1 0 (by decide) fl_RX1_49 (v := .int (S 0 0)) rfl dd_X1_addBolt_10 ?_
    refine J_leti (fun x1 => ?_)
    refine J_istore hE (L' := [(4, .int x1), (0, .ref b), (1, .int i1), (2, .int i2), (3, .int i3)]) dd_X1_addBolt_13 (Nat.le_of_ble_eq_true rfl) rfl ?_
    refine J_aload_n hE dd_X1_addBolt_15 1 rfl rfl ?_
    refine J_dup hE dd_X1_addBolt_16 rfl ?_
    refine J_get hE (hv.ob _) jc_X1 0 (by decide) fl_RX1_49 (v := .int (S 0 0)) rfl dd_X1_addBolt_17 ?_
    refine J_iconst hE (v := (1 : Int32)) dd_X1_addBolt_20 (by decide) ?_
    refine J_iadd hE dd_X1_addBolt_21 ?_
    refine J_put hE hv jc_X1 0 (by decide) (by decide) fl_RX1_49 rfl rfl rfl (Nat.le_of_ble_eq_true rfl) dd_X1_addBolt_22 ?_
    refine J_letS (fun S2 => ?_)
    refine J_aload_n hE dd_X1_addBolt_25 1 rfl rfl ?_
    refine J_get hE (hv.ob _) jc_X1 1 (by decide) fl_RX1_9 (v := .ref (a 1)) rfl dd_X1_addBolt_26 ?_
    refine J_iload hE dd_X1_addBolt_29 0 rfl ?_
    refine J_iload_n hE dd_X1_addBolt_31 2 rfl rfl ?_
    refine J_ast hE hv 1 (N := 5) (by decide) dd_X1_addBolt_32 ?_
    refine J_letS (fun S3 => ?_)
    refine J_aload_n hE dd_X1_addBolt_33 1 rfl rfl ?_
    refine J_get hE (hv.ob _) jc_X1 2 (by decide) fl_RX1_15 (v := .ref (a 2)) rfl dd_X1_addBolt_34 ?_
    refine J_iload hE dd_X1_addBolt_37 0 rfl ?_
    refine J_iload_n hE dd_X1_addBolt_39 3 rfl rfl ?_
    refine J_ast hE hv 2 (N := 5) (by decide) dd_X1_addBolt_40 ?_
    refine J_letS (fun S4 => ?_)
    refine J_aload_n hE dd_X1_addBolt_41 1 rfl rfl ?_
    refine J_get hE (hv.ob _) jc_X1 3 (by decide) fl_RX1_18 (v := .ref (a 3)) rfl dd_X1_addBolt_42 ?_
    refine J_iload hE dd_X1_addBolt_45 0 rfl ?_
    refine J_iconst hE (v := (0 : Int32)) dd_X1_addBolt_47 (by decide) ?_
    refine J_ast hE hv 3 (N := 5) (by decide) dd_X1_addBolt_48 ?_
    refine J_letS (fun S5 => ?_)
    refine J_aload_n hE dd_X1_addBolt_49 1 rfl rfl ?_
    refine J_iload hE dd_X1_addBolt_50 0 rfl ?_
    refine J_iload_n hE dd_X1_addBolt_52 4 rfl rfl ?_
    refine J_invVwv hE (e := fun x => x) (As := [.int x1, .int i3]) (st := []) (tX1_putBelow E.2.1 hv S5 x1 i3) (hv.ob _) m_X1_putBelow rfl ml_RX1_84 (Nat.le_of_ble_eq_true rfl) (Nat.le_of_ble_eq_true rfl) rfl (Nat.le_of_ble_eq_true rfl) dd_X1_addBolt_53 (fun q6 => ?_)
    refine J_letS (fun S7 => ?_)
    exact J_vret hE dd_X1_addBolt_56 rfl rfl
  · exact J_vret hE dd_X1_addBolt_8 rfl rfl
theorem dd_X1_addMoth_0 : jd cX1_addMoth 0 (.aload_n 0) 1 1 := ⟨by decide +kernel, rfl⟩
theorem dd_X1_addMoth_1 : jd cX1_addMoth 1 (.getfield 55) 3 4 := ⟨by decide +kernel, rfl⟩
theorem dd_X1_addMoth_4 : jd cX1_addMoth 4 (.iconst 4) 1 5 := ⟨by decide +kernel, rfl⟩
theorem dd_X1_addMoth_9 : jd cX1_addMoth 9 (.aload_n 0) 1 10 := ⟨by decide +kernel, rfl⟩
theorem dd_X1_addMoth_10 : jd cX1_addMoth 10 (.getfield 55) 3 13 := ⟨by decide +kernel, rfl⟩
theorem dd_X1_addMoth_13 : jd cX1_addMoth 13 (.istore 5) 2 15 := ⟨by decide +kernel, rfl⟩
theorem dd_X1_addMoth_15 : jd cX1_addMoth 15 (.aload_n 0) 1 16 := ⟨by decide +kernel, rfl⟩
theorem dd_X1_addMoth_16 : jd cX1_addMoth 16 (.dup) 1 17 := ⟨by decide +kernel, rfl⟩
theorem dd_X1_addMoth_17 : jd cX1_addMoth 17 (.getfield 55) 3 20 := ⟨by decide +kernel, rfl⟩
theorem dd_X1_addMoth_20 : jd cX1_addMoth 20 (.iconst 1) 1 21 := ⟨by decide +kernel, rfl⟩
theorem dd_X1_addMoth_21 : jd cX1_addMoth 21 (.iadd) 1 22 := ⟨by decide +kernel, rfl⟩
theorem dd_X1_addMoth_22 : jd cX1_addMoth 22 (.putfield 55) 3 25 := ⟨by decide +kernel, rfl⟩
theorem dd_X1_addMoth_25 : jd cX1_addMoth 25 (.aload_n 0) 1 26 := ⟨by decide +kernel, rfl⟩
theorem dd_X1_addMoth_26 : jd cX1_addMoth 26 (.getfield 27) 3 29 := ⟨by decide +kernel, rfl⟩
theorem dd_X1_addMoth_29 : jd cX1_addMoth 29 (.iload 5) 2 31 := ⟨by decide +kernel, rfl⟩
theorem dd_X1_addMoth_31 : jd cX1_addMoth 31 (.iload_n 1) 1 32 := ⟨by decide +kernel, rfl⟩
theorem dd_X1_addMoth_32 : jd cX1_addMoth 32 (.iastore) 1 33 := ⟨by decide +kernel, rfl⟩
theorem dd_X1_addMoth_33 : jd cX1_addMoth 33 (.aload_n 0) 1 34 := ⟨by decide +kernel, rfl⟩
theorem dd_X1_addMoth_34 : jd cX1_addMoth 34 (.getfield 30) 3 37 := ⟨by decide +kernel, rfl⟩
theorem dd_X1_addMoth_37 : jd cX1_addMoth 37 (.iload 5) 2 39 := ⟨by decide +kernel, rfl⟩
theorem dd_X1_addMoth_39 : jd cX1_addMoth 39 (.iload_n 2) 1 40 := ⟨by decide +kernel, rfl⟩
theorem dd_X1_addMoth_40 : jd cX1_addMoth 40 (.iastore) 1 41 := ⟨by decide +kernel, rfl⟩
theorem dd_X1_addMoth_41 : jd cX1_addMoth 41 (.aload_n 0) 1 42 := ⟨by decide +kernel, rfl⟩
theorem dd_X1_addMoth_42 : jd cX1_addMoth 42 (.getfield 33) 3 45 := ⟨by decide +kernel, rfl⟩
theorem dd_X1_addMoth_45 : jd cX1_addMoth 45 (.iload 5) 2 47 := ⟨by decide +kernel, rfl⟩
theorem dd_X1_addMoth_47 : jd cX1_addMoth 47 (.iload_n 3) 1 48 := ⟨by decide +kernel, rfl⟩
theorem dd_X1_addMoth_48 : jd cX1_addMoth 48 (.iastore) 1 49 := ⟨by decide +kernel, rfl⟩
theorem dd_X1_addMoth_49 : jd cX1_addMoth 49 (.aload_n 0) 1 50 := ⟨by decide +kernel, rfl⟩
theorem dd_X1_addMoth_50 : jd cX1_addMoth 50 (.getfield 36) 3 53 := ⟨by decide +kernel, rfl⟩
theorem dd_X1_addMoth_53 : jd cX1_addMoth 53 (.iload 5) 2 55 := ⟨by decide +kernel, rfl⟩
theorem dd_X1_addMoth_55 : jd cX1_addMoth 55 (.iload 4) 2 57 := ⟨by decide +kernel, rfl⟩
theorem dd_X1_addMoth_57 : jd cX1_addMoth 57 (.iastore) 1 58 := ⟨by decide +kernel, rfl⟩
theorem dd_X1_addMoth_58 : jd cX1_addMoth 58 (.return_) 1 59 := ⟨by decide +kernel, rfl⟩
theorem dd_X1_addMoth_8 : jd cX1_addMoth 8 (.return_) 1 9 := ⟨by decide +kernel, rfl⟩
theorem dd_X1_addMoth_5 : jd cX1_addMoth 5 (.if_icmp .lt 4) 3 8 := ⟨by decide +kernel, rfl⟩
theorem m_X1_addMoth : jmV yX1_addMoth cX1_addMoth 6 none 4 := ⟨⟨(jj_m (w := Cond.code yX1_addMoth cX1_addMoth 6 none) (List.mem_of_getElem? (i := 436) (by decide +kernel)) rfl), (jj_m (w := Cond.initialized yX1_addMoth.cls) (List.mem_of_getElem? (i := 66) (by decide +kernel)) rfl), ⟨by decide, by decide⟩, by decide +kernel⟩, (jj_m (w := Cond.instanceMethod yX1_addMoth) (List.mem_of_getElem? (i := 434) (by decide +kernel)) rfl), (jj_m (w := Cond.selects yX1_addMoth.cls yX1_addMoth yX1_addMoth) (List.mem_of_getElem? (i := 435) (by decide +kernel)) rfl)⟩
def fX1_addMoth (i1 : Int32) (i2 : Int32) (i3 : Int32) (i4 : Int32) (S : M2) : Option (M2) :=
  if (S 7 0) < (4 : Int32) then
    lt ((S 7 0)) fun x1 =>
    lt (va_up S 7 (fun _ => ((S 7 0) + (1 : Int32)))) fun S2 =>
    bnd x1 4 <|
    lt (va_up S2 8 (upd (S2 8) x1.toNatClampNeg i1)) fun S3 =>
    bnd x1 4 <|
    lt (va_up S3 9 (upd (S3 9) x1.toNatClampNeg i2)) fun S4 =>
    bnd x1 4 <|
    lt (va_up S4 10 (upd (S4 10) x1.toNatClampNeg i3)) fun S5 =>
    bnd x1 4 <|
    lt (va_up S5 11 (upd (S5 11) x1.toNatClampNeg i4)) fun S6 =>
    some S6
  else
    some S

set_option maxHeartbeats 4000000 in
set_option maxRecDepth 100000 in
theorem tX1_addMoth (l : Launch) {V : JV M2} {b : Nat} {a : Nat → Nat} (hv : vX1 V b a) (S : M2) (i1 : Int32) (i2 : Int32) (i3 : Int32) (i4 : Int32) : JC l V yX1_addMoth cX1_addMoth 6 none jj_v 0 [.ref b, .int i1, .int i2, .int i3, .int i4] S ((fX1_addMoth i1 i2 i3 i4 S).map (fun q => ((), q))) := by
  refine jj_of (by decide) (Nat.le_of_ble_eq_true rfl) (fun E hlE hE => ?_)
  unfold fX1_addMoth
  refine J_sub (L' := [(0, .ref b), (1, .int i1), (2, .int i2), (3, .int i3), (4, .int i4)]) [0, 1, 2, 3, 4] rfl ?_
  refine J_aload_n hE dd_X1_addMoth_0 0 rfl rfl ?_
  refine J_get hE (hv.ob _) jc_X1 7 (by decide) fl_RX1_55 (v := .int (S 7 0)) rfl dd_X1_addMoth_1 ?_
  refine J_iconst hE (v := (4 : Int32)) dd_X1_addMoth_4 (by decide) ?_
  refine J_icmp_lt hE (tgt := 9) dd_X1_addMoth_5 (by decide) (fun c7 => ?_) (fun c7 => ?_)
  · refine J_aload_n hE dd_X1_addMoth_9 0 rfl rfl ?_
    refine J_get hE (hv.ob _) jc_X1 7 (by decide) fl_RX1_55 (v := .int (S 7 0)) rfl dd_X1_addMoth_10 ?_
    refine J_leti (fun x1 => ?_)
    refine J_istore hE (L' := [(5, .int x1), (0, .ref b), (1, .int i1), (2, .int i2), (3, .int i3), (4, .int i4)]) dd_X1_addMoth_13 (Nat.le_of_ble_eq_true rfl) rfl ?_
    refine J_aload_n hE dd_X1_addMoth_15 1 rfl rfl ?_
    refine J_dup hE dd_X1_addMoth_16 rfl ?_
    refine J_get hE (hv.ob _) jc_X1 7 (by decide) fl_RX1_55 (v := .int (S 7 0)) rfl dd_X1_addMoth_17 ?_
    refine J_iconst hE (v := (1 : Int32)) dd_X1_addMoth_20 (by decide) ?_
    refine J_iadd hE dd_X1_addMoth_21 ?_
    refine J_put hE hv jc_X1 7 (by decide) (by decide) fl_RX1_55 rfl rfl rfl (Nat.le_of_ble_eq_true rfl) dd_X1_addMoth_22 ?_
    refine J_letS (fun S2 => ?_)
    refine J_aload_n hE dd_X1_addMoth_25 1 rfl rfl ?_
    refine J_get hE (hv.ob _) jc_X1 8 (by decide) fl_RX1_27 (v := .ref (a 8)) rfl dd_X1_addMoth_26 ?_
    refine J_iload hE dd_X1_addMoth_29 0 rfl ?_
    refine J_iload_n hE dd_X1_addMoth_31 2 rfl rfl ?_
    refine J_ast hE hv 8 (N := 4) (by decide) dd_X1_addMoth_32 ?_
    refine J_letS (fun S3 => ?_)
    refine J_aload_n hE dd_X1_addMoth_33 1 rfl rfl ?_
    refine J_get hE (hv.ob _) jc_X1 9 (by decide) fl_RX1_30 (v := .ref (a 9)) rfl dd_X1_addMoth_34 ?_
    refine J_iload hE dd_X1_addMoth_37 0 rfl ?_
    refine J_iload_n hE dd_X1_addMoth_39 3 rfl rfl ?_
    refine J_ast hE hv 9 (N := 4) (by decide) dd_X1_addMoth_40 ?_
    refine J_letS (fun S4 => ?_)
    refine J_aload_n hE dd_X1_addMoth_41 1 rfl rfl ?_
    refine J_get hE (hv.ob _) jc_X1 10 (by decide) fl_RX1_33 (v := .ref (a 10)) rfl dd_X1_addMoth_42 ?_
    refine J_iload hE dd_X1_addMoth_45 0 rfl ?_
    refine J_iload_n hE dd_X1_addMoth_47 4 rfl rfl ?_
    refine J_ast hE hv 10 (N := 4) (by decide) dd_X1_addMoth_48 ?_
    refine J_letS (fun S5 => ?_)
    refine J_aload_n hE dd_X1_addMoth_49 1 rfl rfl ?_
    refine J_get hE (hv.ob _) jc_X1 11 (by decide) fl_RX1_36 (v := .ref (a 11)) rfl dd_X1_addMoth_50 ?_
    refine J_iload hE dd_X1_addMoth_53 0 rfl ?_
    refine J_iload hE dd_X1_addMoth_55 5 rfl ?_
    refine J_ast hE hv 11 (N := 4) (by decide) dd_X1_addMoth_57 ?_
    refine J_letS (fun S6 => ?_)
    exact J_vret hE dd_X1_addMoth_58 rfl rfl
  · exact J_vret hE dd_X1_addMoth_8 rfl rfl
theorem dd_X1_spotOf_0 : jd cX1_spotOf 0 (.iconst 0) 1 1 := ⟨by decide +kernel, rfl⟩
theorem dd_X1_spotOf_1 : jd cX1_spotOf 1 (.istore_n 2) 1 2 := ⟨by decide +kernel, rfl⟩
theorem dd_X1_spotOf_2 : jd cX1_spotOf 2 (.iload_n 2) 1 3 := ⟨by decide +kernel, rfl⟩
theorem dd_X1_spotOf_3 : jd cX1_spotOf 3 (.iconst 3) 1 4 := ⟨by decide +kernel, rfl⟩
theorem dd_X1_spotOf_7 : jd cX1_spotOf 7 (.iconst 0) 1 8 := ⟨by decide +kernel, rfl⟩
theorem dd_X1_spotOf_8 : jd cX1_spotOf 8 (.istore_n 3) 1 9 := ⟨by decide +kernel, rfl⟩
theorem dd_X1_spotOf_9 : jd cX1_spotOf 9 (.iload_n 3) 1 10 := ⟨by decide +kernel, rfl⟩
theorem dd_X1_spotOf_10 : jd cX1_spotOf 10 (.aload_n 0) 1 11 := ⟨by decide +kernel, rfl⟩
theorem dd_X1_spotOf_11 : jd cX1_spotOf 11 (.getfield 24) 3 14 := ⟨by decide +kernel, rfl⟩
theorem dd_X1_spotOf_14 : jd cX1_spotOf 14 (.iload_n 2) 1 15 := ⟨by decide +kernel, rfl⟩
theorem dd_X1_spotOf_15 : jd cX1_spotOf 15 (.iaload) 1 16 := ⟨by decide +kernel, rfl⟩
theorem dd_X1_spotOf_19 : jd cX1_spotOf 19 (.aload_n 0) 1 20 := ⟨by decide +kernel, rfl⟩
theorem dd_X1_spotOf_20 : jd cX1_spotOf 20 (.getfield 21) 3 23 := ⟨by decide +kernel, rfl⟩
theorem dd_X1_spotOf_23 : jd cX1_spotOf 23 (.iload_n 2) 1 24 := ⟨by decide +kernel, rfl⟩
theorem dd_X1_spotOf_24 : jd cX1_spotOf 24 (.iconst 5) 1 25 := ⟨by decide +kernel, rfl⟩
theorem dd_X1_spotOf_25 : jd cX1_spotOf 25 (.imul) 1 26 := ⟨by decide +kernel, rfl⟩
theorem dd_X1_spotOf_26 : jd cX1_spotOf 26 (.iload_n 3) 1 27 := ⟨by decide +kernel, rfl⟩
theorem dd_X1_spotOf_27 : jd cX1_spotOf 27 (.iadd) 1 28 := ⟨by decide +kernel, rfl⟩
theorem dd_X1_spotOf_28 : jd cX1_spotOf 28 (.iaload) 1 29 := ⟨by decide +kernel, rfl⟩
theorem dd_X1_spotOf_29 : jd cX1_spotOf 29 (.iload_n 1) 1 30 := ⟨by decide +kernel, rfl⟩
theorem dd_X1_spotOf_39 : jd cX1_spotOf 39 (.iinc 3 1) 3 42 := ⟨by decide +kernel, rfl⟩
theorem dd_X1_spotOf_42 : jd cX1_spotOf 42 (.goto (-33)) 3 45 := ⟨by decide +kernel, rfl⟩
theorem dd_X1_spotOf_33 : jd cX1_spotOf 33 (.iload_n 2) 1 34 := ⟨by decide +kernel, rfl⟩
theorem dd_X1_spotOf_34 : jd cX1_spotOf 34 (.iconst 5) 1 35 := ⟨by decide +kernel, rfl⟩
theorem dd_X1_spotOf_35 : jd cX1_spotOf 35 (.imul) 1 36 := ⟨by decide +kernel, rfl⟩
theorem dd_X1_spotOf_36 : jd cX1_spotOf 36 (.iload_n 3) 1 37 := ⟨by decide +kernel, rfl⟩
theorem dd_X1_spotOf_37 : jd cX1_spotOf 37 (.iadd) 1 38 := ⟨by decide +kernel, rfl⟩
theorem dd_X1_spotOf_38 : jd cX1_spotOf 38 (.ireturn) 1 39 := ⟨by decide +kernel, rfl⟩
theorem dd_X1_spotOf_30 : jd cX1_spotOf 30 (.if_icmp .ne 9) 3 33 := ⟨by decide +kernel, rfl⟩
theorem dd_X1_spotOf_16 : jd cX1_spotOf 16 (.if_icmp .ge 29) 3 19 := ⟨by decide +kernel, rfl⟩
theorem dd_X1_spotOf_45 : jd cX1_spotOf 45 (.iinc 2 1) 3 48 := ⟨by decide +kernel, rfl⟩
theorem dd_X1_spotOf_48 : jd cX1_spotOf 48 (.goto (-46)) 3 51 := ⟨by decide +kernel, rfl⟩
theorem dd_X1_spotOf_4 : jd cX1_spotOf 4 (.if_icmp .ge 47) 3 7 := ⟨by decide +kernel, rfl⟩
theorem dd_X1_spotOf_51 : jd cX1_spotOf 51 (.iconst 0) 1 52 := ⟨by decide +kernel, rfl⟩
theorem dd_X1_spotOf_52 : jd cX1_spotOf 52 (.ireturn) 1 53 := ⟨by decide +kernel, rfl⟩
theorem m_X1_spotOf : jmV yX1_spotOf cX1_spotOf 4 (some .int) 1 := ⟨⟨(jj_m (w := Cond.code yX1_spotOf cX1_spotOf 4 (some .int)) (List.mem_of_getElem? (i := 485) (by decide +kernel)) rfl), (jj_m (w := Cond.initialized yX1_spotOf.cls) (List.mem_of_getElem? (i := 66) (by decide +kernel)) rfl), ⟨by decide, by decide⟩, by decide +kernel⟩, (jj_m (w := Cond.instanceMethod yX1_spotOf) (List.mem_of_getElem? (i := 483) (by decide +kernel)) rfl), (jj_m (w := Cond.selects yX1_spotOf.cls yX1_spotOf yX1_spotOf) (List.mem_of_getElem? (i := 484) (by decide +kernel)) rfl)⟩
def fX1_spotOf_L9 (S : M2) (i1 : Int32) (v1 : Int32) (k45 : Unit → Option (Int32)) : Nat → Int32 → Option (Int32)
  | 0, _ => none
  | n_ + 1, v2 =>
    bnd v1 3 <|
    if (S 6 v1.toNatClampNeg) ≤ v2 then
      k45 ()
    else
      bnd ((v1 * (5 : Int32)) + v2) 15 <|
      if (S 5 ((v1 * (5 : Int32)) + v2).toNatClampNeg) = i1 then
        some ((v1 * (5 : Int32)) + v2)
      else
        lt (v2 + (1 : Int32)) fun x3 =>
        fX1_spotOf_L9 S i1 v1 k45 n_ x3

def fX1_spotOf_L2 (S : M2) (i1 : Int32) (k51 : Unit → Option (Int32)) : Nat → Int32 → Option (Int32)
  | 0, _ => none
  | n_ + 1, v1 =>
    if (3 : Int32) ≤ v1 then
      k51 ()
    else
      fX1_spotOf_L9 S i1 v1
        (fun _ =>
          lt (v1 + (1 : Int32)) fun x7 =>
          fX1_spotOf_L2 S i1 k51 n_ x7)
        400 (0 : Int32)

def fX1_spotOf (i1 : Int32) (S : M2) : Option (Int32) :=
  fX1_spotOf_L2 S i1
    (fun _ =>
      some (0 : Int32))
    400 (0 : Int32)

set_option maxHeartbeats 4000000 in
set_option maxRecDepth 100000 in
theorem tX1_spotOf_L9 {V : JV M2} {b : Nat} {a : Nat → Nat} (hv : vX1 V b a) (S : M2) (i1 : Int32) (v1 : Int32) {E : JE (M2) Int32} (hE : JOk V E cX1_spotOf yX1_spotOf.cls 4 0 (some .int) jj_i) {k45 : Unit → Option (Int32)} (hk45 : ∀ p, J V E (fun r => (r, S)) (k45 p) 45 [(0, .ref b), (1, .int i1), (2, .int v1)] [] S) : ∀ (n_ : Nat) (v2 : Int32), J V E (fun r => (r, S)) (fX1_spotOf_L9 S i1 v1 k45 n_ v2) 9 [(0, .ref b), (1, .int i1), (2, .int v1), (3, .int v2)] [] S := by
  intro n_
  induction n_ with
  | zero =>
    intros
    exact J_none
  | succ n_ ih =>
    intros v2
    rw [fX1_spotOf_L9]
    refine J_iload_n hE dd_X1_spotOf_9 3 rfl rfl ?_
    refine J_aload_n hE dd_X1_spotOf_10 0 rfl rfl ?_
    refine J_get hE (hv.ob _) jc_X1 6 (by decide) fl_RX1_24 (v := .ref (a 6)) rfl dd_X1_spotOf_11 ?_
    refine J_iload_n hE dd_X1_spotOf_14 2 rfl rfl ?_
    refine J_ald hE (hv.arr 6 (n := 3) (ty := .int) (by decide) _) dd_X1_spotOf_15 ?_
    refine J_icmp_ge hE (tgt := 45) dd_X1_spotOf_16 (by decide) (fun c5 => ?_) (fun c5 => ?_)
    · refine J_sub [0, 1, 2] rfl ?_
      exact hk45 ()
    · refine J_aload_n hE dd_X1_spotOf_19 0 rfl rfl ?_
      refine J_get hE (hv.ob _) jc_X1 5 (by decide) fl_RX1_21 (v := .ref (a 5)) rfl dd_X1_spotOf_20 ?_
      refine J_iload_n hE dd_X1_spotOf_23 2 rfl rfl ?_
      refine J_iconst hE (v := (5 : Int32)) dd_X1_spotOf_24 (by decide) ?_
      refine J_imul hE dd_X1_spotOf_25 ?_
      refine J_iload_n hE dd_X1_spotOf_26 3 rfl rfl ?_
      refine J_iadd hE dd_X1_spotOf_27 ?_
      refine J_ald hE (hv.arr 5 (n := 15) (ty := .int) (by decide) _) dd_X1_spotOf_28 ?_
      refine J_iload_n hE dd_X1_spotOf_29 1 rfl rfl ?_
      refine J_icmp_ne hE (tgt := 39) dd_X1_spotOf_30 (by decide) (fun c4 => ?_) (fun c4 => ?_)
      · refine J_iincL hE (v := (v2 + (1 : Int32))) (Lf := fun x3 => [(3, .int x3), (0, .ref b), (1, .int i1), (2, .int v1)]) dd_X1_spotOf_39 (j := 3) rfl (congrArg (v2 + ·) (by decide)) (Nat.le_of_ble_eq_true rfl) (fun _ => rfl) (fun x3 => ?_)
        refine J_goto hE (tgt := 9) dd_X1_spotOf_42 (by decide) ?_
        refine J_sub [1, 2, 3, 0] rfl ?_
        exact ih x3
      · refine J_iload_n hE dd_X1_spotOf_33 2 rfl rfl ?_
        refine J_iconst hE (v := (5 : Int32)) dd_X1_spotOf_34 (by decide) ?_
        refine J_imul hE dd_X1_spotOf_35 ?_
        refine J_iload_n hE dd_X1_spotOf_36 3 rfl rfl ?_
        refine J_iadd hE dd_X1_spotOf_37 ?_
        exact J_iret hE dd_X1_spotOf_38 rfl rfl
set_option maxHeartbeats 4000000 in
set_option maxRecDepth 100000 in
theorem tX1_spotOf_L2 {V : JV M2} {b : Nat} {a : Nat → Nat} (hv : vX1 V b a) (S : M2) (i1 : Int32) {E : JE (M2) Int32} (hE : JOk V E cX1_spotOf yX1_spotOf.cls 4 0 (some .int) jj_i) {k51 : Unit → Option (Int32)} (hk51 : ∀ p, J V E (fun r => (r, S)) (k51 p) 51 [] [] S) : ∀ (n_ : Nat) (v1 : Int32), J V E (fun r => (r, S)) (fX1_spotOf_L2 S i1 k51 n_ v1) 2 [(0, .ref b), (1, .int i1), (2, .int v1)] [] S := by
  intro n_
  induction n_ with
  | zero =>
    intros
    exact J_none
  | succ n_ ih =>
    intros v1
    rw [fX1_spotOf_L2]
    refine J_iload_n hE dd_X1_spotOf_2 2 rfl rfl ?_
    refine J_iconst hE (v := (3 : Int32)) dd_X1_spotOf_3 (by decide) ?_
    refine J_icmp_ge hE (tgt := 51) dd_X1_spotOf_4 (by decide) (fun c8 => ?_) (fun c8 => ?_)
    · refine J_sub [] rfl ?_
      exact hk51 ()
    · refine J_iconst hE (v := (0 : Int32)) dd_X1_spotOf_7 (by decide) ?_
      refine J_istore_n hE (L' := [(3, .int (0 : Int32)), (0, .ref b), (1, .int i1), (2, .int v1)]) dd_X1_spotOf_8 (Nat.le_of_ble_eq_true rfl) rfl rfl ?_
      refine J_sub [1, 2, 3, 0] rfl ?_
      refine tX1_spotOf_L9 hv S i1 v1 hE (fun _ => ?_) 400 (0 : Int32)
      show J V E _ _ 45 [(0, .ref b), (1, .int i1), (2, .int v1)] [] S
      refine J_iincL hE (v := (v1 + (1 : Int32))) (Lf := fun x7 => [(2, .int x7), (0, .ref b), (1, .int i1)]) dd_X1_spotOf_45 (j := 2) rfl (congrArg (v1 + ·) (by decide)) (Nat.le_of_ble_eq_true rfl) (fun _ => rfl) (fun x7 => ?_)
      refine J_goto hE (tgt := 2) dd_X1_spotOf_48 (by decide) ?_
      refine J_sub [1, 2, 0] rfl ?_
      exact ih x7
set_option maxHeartbeats 4000000 in
set_option maxRecDepth 100000 in
theorem tX1_spotOf (l : Launch) {V : JV M2} {b : Nat} {a : Nat → Nat} (hv : vX1 V b a) (S : M2) (i1 : Int32) : JC l V yX1_spotOf cX1_spotOf 4 (some .int) jj_i 0 [.ref b, .int i1] S ((fX1_spotOf i1 S).map (fun r => (r, S))) := by
  refine jj_of (by decide) (Nat.le_of_ble_eq_true rfl) (fun E hlE hE => ?_)
  unfold fX1_spotOf
  refine J_sub (L' := [(0, .ref b), (1, .int i1)]) [0, 1] rfl ?_
  refine J_iconst hE (v := (0 : Int32)) dd_X1_spotOf_0 (by decide) ?_
  refine J_istore_n hE (L' := [(2, .int (0 : Int32)), (0, .ref b), (1, .int i1)]) dd_X1_spotOf_1 (Nat.le_of_ble_eq_true rfl) rfl rfl ?_
  refine J_sub [1, 2, 0] rfl ?_
  refine tX1_spotOf_L2 hv S i1 hE (fun _ => ?_) 400 (0 : Int32)
  show J V E _ _ 51 [] [] S
  refine J_iconst hE (v := (0 : Int32)) dd_X1_spotOf_51 (by decide) ?_
  exact J_iret hE dd_X1_spotOf_52 rfl rfl
theorem dd_X1_baleOf_0 : jd cX1_baleOf 0 (.aload_n 0) 1 1 := ⟨by decide +kernel, rfl⟩
theorem dd_X1_baleOf_1 : jd cX1_baleOf 1 (.iload_n 1) 1 2 := ⟨by decide +kernel, rfl⟩
theorem ml_RX1_88 : (Cond.methodLink "MothCustoms$Shed" 88 yX1_spotOf : Cond) ∈ jj_tb := jj_m (List.mem_of_getElem? (i := 482) (by decide +kernel)) rfl
theorem dd_X1_baleOf_2 : jd cX1_baleOf 2 (.invokevirtual 88) 3 5 := ⟨by decide +kernel, rfl⟩
theorem dd_X1_baleOf_5 : jd cX1_baleOf 5 (.iconst 5) 1 6 := ⟨by decide +kernel, rfl⟩
theorem dd_X1_baleOf_6 : jd cX1_baleOf 6 (.idiv) 1 7 := ⟨by decide +kernel, rfl⟩
theorem dd_X1_baleOf_7 : jd cX1_baleOf 7 (.ireturn) 1 8 := ⟨by decide +kernel, rfl⟩
theorem m_X1_baleOf : jmV yX1_baleOf cX1_baleOf 2 (some .int) 1 := ⟨⟨(jj_m (w := Cond.code yX1_baleOf cX1_baleOf 2 (some .int)) (List.mem_of_getElem? (i := 481) (by decide +kernel)) rfl), (jj_m (w := Cond.initialized yX1_baleOf.cls) (List.mem_of_getElem? (i := 66) (by decide +kernel)) rfl), ⟨by decide, by decide⟩, by decide +kernel⟩, (jj_m (w := Cond.instanceMethod yX1_baleOf) (List.mem_of_getElem? (i := 479) (by decide +kernel)) rfl), (jj_m (w := Cond.selects yX1_baleOf.cls yX1_baleOf yX1_baleOf) (List.mem_of_getElem? (i := 480) (by decide +kernel)) rfl)⟩
def fX1_baleOf (i1 : Int32) (S : M2) : Option (Int32) :=
  (fX1_spotOf i1 S).bind fun r1 =>
  if (5 : Int32) = 0 then none else
  some (r1 / (5 : Int32))

set_option maxHeartbeats 4000000 in
set_option maxRecDepth 100000 in
theorem tX1_baleOf (l : Launch) {V : JV M2} {b : Nat} {a : Nat → Nat} (hv : vX1 V b a) (S : M2) (i1 : Int32) : JC l V yX1_baleOf cX1_baleOf 2 (some .int) jj_i 1 [.ref b, .int i1] S ((fX1_baleOf i1 S).map (fun r => (r, S))) := by
  refine jj_of (by decide) (Nat.le_of_ble_eq_true rfl) (fun E hlE hE => ?_)
  unfold fX1_baleOf
  refine J_sub (L' := [(0, .ref b), (1, .int i1)]) [0, 1] rfl ?_
  refine J_aload_n hE dd_X1_baleOf_0 0 rfl rfl ?_
  refine J_iload_n hE dd_X1_baleOf_1 1 rfl rfl ?_
  refine J_invVri hE (As := [.int i1]) (st := []) (tX1_spotOf E.2.1 hv S i1) (hv.ob _) m_X1_spotOf rfl ml_RX1_88 (Nat.le_of_ble_eq_true rfl) (Nat.le_of_ble_eq_true rfl) rfl (Nat.le_of_ble_eq_true rfl) dd_X1_baleOf_2 (fun r1 => ?_)
  refine J_iconst hE (v := (5 : Int32)) dd_X1_baleOf_5 (by decide) ?_
  refine J_idiv hE dd_X1_baleOf_6 (fun _ => ?_)
  exact J_iret hE dd_X1_baleOf_7 rfl rfl
theorem dd_X1_layerOf_0 : jd cX1_layerOf 0 (.aload_n 0) 1 1 := ⟨by decide +kernel, rfl⟩
theorem dd_X1_layerOf_1 : jd cX1_layerOf 1 (.iload_n 1) 1 2 := ⟨by decide +kernel, rfl⟩
theorem dd_X1_layerOf_2 : jd cX1_layerOf 2 (.invokevirtual 88) 3 5 := ⟨by decide +kernel, rfl⟩
theorem dd_X1_layerOf_5 : jd cX1_layerOf 5 (.iconst 5) 1 6 := ⟨by decide +kernel, rfl⟩
theorem dd_X1_layerOf_6 : jd cX1_layerOf 6 (.irem) 1 7 := ⟨by decide +kernel, rfl⟩
theorem dd_X1_layerOf_7 : jd cX1_layerOf 7 (.ireturn) 1 8 := ⟨by decide +kernel, rfl⟩
theorem m_X1_layerOf : jmV yX1_layerOf cX1_layerOf 2 (some .int) 1 := ⟨⟨(jj_m (w := Cond.code yX1_layerOf cX1_layerOf 2 (some .int)) (List.mem_of_getElem? (i := 489) (by decide +kernel)) rfl), (jj_m (w := Cond.initialized yX1_layerOf.cls) (List.mem_of_getElem? (i := 66) (by decide +kernel)) rfl), ⟨by decide, by decide⟩, by decide +kernel⟩, (jj_m (w := Cond.instanceMethod yX1_layerOf) (List.mem_of_getElem? (i := 487) (by decide +kernel)) rfl), (jj_m (w := Cond.selects yX1_layerOf.cls yX1_layerOf yX1_layerOf) (List.mem_of_getElem? (i := 488) (by decide +kernel)) rfl)⟩
def fX1_layerOf (i1 : Int32) (S : M2) : Option (Int32) :=
  (fX1_spotOf i1 S).bind fun r1 =>
  if (5 : Int32) = 0 then none else
  some (r1 - r1 / (5 : Int32) * (5 : Int32))

set_option maxHeartbeats 4000000 in
set_option maxRecDepth 100000 in
theorem tX1_layerOf (l : Launch) {V : JV M2} {b : Nat} {a : Nat → Nat} (hv : vX1 V b a) (S : M2) (i1 : Int32) : JC l V yX1_layerOf cX1_layerOf 2 (some .int) jj_i 1 [.ref b, .int i1] S ((fX1_layerOf i1 S).map (fun r => (r, S))) := by
  refine jj_of (by decide) (Nat.le_of_ble_eq_true rfl) (fun E hlE hE => ?_)
  unfold fX1_layerOf
  refine J_sub (L' := [(0, .ref b), (1, .int i1)]) [0, 1] rfl ?_
  refine J_aload_n hE dd_X1_layerOf_0 0 rfl rfl ?_
  refine J_iload_n hE dd_X1_layerOf_1 1 rfl rfl ?_
  refine J_invVri hE (As := [.int i1]) (st := []) (tX1_spotOf E.2.1 hv S i1) (hv.ob _) m_X1_spotOf rfl ml_RX1_88 (Nat.le_of_ble_eq_true rfl) (Nat.le_of_ble_eq_true rfl) rfl (Nat.le_of_ble_eq_true rfl) dd_X1_layerOf_2 (fun r1 => ?_)
  refine J_iconst hE (v := (5 : Int32)) dd_X1_layerOf_5 (by decide) ?_
  refine J_irem hE dd_X1_layerOf_6 (fun _ => ?_)
  exact J_iret hE dd_X1_layerOf_7 rfl rfl
theorem dd_X1_takeOut_0 : jd cX1_takeOut 0 (.aload_n 0) 1 1 := ⟨by decide +kernel, rfl⟩
theorem dd_X1_takeOut_1 : jd cX1_takeOut 1 (.iload_n 1) 1 2 := ⟨by decide +kernel, rfl⟩
theorem dd_X1_takeOut_2 : jd cX1_takeOut 2 (.invokevirtual 88) 3 5 := ⟨by decide +kernel, rfl⟩
theorem dd_X1_takeOut_5 : jd cX1_takeOut 5 (.istore_n 2) 1 6 := ⟨by decide +kernel, rfl⟩
theorem dd_X1_takeOut_6 : jd cX1_takeOut 6 (.iload_n 2) 1 7 := ⟨by decide +kernel, rfl⟩
theorem dd_X1_takeOut_7 : jd cX1_takeOut 7 (.iconst 5) 1 8 := ⟨by decide +kernel, rfl⟩
theorem dd_X1_takeOut_8 : jd cX1_takeOut 8 (.idiv) 1 9 := ⟨by decide +kernel, rfl⟩
theorem dd_X1_takeOut_9 : jd cX1_takeOut 9 (.istore_n 3) 1 10 := ⟨by decide +kernel, rfl⟩
theorem dd_X1_takeOut_10 : jd cX1_takeOut 10 (.aload_n 0) 1 11 := ⟨by decide +kernel, rfl⟩
theorem dd_X1_takeOut_11 : jd cX1_takeOut 11 (.getfield 24) 3 14 := ⟨by decide +kernel, rfl⟩
theorem dd_X1_takeOut_14 : jd cX1_takeOut 14 (.iload_n 3) 1 15 := ⟨by decide +kernel, rfl⟩
theorem dd_X1_takeOut_15 : jd cX1_takeOut 15 (.dup2) 1 16 := ⟨by decide +kernel, rfl⟩
theorem dd_X1_takeOut_16 : jd cX1_takeOut 16 (.iaload) 1 17 := ⟨by decide +kernel, rfl⟩
theorem dd_X1_takeOut_17 : jd cX1_takeOut 17 (.iconst 1) 1 18 := ⟨by decide +kernel, rfl⟩
theorem dd_X1_takeOut_18 : jd cX1_takeOut 18 (.isub) 1 19 := ⟨by decide +kernel, rfl⟩
theorem dd_X1_takeOut_19 : jd cX1_takeOut 19 (.iastore) 1 20 := ⟨by decide +kernel, rfl⟩
theorem dd_X1_takeOut_20 : jd cX1_takeOut 20 (.iload_n 2) 1 21 := ⟨by decide +kernel, rfl⟩
theorem dd_X1_takeOut_21 : jd cX1_takeOut 21 (.iconst 5) 1 22 := ⟨by decide +kernel, rfl⟩
theorem dd_X1_takeOut_22 : jd cX1_takeOut 22 (.irem) 1 23 := ⟨by decide +kernel, rfl⟩
theorem dd_X1_takeOut_23 : jd cX1_takeOut 23 (.istore 4) 2 25 := ⟨by decide +kernel, rfl⟩
theorem dd_X1_takeOut_25 : jd cX1_takeOut 25 (.iload 4) 2 27 := ⟨by decide +kernel, rfl⟩
theorem dd_X1_takeOut_27 : jd cX1_takeOut 27 (.aload_n 0) 1 28 := ⟨by decide +kernel, rfl⟩
theorem dd_X1_takeOut_28 : jd cX1_takeOut 28 (.getfield 24) 3 31 := ⟨by decide +kernel, rfl⟩
theorem dd_X1_takeOut_31 : jd cX1_takeOut 31 (.iload_n 3) 1 32 := ⟨by decide +kernel, rfl⟩
theorem dd_X1_takeOut_32 : jd cX1_takeOut 32 (.iaload) 1 33 := ⟨by decide +kernel, rfl⟩
theorem dd_X1_takeOut_36 : jd cX1_takeOut 36 (.aload_n 0) 1 37 := ⟨by decide +kernel, rfl⟩
theorem dd_X1_takeOut_37 : jd cX1_takeOut 37 (.getfield 21) 3 40 := ⟨by decide +kernel, rfl⟩
theorem dd_X1_takeOut_40 : jd cX1_takeOut 40 (.iload_n 3) 1 41 := ⟨by decide +kernel, rfl⟩
theorem dd_X1_takeOut_41 : jd cX1_takeOut 41 (.iconst 5) 1 42 := ⟨by decide +kernel, rfl⟩
theorem dd_X1_takeOut_42 : jd cX1_takeOut 42 (.imul) 1 43 := ⟨by decide +kernel, rfl⟩
theorem dd_X1_takeOut_43 : jd cX1_takeOut 43 (.iload 4) 2 45 := ⟨by decide +kernel, rfl⟩
theorem dd_X1_takeOut_45 : jd cX1_takeOut 45 (.iadd) 1 46 := ⟨by decide +kernel, rfl⟩
theorem dd_X1_takeOut_46 : jd cX1_takeOut 46 (.aload_n 0) 1 47 := ⟨by decide +kernel, rfl⟩
theorem dd_X1_takeOut_47 : jd cX1_takeOut 47 (.getfield 21) 3 50 := ⟨by decide +kernel, rfl⟩
theorem dd_X1_takeOut_50 : jd cX1_takeOut 50 (.iload_n 3) 1 51 := ⟨by decide +kernel, rfl⟩
theorem dd_X1_takeOut_51 : jd cX1_takeOut 51 (.iconst 5) 1 52 := ⟨by decide +kernel, rfl⟩
theorem dd_X1_takeOut_52 : jd cX1_takeOut 52 (.imul) 1 53 := ⟨by decide +kernel, rfl⟩
theorem dd_X1_takeOut_53 : jd cX1_takeOut 53 (.iload 4) 2 55 := ⟨by decide +kernel, rfl⟩
theorem dd_X1_takeOut_55 : jd cX1_takeOut 55 (.iadd) 1 56 := ⟨by decide +kernel, rfl⟩
theorem dd_X1_takeOut_56 : jd cX1_takeOut 56 (.iconst 1) 1 57 := ⟨by decide +kernel, rfl⟩
theorem dd_X1_takeOut_57 : jd cX1_takeOut 57 (.iadd) 1 58 := ⟨by decide +kernel, rfl⟩
theorem dd_X1_takeOut_58 : jd cX1_takeOut 58 (.iaload) 1 59 := ⟨by decide +kernel, rfl⟩
theorem dd_X1_takeOut_59 : jd cX1_takeOut 59 (.iastore) 1 60 := ⟨by decide +kernel, rfl⟩
theorem dd_X1_takeOut_60 : jd cX1_takeOut 60 (.iinc 4 1) 3 63 := ⟨by decide +kernel, rfl⟩
theorem dd_X1_takeOut_63 : jd cX1_takeOut 63 (.goto (-38)) 3 66 := ⟨by decide +kernel, rfl⟩
theorem dd_X1_takeOut_33 : jd cX1_takeOut 33 (.if_icmp .ge 33) 3 36 := ⟨by decide +kernel, rfl⟩
theorem dd_X1_takeOut_66 : jd cX1_takeOut 66 (.return_) 1 67 := ⟨by decide +kernel, rfl⟩
theorem m_X1_takeOut : jmV yX1_takeOut cX1_takeOut 5 none 1 := ⟨⟨(jj_m (w := Cond.code yX1_takeOut cX1_takeOut 5 none) (List.mem_of_getElem? (i := 542) (by decide +kernel)) rfl), (jj_m (w := Cond.initialized yX1_takeOut.cls) (List.mem_of_getElem? (i := 66) (by decide +kernel)) rfl), ⟨by decide, by decide⟩, by decide +kernel⟩, (jj_m (w := Cond.instanceMethod yX1_takeOut) (List.mem_of_getElem? (i := 540) (by decide +kernel)) rfl), (jj_m (w := Cond.selects yX1_takeOut.cls yX1_takeOut yX1_takeOut) (List.mem_of_getElem? (i := 541) (by decide +kernel)) rfl)⟩
def fX1_takeOut_L25 (x2 : Int32) (k66 : M2 → Option (M2)) : Nat → Int32 → M2 → Option (M2)
  | 0, _, _ => none
  | n_ + 1, v5, S6 =>
    bnd x2 3 <|
    if (S6 6 x2.toNatClampNeg) ≤ v5 then
      k66 S6
    else
      bnd (((x2 * (5 : Int32)) + v5) + (1 : Int32)) 15 <|
      bnd ((x2 * (5 : Int32)) + v5) 15 <|
      lt (va_up S6 5 (upd (S6 5) ((x2 * (5 : Int32)) + v5).toNatClampNeg (S6 5 (((x2 * (5 : Int32)) + v5) + (1 : Int32)).toNatClampNeg))) fun S7 =>
      lt (v5 + (1 : Int32)) fun x8 =>
      fX1_takeOut_L25 x2 k66 n_ x8 S7

def fX1_takeOut (i1 : Int32) (S : M2) : Option (M2) :=
  (fX1_spotOf i1 S).bind fun r1 =>
  if (5 : Int32) = 0 then none else
  lt ((r1 / (5 : Int32))) fun x2 =>
  bnd x2 3 <|
  bnd x2 3 <|
  lt (va_up S 6 (upd (S 6) x2.toNatClampNeg ((S 6 x2.toNatClampNeg) - (1 : Int32)))) fun S3 =>
  if (5 : Int32) = 0 then none else
  lt ((r1 - r1 / (5 : Int32) * (5 : Int32))) fun x4 =>
  fX1_takeOut_L25 x2
    (fun p10 =>
      some p10)
    400 x4 S3

set_option maxHeartbeats 4000000 in
set_option maxRecDepth 100000 in
theorem tX1_takeOut_L25 {V : JV M2} {b : Nat} {a : Nat → Nat} (hv : vX1 V b a) (x2 : Int32) {E : JE (M2) Unit} (hE : JOk V E cX1_takeOut yX1_takeOut.cls 5 1 none jj_v) {k66 : M2 → Option (M2)} (hk66 : ∀ p, J V E (fun q => ((), q)) (k66 p) 66 [] [] p) : ∀ (n_ : Nat) (v5 : Int32) (S6 : M2), J V E (fun q => ((), q)) (fX1_takeOut_L25 x2 k66 n_ v5 S6) 25 [(0, .ref b), (3, .int x2), (4, .int v5)] [] S6 := by
  intro n_
  induction n_ with
  | zero =>
    intros
    exact J_none
  | succ n_ ih =>
    intros v5 S6
    rw [fX1_takeOut_L25]
    refine J_iload hE dd_X1_takeOut_25 2 rfl ?_
    refine J_aload_n hE dd_X1_takeOut_27 0 rfl rfl ?_
    refine J_get hE (hv.ob _) jc_X1 6 (by decide) fl_RX1_24 (v := .ref (a 6)) rfl dd_X1_takeOut_28 ?_
    refine J_iload_n hE dd_X1_takeOut_31 1 rfl rfl ?_
    refine J_ald hE (hv.arr 6 (n := 3) (ty := .int) (by decide) _) dd_X1_takeOut_32 ?_
    refine J_icmp_ge hE (tgt := 66) dd_X1_takeOut_33 (by decide) (fun c9 => ?_) (fun c9 => ?_)
    · refine J_sub [] rfl ?_
      exact hk66 S6
    · refine J_aload_n hE dd_X1_takeOut_36 0 rfl rfl ?_
      refine J_get hE (hv.ob _) jc_X1 5 (by decide) fl_RX1_21 (v := .ref (a 5)) rfl dd_X1_takeOut_37 ?_
      refine J_iload_n hE dd_X1_takeOut_40 1 rfl rfl ?_
      refine J_iconst hE (v := (5 : Int32)) dd_X1_takeOut_41 (by decide) ?_
      refine J_imul hE dd_X1_takeOut_42 ?_
      refine J_iload hE dd_X1_takeOut_43 2 rfl ?_
      refine J_iadd hE dd_X1_takeOut_45 ?_
      refine J_aload_n hE dd_X1_takeOut_46 0 rfl rfl ?_
      refine J_get hE (hv.ob _) jc_X1 5 (by decide) fl_RX1_21 (v := .ref (a 5)) rfl dd_X1_takeOut_47 ?_
      refine J_iload_n hE dd_X1_takeOut_50 1 rfl rfl ?_
      refine J_iconst hE (v := (5 : Int32)) dd_X1_takeOut_51 (by decide) ?_
      refine J_imul hE dd_X1_takeOut_52 ?_
      refine J_iload hE dd_X1_takeOut_53 2 rfl ?_
      refine J_iadd hE dd_X1_takeOut_55 ?_
      refine J_iconst hE (v := (1 : Int32)) dd_X1_takeOut_56 (by decide) ?_
      refine J_iadd hE dd_X1_takeOut_57 ?_
      refine J_ald hE (hv.arr 5 (n := 15) (ty := .int) (by decide) _) dd_X1_takeOut_58 ?_
      refine J_ast hE hv 5 (N := 15) (by decide) dd_X1_takeOut_59 ?_
      refine J_letS (fun S7 => ?_)
      refine J_iincL hE (v := (v5 + (1 : Int32))) (Lf := fun x8 => [(4, .int x8), (0, .ref b), (3, .int x2)]) dd_X1_takeOut_60 (j := 2) rfl (congrArg (v5 + ·) (by decide)) (Nat.le_of_ble_eq_true rfl) (fun _ => rfl) (fun x8 => ?_)
      refine J_goto hE (tgt := 25) dd_X1_takeOut_63 (by decide) ?_
      refine J_sub [1, 2, 0] rfl ?_
      exact ih x8 S7
set_option maxHeartbeats 4000000 in
set_option maxRecDepth 100000 in
theorem tX1_takeOut (l : Launch) {V : JV M2} {b : Nat} {a : Nat → Nat} (hv : vX1 V b a) (S : M2) (i1 : Int32) : JC l V yX1_takeOut cX1_takeOut 5 none jj_v 1 [.ref b, .int i1] S ((fX1_takeOut i1 S).map (fun q => ((), q))) := by
  refine jj_of (by decide) (Nat.le_of_ble_eq_true rfl) (fun E hlE hE => ?_)
  unfold fX1_takeOut
  refine J_sub (L' := [(0, .ref b), (1, .int i1)]) [0, 1] rfl ?_
  refine J_aload_n hE dd_X1_takeOut_0 0 rfl rfl ?_
  refine J_iload_n hE dd_X1_takeOut_1 1 rfl rfl ?_
  refine J_invVri hE (As := [.int i1]) (st := []) (tX1_spotOf E.2.1 hv S i1) (hv.ob _) m_X1_spotOf rfl ml_RX1_88 (Nat.le_of_ble_eq_true rfl) (Nat.le_of_ble_eq_true rfl) rfl (Nat.le_of_ble_eq_true rfl) dd_X1_takeOut_2 (fun r1 => ?_)
  refine J_istore_n hE (L' := [(2, .int r1), (0, .ref b), (1, .int i1)]) dd_X1_takeOut_5 (Nat.le_of_ble_eq_true rfl) rfl rfl ?_
  refine J_iload_n hE dd_X1_takeOut_6 0 rfl rfl ?_
  refine J_iconst hE (v := (5 : Int32)) dd_X1_takeOut_7 (by decide) ?_
  refine J_idiv hE dd_X1_takeOut_8 (fun _ => ?_)
  refine J_leti (fun x2 => ?_)
  refine J_istore_n hE (L' := [(3, .int x2), (2, .int r1), (0, .ref b), (1, .int i1)]) dd_X1_takeOut_9 (Nat.le_of_ble_eq_true rfl) rfl rfl ?_
  refine J_aload_n hE dd_X1_takeOut_10 2 rfl rfl ?_
  refine J_get hE (hv.ob _) jc_X1 6 (by decide) fl_RX1_24 (v := .ref (a 6)) rfl dd_X1_takeOut_11 ?_
  refine J_iload_n hE dd_X1_takeOut_14 0 rfl rfl ?_
  refine J_dup2 hE dd_X1_takeOut_15 rfl rfl ?_
  refine J_ald hE (hv.arr 6 (n := 3) (ty := .int) (by decide) _) dd_X1_takeOut_16 ?_
  refine J_iconst hE (v := (1 : Int32)) dd_X1_takeOut_17 (by decide) ?_
  refine J_isub hE dd_X1_takeOut_18 ?_
  refine J_ast hE hv 6 (N := 3) (by decide) dd_X1_takeOut_19 ?_
  refine J_letS (fun S3 => ?_)
  refine J_iload_n hE dd_X1_takeOut_20 1 rfl rfl ?_
  refine J_iconst hE (v := (5 : Int32)) dd_X1_takeOut_21 (by decide) ?_
  refine J_irem hE dd_X1_takeOut_22 (fun _ => ?_)
  refine J_leti (fun x4 => ?_)
  refine J_istore hE (L' := [(4, .int x4), (3, .int x2), (2, .int r1), (0, .ref b), (1, .int i1)]) dd_X1_takeOut_23 (Nat.le_of_ble_eq_true rfl) rfl ?_
  refine J_sub [3, 1, 0] rfl ?_
  refine tX1_takeOut_L25 hv x2 hE (fun p10 => ?_) 400 x4 S3
  show J V E _ _ 66 [] [] p10
  exact J_vret hE dd_X1_takeOut_66 rfl rfl
theorem dd_X1_putOnTop_0 : jd cX1_putOnTop 0 (.aload_n 0) 1 1 := ⟨by decide +kernel, rfl⟩
theorem dd_X1_putOnTop_1 : jd cX1_putOnTop 1 (.iload_n 1) 1 2 := ⟨by decide +kernel, rfl⟩
theorem ml_RX1_92 : (Cond.methodLink "MothCustoms$Shed" 92 yX1_takeOut : Cond) ∈ jj_tb := jj_m (List.mem_of_getElem? (i := 539) (by decide +kernel)) rfl
theorem dd_X1_putOnTop_2 : jd cX1_putOnTop 2 (.invokevirtual 92) 3 5 := ⟨by decide +kernel, rfl⟩
theorem dd_X1_putOnTop_5 : jd cX1_putOnTop 5 (.aload_n 0) 1 6 := ⟨by decide +kernel, rfl⟩
theorem dd_X1_putOnTop_6 : jd cX1_putOnTop 6 (.getfield 24) 3 9 := ⟨by decide +kernel, rfl⟩
theorem dd_X1_putOnTop_9 : jd cX1_putOnTop 9 (.iload_n 2) 1 10 := ⟨by decide +kernel, rfl⟩
theorem dd_X1_putOnTop_10 : jd cX1_putOnTop 10 (.iaload) 1 11 := ⟨by decide +kernel, rfl⟩
theorem dd_X1_putOnTop_11 : jd cX1_putOnTop 11 (.istore_n 3) 1 12 := ⟨by decide +kernel, rfl⟩
theorem dd_X1_putOnTop_12 : jd cX1_putOnTop 12 (.iload_n 3) 1 13 := ⟨by decide +kernel, rfl⟩
theorem dd_X1_putOnTop_16 : jd cX1_putOnTop 16 (.aload_n 0) 1 17 := ⟨by decide +kernel, rfl⟩
theorem dd_X1_putOnTop_17 : jd cX1_putOnTop 17 (.getfield 21) 3 20 := ⟨by decide +kernel, rfl⟩
theorem dd_X1_putOnTop_20 : jd cX1_putOnTop 20 (.iload_n 2) 1 21 := ⟨by decide +kernel, rfl⟩
theorem dd_X1_putOnTop_21 : jd cX1_putOnTop 21 (.iconst 5) 1 22 := ⟨by decide +kernel, rfl⟩
theorem dd_X1_putOnTop_22 : jd cX1_putOnTop 22 (.imul) 1 23 := ⟨by decide +kernel, rfl⟩
theorem dd_X1_putOnTop_23 : jd cX1_putOnTop 23 (.iload_n 3) 1 24 := ⟨by decide +kernel, rfl⟩
theorem dd_X1_putOnTop_24 : jd cX1_putOnTop 24 (.iadd) 1 25 := ⟨by decide +kernel, rfl⟩
theorem dd_X1_putOnTop_25 : jd cX1_putOnTop 25 (.aload_n 0) 1 26 := ⟨by decide +kernel, rfl⟩
theorem dd_X1_putOnTop_26 : jd cX1_putOnTop 26 (.getfield 21) 3 29 := ⟨by decide +kernel, rfl⟩
theorem dd_X1_putOnTop_29 : jd cX1_putOnTop 29 (.iload_n 2) 1 30 := ⟨by decide +kernel, rfl⟩
theorem dd_X1_putOnTop_30 : jd cX1_putOnTop 30 (.iconst 5) 1 31 := ⟨by decide +kernel, rfl⟩
theorem dd_X1_putOnTop_31 : jd cX1_putOnTop 31 (.imul) 1 32 := ⟨by decide +kernel, rfl⟩
theorem dd_X1_putOnTop_32 : jd cX1_putOnTop 32 (.iload_n 3) 1 33 := ⟨by decide +kernel, rfl⟩
theorem dd_X1_putOnTop_33 : jd cX1_putOnTop 33 (.iadd) 1 34 := ⟨by decide +kernel, rfl⟩
theorem dd_X1_putOnTop_34 : jd cX1_putOnTop 34 (.iconst 1) 1 35 := ⟨by decide +kernel, rfl⟩
theorem dd_X1_putOnTop_35 : jd cX1_putOnTop 35 (.isub) 1 36 := ⟨by decide +kernel, rfl⟩
theorem dd_X1_putOnTop_36 : jd cX1_putOnTop 36 (.iaload) 1 37 := ⟨by decide +kernel, rfl⟩
theorem dd_X1_putOnTop_37 : jd cX1_putOnTop 37 (.iastore) 1 38 := ⟨by decide +kernel, rfl⟩
theorem dd_X1_putOnTop_38 : jd cX1_putOnTop 38 (.iinc 3 (-1)) 3 41 := ⟨by decide +kernel, rfl⟩
theorem dd_X1_putOnTop_41 : jd cX1_putOnTop 41 (.goto (-29)) 3 44 := ⟨by decide +kernel, rfl⟩
theorem dd_X1_putOnTop_13 : jd cX1_putOnTop 13 (.ifCond .le 31) 3 16 := ⟨by decide +kernel, rfl⟩
theorem dd_X1_putOnTop_44 : jd cX1_putOnTop 44 (.aload_n 0) 1 45 := ⟨by decide +kernel, rfl⟩
theorem dd_X1_putOnTop_45 : jd cX1_putOnTop 45 (.getfield 21) 3 48 := ⟨by decide +kernel, rfl⟩
theorem dd_X1_putOnTop_48 : jd cX1_putOnTop 48 (.iload_n 2) 1 49 := ⟨by decide +kernel, rfl⟩
theorem dd_X1_putOnTop_49 : jd cX1_putOnTop 49 (.iconst 5) 1 50 := ⟨by decide +kernel, rfl⟩
theorem dd_X1_putOnTop_50 : jd cX1_putOnTop 50 (.imul) 1 51 := ⟨by decide +kernel, rfl⟩
theorem dd_X1_putOnTop_51 : jd cX1_putOnTop 51 (.iload_n 1) 1 52 := ⟨by decide +kernel, rfl⟩
theorem dd_X1_putOnTop_52 : jd cX1_putOnTop 52 (.iastore) 1 53 := ⟨by decide +kernel, rfl⟩
theorem dd_X1_putOnTop_53 : jd cX1_putOnTop 53 (.aload_n 0) 1 54 := ⟨by decide +kernel, rfl⟩
theorem dd_X1_putOnTop_54 : jd cX1_putOnTop 54 (.getfield 24) 3 57 := ⟨by decide +kernel, rfl⟩
theorem dd_X1_putOnTop_57 : jd cX1_putOnTop 57 (.iload_n 2) 1 58 := ⟨by decide +kernel, rfl⟩
theorem dd_X1_putOnTop_58 : jd cX1_putOnTop 58 (.dup2) 1 59 := ⟨by decide +kernel, rfl⟩
theorem dd_X1_putOnTop_59 : jd cX1_putOnTop 59 (.iaload) 1 60 := ⟨by decide +kernel, rfl⟩
theorem dd_X1_putOnTop_60 : jd cX1_putOnTop 60 (.iconst 1) 1 61 := ⟨by decide +kernel, rfl⟩
theorem dd_X1_putOnTop_61 : jd cX1_putOnTop 61 (.iadd) 1 62 := ⟨by decide +kernel, rfl⟩
theorem dd_X1_putOnTop_62 : jd cX1_putOnTop 62 (.iastore) 1 63 := ⟨by decide +kernel, rfl⟩
theorem dd_X1_putOnTop_63 : jd cX1_putOnTop 63 (.return_) 1 64 := ⟨by decide +kernel, rfl⟩
theorem m_X1_putOnTop : jmV yX1_putOnTop cX1_putOnTop 4 none 2 := ⟨⟨(jj_m (w := Cond.code yX1_putOnTop cX1_putOnTop 4 none) (List.mem_of_getElem? (i := 538) (by decide +kernel)) rfl), (jj_m (w := Cond.initialized yX1_putOnTop.cls) (List.mem_of_getElem? (i := 66) (by decide +kernel)) rfl), ⟨by decide, by decide⟩, by decide +kernel⟩, (jj_m (w := Cond.instanceMethod yX1_putOnTop) (List.mem_of_getElem? (i := 536) (by decide +kernel)) rfl), (jj_m (w := Cond.selects yX1_putOnTop.cls yX1_putOnTop yX1_putOnTop) (List.mem_of_getElem? (i := 537) (by decide +kernel)) rfl)⟩
def fX1_putOnTop_L12 (i1 : Int32) (i2 : Int32) (k44 : M2 → Option (M2)) : Nat → Int32 → M2 → Option (M2)
  | 0, _, _ => none
  | n_ + 1, v4, S5 =>
    if v4 ≤ 0 then
      k44 S5
    else
      bnd (((i2 * (5 : Int32)) + v4) - (1 : Int32)) 15 <|
      bnd ((i2 * (5 : Int32)) + v4) 15 <|
      lt (va_up S5 5 (upd (S5 5) ((i2 * (5 : Int32)) + v4).toNatClampNeg (S5 5 (((i2 * (5 : Int32)) + v4) - (1 : Int32)).toNatClampNeg))) fun S6 =>
      lt (v4 + (-1 : Int32)) fun x7 =>
      fX1_putOnTop_L12 i1 i2 k44 n_ x7 S6

def fX1_putOnTop (i1 : Int32) (i2 : Int32) (S : M2) : Option (M2) :=
  (fX1_takeOut i1 S).bind fun q1 =>
  lt (q1) fun S2 =>
  bnd i2 3 <|
  lt ((S2 6 i2.toNatClampNeg)) fun x3 =>
  fX1_putOnTop_L12 i1 i2
    (fun p9 =>
      bnd (i2 * (5 : Int32)) 15 <|
      lt (va_up p9 5 (upd (p9 5) (i2 * (5 : Int32)).toNatClampNeg i1)) fun S10 =>
      bnd i2 3 <|
      bnd i2 3 <|
      lt (va_up S10 6 (upd (S10 6) i2.toNatClampNeg ((S10 6 i2.toNatClampNeg) + (1 : Int32)))) fun S11 =>
      some S11)
    400 x3 S2

set_option maxHeartbeats 4000000 in
set_option maxRecDepth 100000 in
theorem tX1_putOnTop_L12 {V : JV M2} {b : Nat} {a : Nat → Nat} (hv : vX1 V b a) (i1 : Int32) (i2 : Int32) {E : JE (M2) Unit} (hE : JOk V E cX1_putOnTop yX1_putOnTop.cls 4 2 none jj_v) {k44 : M2 → Option (M2)} (hk44 : ∀ p, J V E (fun q => ((), q)) (k44 p) 44 [(0, .ref b), (1, .int i1), (2, .int i2)] [] p) : ∀ (n_ : Nat) (v4 : Int32) (S5 : M2), J V E (fun q => ((), q)) (fX1_putOnTop_L12 i1 i2 k44 n_ v4 S5) 12 [(0, .ref b), (1, .int i1), (2, .int i2), (3, .int v4)] [] S5 := by
  intro n_
  induction n_ with
  | zero =>
    intros
    exact J_none
  | succ n_ ih =>
    intros v4 S5
    rw [fX1_putOnTop_L12]
    refine J_iload_n hE dd_X1_putOnTop_12 3 rfl rfl ?_
    refine J_if_le hE (tgt := 44) dd_X1_putOnTop_13 (by decide) (fun c8 => ?_) (fun c8 => ?_)
    · refine J_sub [0, 1, 2] rfl ?_
      exact hk44 S5
    · refine J_aload_n hE dd_X1_putOnTop_16 0 rfl rfl ?_
      refine J_get hE (hv.ob _) jc_X1 5 (by decide) fl_RX1_21 (v := .ref (a 5)) rfl dd_X1_putOnTop_17 ?_
      refine J_iload_n hE dd_X1_putOnTop_20 2 rfl rfl ?_
      refine J_iconst hE (v := (5 : Int32)) dd_X1_putOnTop_21 (by decide) ?_
      refine J_imul hE dd_X1_putOnTop_22 ?_
      refine J_iload_n hE dd_X1_putOnTop_23 3 rfl rfl ?_
      refine J_iadd hE dd_X1_putOnTop_24 ?_
      refine J_aload_n hE dd_X1_putOnTop_25 0 rfl rfl ?_
      refine J_get hE (hv.ob _) jc_X1 5 (by decide) fl_RX1_21 (v := .ref (a 5)) rfl dd_X1_putOnTop_26 ?_
      refine J_iload_n hE dd_X1_putOnTop_29 2 rfl rfl ?_
      refine J_iconst hE (v := (5 : Int32)) dd_X1_putOnTop_30 (by decide) ?_
      refine J_imul hE dd_X1_putOnTop_31 ?_
      refine J_iload_n hE dd_X1_putOnTop_32 3 rfl rfl ?_
      refine J_iadd hE dd_X1_putOnTop_33 ?_
      refine J_iconst hE (v := (1 : Int32)) dd_X1_putOnTop_34 (by decide) ?_
      refine J_isub hE dd_X1_putOnTop_35 ?_
      refine J_ald hE (hv.arr 5 (n := 15) (ty := .int) (by decide) _) dd_X1_putOnTop_36 ?_
      refine J_ast hE hv 5 (N := 15) (by decide) dd_X1_putOnTop_37 ?_
      refine J_letS (fun S6 => ?_)
      refine J_iincL hE (v := (v4 + (-1 : Int32))) (Lf := fun x7 => [(3, .int x7), (0, .ref b), (1, .int i1), (2, .int i2)]) dd_X1_putOnTop_38 (j := 3) rfl (congrArg (v4 + ·) (by decide)) (Nat.le_of_ble_eq_true rfl) (fun _ => rfl) (fun x7 => ?_)
      refine J_goto hE (tgt := 12) dd_X1_putOnTop_41 (by decide) ?_
      refine J_sub [1, 2, 3, 0] rfl ?_
      exact ih x7 S6
set_option maxHeartbeats 4000000 in
set_option maxRecDepth 100000 in
theorem tX1_putOnTop (l : Launch) {V : JV M2} {b : Nat} {a : Nat → Nat} (hv : vX1 V b a) (S : M2) (i1 : Int32) (i2 : Int32) : JC l V yX1_putOnTop cX1_putOnTop 4 none jj_v 2 [.ref b, .int i1, .int i2] S ((fX1_putOnTop i1 i2 S).map (fun q => ((), q))) := by
  refine jj_of (by decide) (Nat.le_of_ble_eq_true rfl) (fun E hlE hE => ?_)
  unfold fX1_putOnTop
  refine J_sub (L' := [(0, .ref b), (1, .int i1), (2, .int i2)]) [0, 1, 2] rfl ?_
  refine J_aload_n hE dd_X1_putOnTop_0 0 rfl rfl ?_
  refine J_iload_n hE dd_X1_putOnTop_1 1 rfl rfl ?_
  refine J_invVwv hE (e := fun x => x) (As := [.int i1]) (st := []) (tX1_takeOut E.2.1 hv S i1) (hv.ob _) m_X1_takeOut rfl ml_RX1_92 (Nat.le_of_ble_eq_true rfl) (Nat.le_of_ble_eq_true rfl) rfl (Nat.le_of_ble_eq_true rfl) dd_X1_putOnTop_2 (fun q1 => ?_)
  refine J_letS (fun S2 => ?_)
  refine J_aload_n hE dd_X1_putOnTop_5 0 rfl rfl ?_
  refine J_get hE (hv.ob _) jc_X1 6 (by decide) fl_RX1_24 (v := .ref (a 6)) rfl dd_X1_putOnTop_6 ?_
  refine J_iload_n hE dd_X1_putOnTop_9 2 rfl rfl ?_
  refine J_ald hE (hv.arr 6 (n := 3) (ty := .int) (by decide) _) dd_X1_putOnTop_10 ?_
  refine J_leti (fun x3 => ?_)
  refine J_istore_n hE (L' := [(3, .int x3), (0, .ref b), (1, .int i1), (2, .int i2)]) dd_X1_putOnTop_11 (Nat.le_of_ble_eq_true rfl) rfl rfl ?_
  refine J_sub [1, 2, 3, 0] rfl ?_
  refine tX1_putOnTop_L12 hv i1 i2 hE (fun p9 => ?_) 400 x3 S2
  show J V E _ _ 44 [(0, .ref b), (1, .int i1), (2, .int i2)] [] p9
  refine J_aload_n hE dd_X1_putOnTop_44 0 rfl rfl ?_
  refine J_get hE (hv.ob _) jc_X1 5 (by decide) fl_RX1_21 (v := .ref (a 5)) rfl dd_X1_putOnTop_45 ?_
  refine J_iload_n hE dd_X1_putOnTop_48 2 rfl rfl ?_
  refine J_iconst hE (v := (5 : Int32)) dd_X1_putOnTop_49 (by decide) ?_
  refine J_imul hE dd_X1_putOnTop_50 ?_
  refine J_iload_n hE dd_X1_putOnTop_51 1 rfl rfl ?_
  refine J_ast hE hv 5 (N := 15) (by decide) dd_X1_putOnTop_52 ?_
  refine J_letS (fun S10 => ?_)
  refine J_aload_n hE dd_X1_putOnTop_53 0 rfl rfl ?_
  refine J_get hE (hv.ob _) jc_X1 6 (by decide) fl_RX1_24 (v := .ref (a 6)) rfl dd_X1_putOnTop_54 ?_
  refine J_iload_n hE dd_X1_putOnTop_57 2 rfl rfl ?_
  refine J_dup2 hE dd_X1_putOnTop_58 rfl rfl ?_
  refine J_ald hE (hv.arr 6 (n := 3) (ty := .int) (by decide) _) dd_X1_putOnTop_59 ?_
  refine J_iconst hE (v := (1 : Int32)) dd_X1_putOnTop_60 (by decide) ?_
  refine J_iadd hE dd_X1_putOnTop_61 ?_
  refine J_ast hE hv 6 (N := 3) (by decide) dd_X1_putOnTop_62 ?_
  refine J_letS (fun S11 => ?_)
  exact J_vret hE dd_X1_putOnTop_63 rfl rfl
theorem dd_X1_trait_0 : jd cX1_trait 0 (.iload_n 2) 1 1 := ⟨by decide +kernel, rfl⟩
theorem dd_X1_trait_32 : jd cX1_trait 32 (.aload_n 0) 1 33 := ⟨by decide +kernel, rfl⟩
theorem dd_X1_trait_33 : jd cX1_trait 33 (.getfield 27) 3 36 := ⟨by decide +kernel, rfl⟩
theorem dd_X1_trait_36 : jd cX1_trait 36 (.iload_n 1) 1 37 := ⟨by decide +kernel, rfl⟩
theorem dd_X1_trait_37 : jd cX1_trait 37 (.iaload) 1 38 := ⟨by decide +kernel, rfl⟩
theorem dd_X1_trait_38 : jd cX1_trait 38 (.ireturn) 1 39 := ⟨by decide +kernel, rfl⟩
theorem dd_X1_trait_39 : jd cX1_trait 39 (.aload_n 0) 1 40 := ⟨by decide +kernel, rfl⟩
theorem dd_X1_trait_40 : jd cX1_trait 40 (.getfield 30) 3 43 := ⟨by decide +kernel, rfl⟩
theorem dd_X1_trait_43 : jd cX1_trait 43 (.iload_n 1) 1 44 := ⟨by decide +kernel, rfl⟩
theorem dd_X1_trait_44 : jd cX1_trait 44 (.iaload) 1 45 := ⟨by decide +kernel, rfl⟩
theorem dd_X1_trait_45 : jd cX1_trait 45 (.ireturn) 1 46 := ⟨by decide +kernel, rfl⟩
theorem dd_X1_trait_46 : jd cX1_trait 46 (.aload_n 0) 1 47 := ⟨by decide +kernel, rfl⟩
theorem dd_X1_trait_47 : jd cX1_trait 47 (.getfield 33) 3 50 := ⟨by decide +kernel, rfl⟩
theorem dd_X1_trait_50 : jd cX1_trait 50 (.iload_n 1) 1 51 := ⟨by decide +kernel, rfl⟩
theorem dd_X1_trait_51 : jd cX1_trait 51 (.iaload) 1 52 := ⟨by decide +kernel, rfl⟩
theorem dd_X1_trait_52 : jd cX1_trait 52 (.ireturn) 1 53 := ⟨by decide +kernel, rfl⟩
theorem dd_X1_trait_53 : jd cX1_trait 53 (.aload_n 0) 1 54 := ⟨by decide +kernel, rfl⟩
theorem dd_X1_trait_54 : jd cX1_trait 54 (.getfield 36) 3 57 := ⟨by decide +kernel, rfl⟩
theorem dd_X1_trait_57 : jd cX1_trait 57 (.iload_n 1) 1 58 := ⟨by decide +kernel, rfl⟩
theorem dd_X1_trait_58 : jd cX1_trait 58 (.iaload) 1 59 := ⟨by decide +kernel, rfl⟩
theorem dd_X1_trait_59 : jd cX1_trait 59 (.ireturn) 1 60 := ⟨by decide +kernel, rfl⟩
theorem dd_X1_trait_60 : jd cX1_trait 60 (.iconst (-1)) 1 61 := ⟨by decide +kernel, rfl⟩
theorem dd_X1_trait_61 : jd cX1_trait 61 (.ireturn) 1 62 := ⟨by decide +kernel, rfl⟩
theorem dd_X1_trait_1 : jd cX1_trait 1 (.tableswitch 59 0 3 #[31, 38, 45, 52]) 31 32 := ⟨by decide +kernel, rfl⟩
theorem m_X1_trait : jmV yX1_trait cX1_trait 3 (some .int) 2 := ⟨⟨(jj_m (w := Cond.code yX1_trait cX1_trait 3 (some .int)) (List.mem_of_getElem? (i := 516) (by decide +kernel)) rfl), (jj_m (w := Cond.initialized yX1_trait.cls) (List.mem_of_getElem? (i := 66) (by decide +kernel)) rfl), ⟨by decide, by decide⟩, by decide +kernel⟩, (jj_m (w := Cond.instanceMethod yX1_trait) (List.mem_of_getElem? (i := 514) (by decide +kernel)) rfl), (jj_m (w := Cond.selects yX1_trait.cls yX1_trait yX1_trait) (List.mem_of_getElem? (i := 515) (by decide +kernel)) rfl)⟩
def fX1_trait (i1 : Int32) (i2 : Int32) (S : M2) : Option (Int32) :=
  if i2 = 0 then
    bnd i1 4 <|
    some (S 8 i1.toNatClampNeg)
  else
    if i2 = 1 then
      bnd i1 4 <|
      some (S 9 i1.toNatClampNeg)
    else
      if i2 = 2 then
        bnd i1 4 <|
        some (S 10 i1.toNatClampNeg)
      else
        if i2 = 3 then
          bnd i1 4 <|
          some (S 11 i1.toNatClampNeg)
        else
          some (-1 : Int32)

set_option maxHeartbeats 4000000 in
set_option maxRecDepth 100000 in
theorem tX1_trait (l : Launch) {V : JV M2} {b : Nat} {a : Nat → Nat} (hv : vX1 V b a) (S : M2) (i1 : Int32) (i2 : Int32) : JC l V yX1_trait cX1_trait 3 (some .int) jj_i 0 [.ref b, .int i1, .int i2] S ((fX1_trait i1 i2 S).map (fun r => (r, S))) := by
  refine jj_of (by decide) (Nat.le_of_ble_eq_true rfl) (fun E hlE hE => ?_)
  unfold fX1_trait
  refine J_sub (L' := [(0, .ref b), (1, .int i1), (2, .int i2)]) [0, 1, 2] rfl ?_
  refine J_iload_n hE dd_X1_trait_0 2 rfl rfl ?_
  refine J_ite (fun c1 => ?_) (fun c1 => ?_)
  · refine J_tsAt hE c1 (off := 31) (tgt := 32) dd_X1_trait_1 (by decide) (by decide) (by decide) (by decide) ?_
    refine J_aload_n hE dd_X1_trait_32 0 rfl rfl ?_
    refine J_get hE (hv.ob _) jc_X1 8 (by decide) fl_RX1_27 (v := .ref (a 8)) rfl dd_X1_trait_33 ?_
    refine J_iload_n hE dd_X1_trait_36 1 rfl rfl ?_
    refine J_ald hE (hv.arr 8 (n := 4) (ty := .int) (by decide) _) dd_X1_trait_37 ?_
    exact J_iret hE dd_X1_trait_38 rfl rfl
  · refine J_ite (fun c2 => ?_) (fun c2 => ?_)
    · refine J_tsAt hE c2 (off := 38) (tgt := 39) dd_X1_trait_1 (by decide) (by decide) (by decide) (by decide) ?_
      refine J_aload_n hE dd_X1_trait_39 0 rfl rfl ?_
      refine J_get hE (hv.ob _) jc_X1 9 (by decide) fl_RX1_30 (v := .ref (a 9)) rfl dd_X1_trait_40 ?_
      refine J_iload_n hE dd_X1_trait_43 1 rfl rfl ?_
      refine J_ald hE (hv.arr 9 (n := 4) (ty := .int) (by decide) _) dd_X1_trait_44 ?_
      exact J_iret hE dd_X1_trait_45 rfl rfl
    · refine J_ite (fun c3 => ?_) (fun c3 => ?_)
      · refine J_tsAt hE c3 (off := 45) (tgt := 46) dd_X1_trait_1 (by decide) (by decide) (by decide) (by decide) ?_
        refine J_aload_n hE dd_X1_trait_46 0 rfl rfl ?_
        refine J_get hE (hv.ob _) jc_X1 10 (by decide) fl_RX1_33 (v := .ref (a 10)) rfl dd_X1_trait_47 ?_
        refine J_iload_n hE dd_X1_trait_50 1 rfl rfl ?_
        refine J_ald hE (hv.arr 10 (n := 4) (ty := .int) (by decide) _) dd_X1_trait_51 ?_
        exact J_iret hE dd_X1_trait_52 rfl rfl
      · refine J_ite (fun c4 => ?_) (fun c4 => ?_)
        · refine J_tsAt hE c4 (off := 52) (tgt := 53) dd_X1_trait_1 (by decide) (by decide) (by decide) (by decide) ?_
          refine J_aload_n hE dd_X1_trait_53 0 rfl rfl ?_
          refine J_get hE (hv.ob _) jc_X1 11 (by decide) fl_RX1_36 (v := .ref (a 11)) rfl dd_X1_trait_54 ?_
          refine J_iload_n hE dd_X1_trait_57 1 rfl rfl ?_
          refine J_ald hE (hv.arr 11 (n := 4) (ty := .int) (by decide) _) dd_X1_trait_58 ?_
          exact J_iret hE dd_X1_trait_59 rfl rfl
        · refine J_tsOut hE (tgt := 60) dd_X1_trait_1 (by have e0 : ¬ (i2).toInt = 0 := fun q => c1 (Int32.toInt_inj.mp (q.trans (by decide))); have e1 : ¬ (i2).toInt = 1 := fun q => c2 (Int32.toInt_inj.mp (q.trans (by decide))); have e2 : ¬ (i2).toInt = 2 := fun q => c3 (Int32.toInt_inj.mp (q.trans (by decide))); have e3 : ¬ (i2).toInt = 3 := fun q => c4 (Int32.toInt_inj.mp (q.trans (by decide))); omega) (by decide) ?_
          refine J_iconst hE (v := (-1 : Int32)) dd_X1_trait_60 (by decide) ?_
          exact J_iret hE dd_X1_trait_61 rfl rfl
theorem dd_X1_setTrait_0 : jd cX1_setTrait 0 (.iload_n 2) 1 1 := ⟨by decide +kernel, rfl⟩
theorem dd_X1_setTrait_28 : jd cX1_setTrait 28 (.aload_n 0) 1 29 := ⟨by decide +kernel, rfl⟩
theorem dd_X1_setTrait_29 : jd cX1_setTrait 29 (.getfield 27) 3 32 := ⟨by decide +kernel, rfl⟩
theorem dd_X1_setTrait_32 : jd cX1_setTrait 32 (.iload_n 1) 1 33 := ⟨by decide +kernel, rfl⟩
theorem dd_X1_setTrait_33 : jd cX1_setTrait 33 (.iload_n 3) 1 34 := ⟨by decide +kernel, rfl⟩
theorem dd_X1_setTrait_34 : jd cX1_setTrait 34 (.iastore) 1 35 := ⟨by decide +kernel, rfl⟩
theorem dd_X1_setTrait_65 : jd cX1_setTrait 65 (.return_) 1 66 := ⟨by decide +kernel, rfl⟩
theorem dd_X1_setTrait_35 : jd cX1_setTrait 35 (.goto 30) 3 38 := ⟨by decide +kernel, rfl⟩
theorem dd_X1_setTrait_38 : jd cX1_setTrait 38 (.aload_n 0) 1 39 := ⟨by decide +kernel, rfl⟩
theorem dd_X1_setTrait_39 : jd cX1_setTrait 39 (.getfield 30) 3 42 := ⟨by decide +kernel, rfl⟩
theorem dd_X1_setTrait_42 : jd cX1_setTrait 42 (.iload_n 1) 1 43 := ⟨by decide +kernel, rfl⟩
theorem dd_X1_setTrait_43 : jd cX1_setTrait 43 (.iload_n 3) 1 44 := ⟨by decide +kernel, rfl⟩
theorem dd_X1_setTrait_44 : jd cX1_setTrait 44 (.iastore) 1 45 := ⟨by decide +kernel, rfl⟩
theorem dd_X1_setTrait_45 : jd cX1_setTrait 45 (.goto 20) 3 48 := ⟨by decide +kernel, rfl⟩
theorem dd_X1_setTrait_48 : jd cX1_setTrait 48 (.aload_n 0) 1 49 := ⟨by decide +kernel, rfl⟩
theorem dd_X1_setTrait_49 : jd cX1_setTrait 49 (.getfield 33) 3 52 := ⟨by decide +kernel, rfl⟩
theorem dd_X1_setTrait_52 : jd cX1_setTrait 52 (.iload_n 1) 1 53 := ⟨by decide +kernel, rfl⟩
theorem dd_X1_setTrait_53 : jd cX1_setTrait 53 (.iload_n 3) 1 54 := ⟨by decide +kernel, rfl⟩
theorem dd_X1_setTrait_54 : jd cX1_setTrait 54 (.iastore) 1 55 := ⟨by decide +kernel, rfl⟩
theorem dd_X1_setTrait_55 : jd cX1_setTrait 55 (.goto 10) 3 58 := ⟨by decide +kernel, rfl⟩
theorem dd_X1_setTrait_58 : jd cX1_setTrait 58 (.aload_n 0) 1 59 := ⟨by decide +kernel, rfl⟩
theorem dd_X1_setTrait_59 : jd cX1_setTrait 59 (.getfield 36) 3 62 := ⟨by decide +kernel, rfl⟩
theorem dd_X1_setTrait_62 : jd cX1_setTrait 62 (.iload_n 1) 1 63 := ⟨by decide +kernel, rfl⟩
theorem dd_X1_setTrait_63 : jd cX1_setTrait 63 (.iload_n 3) 1 64 := ⟨by decide +kernel, rfl⟩
theorem dd_X1_setTrait_64 : jd cX1_setTrait 64 (.iastore) 1 65 := ⟨by decide +kernel, rfl⟩
theorem dd_X1_setTrait_1 : jd cX1_setTrait 1 (.tableswitch 57 0 2 #[27, 37, 47]) 27 28 := ⟨by decide +kernel, rfl⟩
theorem m_X1_setTrait : jmV yX1_setTrait cX1_setTrait 4 none 3 := ⟨⟨(jj_m (w := Cond.code yX1_setTrait cX1_setTrait 4 none) (List.mem_of_getElem? (i := 574) (by decide +kernel)) rfl), (jj_m (w := Cond.initialized yX1_setTrait.cls) (List.mem_of_getElem? (i := 66) (by decide +kernel)) rfl), ⟨by decide, by decide⟩, by decide +kernel⟩, (jj_m (w := Cond.instanceMethod yX1_setTrait) (List.mem_of_getElem? (i := 572) (by decide +kernel)) rfl), (jj_m (w := Cond.selects yX1_setTrait.cls yX1_setTrait yX1_setTrait) (List.mem_of_getElem? (i := 573) (by decide +kernel)) rfl)⟩
def fX1_setTrait (i1 : Int32) (i2 : Int32) (i3 : Int32) (S : M2) : Option (M2) :=
  if i2 = 0 then
    bnd i1 4 <|
    lt (va_up S 8 (upd (S 8) i1.toNatClampNeg i3)) fun S2 =>
    some S2
  else
    if i2 = 1 then
      bnd i1 4 <|
      lt (va_up S 9 (upd (S 9) i1.toNatClampNeg i3)) fun S4 =>
      some S4
    else
      if i2 = 2 then
        bnd i1 4 <|
        lt (va_up S 10 (upd (S 10) i1.toNatClampNeg i3)) fun S6 =>
        some S6
      else
        bnd i1 4 <|
        lt (va_up S 11 (upd (S 11) i1.toNatClampNeg i3)) fun S7 =>
        some S7

set_option maxHeartbeats 4000000 in
set_option maxRecDepth 100000 in
theorem tX1_setTrait (l : Launch) {V : JV M2} {b : Nat} {a : Nat → Nat} (hv : vX1 V b a) (S : M2) (i1 : Int32) (i2 : Int32) (i3 : Int32) : JC l V yX1_setTrait cX1_setTrait 4 none jj_v 0 [.ref b, .int i1, .int i2, .int i3] S ((fX1_setTrait i1 i2 i3 S).map (fun q => ((), q))) := by
  refine jj_of (by decide) (Nat.le_of_ble_eq_true rfl) (fun E hlE hE => ?_)
  unfold fX1_setTrait
  refine J_sub (L' := [(0, .ref b), (1, .int i1), (2, .int i2), (3, .int i3)]) [0, 1, 2, 3] rfl ?_
  refine J_iload_n hE dd_X1_setTrait_0 2 rfl rfl ?_
  refine J_ite (fun c1 => ?_) (fun c1 => ?_)
  · refine J_tsAt hE c1 (off := 27) (tgt := 28) dd_X1_setTrait_1 (by decide) (by decide) (by decide) (by decide) ?_
    refine J_aload_n hE dd_X1_setTrait_28 0 rfl rfl ?_
    refine J_get hE (hv.ob _) jc_X1 8 (by decide) fl_RX1_27 (v := .ref (a 8)) rfl dd_X1_setTrait_29 ?_
    refine J_iload_n hE dd_X1_setTrait_32 1 rfl rfl ?_
    refine J_iload_n hE dd_X1_setTrait_33 3 rfl rfl ?_
    refine J_ast hE hv 8 (N := 4) (by decide) dd_X1_setTrait_34 ?_
    refine J_letS (fun S2 => ?_)
    refine J_goto hE (tgt := 65) dd_X1_setTrait_35 (by decide) ?_
    exact J_vret hE dd_X1_setTrait_65 rfl rfl
  · refine J_ite (fun c3 => ?_) (fun c3 => ?_)
    · refine J_tsAt hE c3 (off := 37) (tgt := 38) dd_X1_setTrait_1 (by decide) (by decide) (by decide) (by decide) ?_
      refine J_aload_n hE dd_X1_setTrait_38 0 rfl rfl ?_
      refine J_get hE (hv.ob _) jc_X1 9 (by decide) fl_RX1_30 (v := .ref (a 9)) rfl dd_X1_setTrait_39 ?_
      refine J_iload_n hE dd_X1_setTrait_42 1 rfl rfl ?_
      refine J_iload_n hE dd_X1_setTrait_43 3 rfl rfl ?_
      refine J_ast hE hv 9 (N := 4) (by decide) dd_X1_setTrait_44 ?_
      refine J_letS (fun S4 => ?_)
      refine J_goto hE (tgt := 65) dd_X1_setTrait_45 (by decide) ?_
      exact J_vret hE dd_X1_setTrait_65 rfl rfl
    · refine J_ite (fun c5 => ?_) (fun c5 => ?_)
      · refine J_tsAt hE c5 (off := 47) (tgt := 48) dd_X1_setTrait_1 (by decide) (by decide) (by decide) (by decide) ?_
        refine J_aload_n hE dd_X1_setTrait_48 0 rfl rfl ?_
        refine J_get hE (hv.ob _) jc_X1 10 (by decide) fl_RX1_33 (v := .ref (a 10)) rfl dd_X1_setTrait_49 ?_
        refine J_iload_n hE dd_X1_setTrait_52 1 rfl rfl ?_
        refine J_iload_n hE dd_X1_setTrait_53 3 rfl rfl ?_
        refine J_ast hE hv 10 (N := 4) (by decide) dd_X1_setTrait_54 ?_
        refine J_letS (fun S6 => ?_)
        refine J_goto hE (tgt := 65) dd_X1_setTrait_55 (by decide) ?_
        exact J_vret hE dd_X1_setTrait_65 rfl rfl
      · refine J_tsOut hE (tgt := 58) dd_X1_setTrait_1 (by have e0 : ¬ (i2).toInt = 0 := fun q => c1 (Int32.toInt_inj.mp (q.trans (by decide))); have e1 : ¬ (i2).toInt = 1 := fun q => c3 (Int32.toInt_inj.mp (q.trans (by decide))); have e2 : ¬ (i2).toInt = 2 := fun q => c5 (Int32.toInt_inj.mp (q.trans (by decide))); omega) (by decide) ?_
        refine J_aload_n hE dd_X1_setTrait_58 0 rfl rfl ?_
        refine J_get hE (hv.ob _) jc_X1 11 (by decide) fl_RX1_36 (v := .ref (a 11)) rfl dd_X1_setTrait_59 ?_
        refine J_iload_n hE dd_X1_setTrait_62 1 rfl rfl ?_
        refine J_iload_n hE dd_X1_setTrait_63 3 rfl rfl ?_
        refine J_ast hE hv 11 (N := 4) (by decide) dd_X1_setTrait_64 ?_
        refine J_letS (fun S7 => ?_)
        exact J_vret hE dd_X1_setTrait_65 rfl rfl
theorem dd_X1_appetite_0 : jd cX1_appetite 0 (.aload_n 0) 1 1 := ⟨by decide +kernel, rfl⟩
theorem dd_X1_appetite_1 : jd cX1_appetite 1 (.getfield 33) 3 4 := ⟨by decide +kernel, rfl⟩
theorem dd_X1_appetite_4 : jd cX1_appetite 4 (.iload_n 1) 1 5 := ⟨by decide +kernel, rfl⟩
theorem dd_X1_appetite_5 : jd cX1_appetite 5 (.iaload) 1 6 := ⟨by decide +kernel, rfl⟩
theorem dd_X1_appetite_6 : jd cX1_appetite 6 (.aload_n 0) 1 7 := ⟨by decide +kernel, rfl⟩
theorem dd_X1_appetite_7 : jd cX1_appetite 7 (.getfield 58) 3 10 := ⟨by decide +kernel, rfl⟩
theorem dd_X1_appetite_10 : jd cX1_appetite 10 (.iadd) 1 11 := ⟨by decide +kernel, rfl⟩
theorem dd_X1_appetite_11 : jd cX1_appetite 11 (.istore_n 2) 1 12 := ⟨by decide +kernel, rfl⟩
theorem dd_X1_appetite_12 : jd cX1_appetite 12 (.aload_n 0) 1 13 := ⟨by decide +kernel, rfl⟩
theorem dd_X1_appetite_13 : jd cX1_appetite 13 (.getfield 27) 3 16 := ⟨by decide +kernel, rfl⟩
theorem dd_X1_appetite_16 : jd cX1_appetite 16 (.iload_n 1) 1 17 := ⟨by decide +kernel, rfl⟩
theorem dd_X1_appetite_17 : jd cX1_appetite 17 (.iaload) 1 18 := ⟨by decide +kernel, rfl⟩
theorem dd_X1_appetite_44 : jd cX1_appetite 44 (.iconst 0) 1 45 := ⟨by decide +kernel, rfl⟩
theorem dd_X1_appetite_45 : jd cX1_appetite 45 (.iload_n 2) 1 46 := ⟨by decide +kernel, rfl⟩
theorem dd_X1_appetite_46 : jd cX1_appetite 46 (.iconst 1) 1 47 := ⟨by decide +kernel, rfl⟩
theorem dd_X1_appetite_47 : jd cX1_appetite 47 (.isub) 1 48 := ⟨by decide +kernel, rfl⟩
theorem ml_RX1_96 : (Cond.methodLink "MothCustoms$Shed" 96 Lib.Math.max.name : Cond) ∈ jj_tb := jj_m (List.mem_of_getElem? (i := 502) (by decide +kernel)) rfl
theorem dd_X1_appetite_48 : jd cX1_appetite 48 (.invokestatic 96) 3 51 := ⟨by decide +kernel, rfl⟩
theorem dd_X1_appetite_51 : jd cX1_appetite 51 (.ireturn) 1 52 := ⟨by decide +kernel, rfl⟩
theorem dd_X1_appetite_52 : jd cX1_appetite 52 (.iconst 2) 1 53 := ⟨by decide +kernel, rfl⟩
theorem dd_X1_appetite_53 : jd cX1_appetite 53 (.iload_n 2) 1 54 := ⟨by decide +kernel, rfl⟩
theorem dd_X1_appetite_54 : jd cX1_appetite 54 (.imul) 1 55 := ⟨by decide +kernel, rfl⟩
theorem dd_X1_appetite_55 : jd cX1_appetite 55 (.ireturn) 1 56 := ⟨by decide +kernel, rfl⟩
theorem dd_X1_appetite_56 : jd cX1_appetite 56 (.iload_n 2) 1 57 := ⟨by decide +kernel, rfl⟩
theorem dd_X1_appetite_57 : jd cX1_appetite 57 (.iconst 2) 1 58 := ⟨by decide +kernel, rfl⟩
theorem dd_X1_appetite_58 : jd cX1_appetite 58 (.idiv) 1 59 := ⟨by decide +kernel, rfl⟩
theorem dd_X1_appetite_59 : jd cX1_appetite 59 (.ireturn) 1 60 := ⟨by decide +kernel, rfl⟩
theorem dd_X1_appetite_60 : jd cX1_appetite 60 (.iload_n 2) 1 61 := ⟨by decide +kernel, rfl⟩
theorem dd_X1_appetite_61 : jd cX1_appetite 61 (.ireturn) 1 62 := ⟨by decide +kernel, rfl⟩
theorem dd_X1_appetite_18 : jd cX1_appetite 18 (.tableswitch 42 1 3 #[26, 34, 38]) 26 44 := ⟨by decide +kernel, rfl⟩
theorem m_X1_appetite : jmV yX1_appetite cX1_appetite 3 (some .int) 1 := ⟨⟨(jj_m (w := Cond.code yX1_appetite cX1_appetite 3 (some .int)) (List.mem_of_getElem? (i := 501) (by decide +kernel)) rfl), (jj_m (w := Cond.initialized yX1_appetite.cls) (List.mem_of_getElem? (i := 66) (by decide +kernel)) rfl), ⟨by decide, by decide⟩, by decide +kernel⟩, (jj_m (w := Cond.instanceMethod yX1_appetite) (List.mem_of_getElem? (i := 499) (by decide +kernel)) rfl), (jj_m (w := Cond.selects yX1_appetite.cls yX1_appetite yX1_appetite) (List.mem_of_getElem? (i := 500) (by decide +kernel)) rfl)⟩
def fX1_appetite (i1 : Int32) (S : M2) : Option (Int32) :=
  bnd i1 4 <|
  lt (((S 10 i1.toNatClampNeg) + (S 12 0))) fun x1 =>
  bnd i1 4 <|
  if (S 8 i1.toNatClampNeg) = 1 then
    some (if (0 : Int32) < (x1 - (1 : Int32)) then (x1 - (1 : Int32)) else (0 : Int32))
  else
    if (S 8 i1.toNatClampNeg) = 2 then
      some ((2 : Int32) * x1)
    else
      if (S 8 i1.toNatClampNeg) = 3 then
        if (2 : Int32) = 0 then none else
        some (x1 / (2 : Int32))
      else
        some x1

set_option maxHeartbeats 4000000 in
set_option maxRecDepth 100000 in
theorem tX1_appetite (l : Launch) {V : JV M2} {b : Nat} {a : Nat → Nat} (hv : vX1 V b a) (S : M2) (i1 : Int32) : JC l V yX1_appetite cX1_appetite 3 (some .int) jj_i 1 [.ref b, .int i1] S ((fX1_appetite i1 S).map (fun r => (r, S))) := by
  refine jj_of (by decide) (Nat.le_of_ble_eq_true rfl) (fun E hlE hE => ?_)
  unfold fX1_appetite
  refine J_sub (L' := [(0, .ref b), (1, .int i1)]) [0, 1] rfl ?_
  refine J_aload_n hE dd_X1_appetite_0 0 rfl rfl ?_
  refine J_get hE (hv.ob _) jc_X1 10 (by decide) fl_RX1_33 (v := .ref (a 10)) rfl dd_X1_appetite_1 ?_
  refine J_iload_n hE dd_X1_appetite_4 1 rfl rfl ?_
  refine J_ald hE (hv.arr 10 (n := 4) (ty := .int) (by decide) _) dd_X1_appetite_5 ?_
  refine J_aload_n hE dd_X1_appetite_6 0 rfl rfl ?_
  refine J_get hE (hv.ob _) jc_X1 12 (by decide) fl_RX1_58 (v := .int (S 12 0)) rfl dd_X1_appetite_7 ?_
  refine J_iadd hE dd_X1_appetite_10 ?_
  refine J_leti (fun x1 => ?_)
  refine J_istore_n hE (L' := [(2, .int x1), (0, .ref b), (1, .int i1)]) dd_X1_appetite_11 (Nat.le_of_ble_eq_true rfl) rfl rfl ?_
  refine J_aload_n hE dd_X1_appetite_12 1 rfl rfl ?_
  refine J_get hE (hv.ob _) jc_X1 8 (by decide) fl_RX1_27 (v := .ref (a 8)) rfl dd_X1_appetite_13 ?_
  refine J_iload_n hE dd_X1_appetite_16 2 rfl rfl ?_
  refine J_ald hE (hv.arr 8 (n := 4) (ty := .int) (by decide) _) dd_X1_appetite_17 ?_
  refine J_ite (fun c2 => ?_) (fun c2 => ?_)
  · refine J_tsAt hE c2 (off := 26) (tgt := 44) dd_X1_appetite_18 (by decide) (by decide) (by decide) (by decide) ?_
    refine J_iconst hE (v := (0 : Int32)) dd_X1_appetite_44 (by decide) ?_
    refine J_iload_n hE dd_X1_appetite_45 0 rfl rfl ?_
    refine J_iconst hE (v := (1 : Int32)) dd_X1_appetite_46 (by decide) ?_
    refine J_isub hE dd_X1_appetite_47 ?_
    refine J_max hE ml_RX1_96 (Nat.le_of_ble_eq_true rfl) (Nat.le_of_ble_eq_true rfl) dd_X1_appetite_48 ?_
    exact J_iret hE dd_X1_appetite_51 rfl rfl
  · refine J_ite (fun c3 => ?_) (fun c3 => ?_)
    · refine J_tsAt hE c3 (off := 34) (tgt := 52) dd_X1_appetite_18 (by decide) (by decide) (by decide) (by decide) ?_
      refine J_iconst hE (v := (2 : Int32)) dd_X1_appetite_52 (by decide) ?_
      refine J_iload_n hE dd_X1_appetite_53 0 rfl rfl ?_
      refine J_imul hE dd_X1_appetite_54 ?_
      exact J_iret hE dd_X1_appetite_55 rfl rfl
    · refine J_ite (fun c4 => ?_) (fun c4 => ?_)
      · refine J_tsAt hE c4 (off := 38) (tgt := 56) dd_X1_appetite_18 (by decide) (by decide) (by decide) (by decide) ?_
        refine J_iload_n hE dd_X1_appetite_56 0 rfl rfl ?_
        refine J_iconst hE (v := (2 : Int32)) dd_X1_appetite_57 (by decide) ?_
        refine J_idiv hE dd_X1_appetite_58 (fun _ => ?_)
        exact J_iret hE dd_X1_appetite_59 rfl rfl
      · refine J_tsOut hE (tgt := 60) dd_X1_appetite_18 (by have e0 : ¬ ((S 8 i1.toNatClampNeg)).toInt = 1 := fun q => c2 (Int32.toInt_inj.mp (q.trans (by decide))); have e1 : ¬ ((S 8 i1.toNatClampNeg)).toInt = 2 := fun q => c3 (Int32.toInt_inj.mp (q.trans (by decide))); have e2 : ¬ ((S 8 i1.toNatClampNeg)).toInt = 3 := fun q => c4 (Int32.toInt_inj.mp (q.trans (by decide))); omega) (by decide) ?_
        refine J_iload_n hE dd_X1_appetite_60 0 rfl rfl ?_
        exact J_iret hE dd_X1_appetite_61 rfl rfl
theorem dd_X1_likes_0 : jd cX1_likes 0 (.aload_n 0) 1 1 := ⟨by decide +kernel, rfl⟩
theorem dd_X1_likes_1 : jd cX1_likes 1 (.getfield 27) 3 4 := ⟨by decide +kernel, rfl⟩
theorem dd_X1_likes_4 : jd cX1_likes 4 (.iload_n 1) 1 5 := ⟨by decide +kernel, rfl⟩
theorem dd_X1_likes_5 : jd cX1_likes 5 (.iaload) 1 6 := ⟨by decide +kernel, rfl⟩
theorem dd_X1_likes_32 : jd cX1_likes 32 (.aload_n 0) 1 33 := ⟨by decide +kernel, rfl⟩
theorem dd_X1_likes_33 : jd cX1_likes 33 (.getfield 9) 3 36 := ⟨by decide +kernel, rfl⟩
theorem dd_X1_likes_36 : jd cX1_likes 36 (.iload_n 2) 1 37 := ⟨by decide +kernel, rfl⟩
theorem dd_X1_likes_37 : jd cX1_likes 37 (.iaload) 1 38 := ⟨by decide +kernel, rfl⟩
theorem dd_X1_likes_38 : jd cX1_likes 38 (.aload_n 0) 1 39 := ⟨by decide +kernel, rfl⟩
theorem dd_X1_likes_39 : jd cX1_likes 39 (.getfield 30) 3 42 := ⟨by decide +kernel, rfl⟩
theorem dd_X1_likes_42 : jd cX1_likes 42 (.iload_n 1) 1 43 := ⟨by decide +kernel, rfl⟩
theorem dd_X1_likes_43 : jd cX1_likes 43 (.iaload) 1 44 := ⟨by decide +kernel, rfl⟩
theorem dd_X1_likes_51 : jd cX1_likes 51 (.iconst 0) 1 52 := ⟨by decide +kernel, rfl⟩
theorem dd_X1_likes_52 : jd cX1_likes 52 (.ireturn) 1 53 := ⟨by decide +kernel, rfl⟩
theorem dd_X1_likes_47 : jd cX1_likes 47 (.iconst 1) 1 48 := ⟨by decide +kernel, rfl⟩
theorem dd_X1_likes_48 : jd cX1_likes 48 (.goto 4) 3 51 := ⟨by decide +kernel, rfl⟩
theorem dd_X1_likes_44 : jd cX1_likes 44 (.if_icmp .ne 7) 3 47 := ⟨by decide +kernel, rfl⟩
theorem dd_X1_likes_53 : jd cX1_likes 53 (.iconst 1) 1 54 := ⟨by decide +kernel, rfl⟩
theorem dd_X1_likes_54 : jd cX1_likes 54 (.ireturn) 1 55 := ⟨by decide +kernel, rfl⟩
theorem dd_X1_likes_55 : jd cX1_likes 55 (.aload_n 0) 1 56 := ⟨by decide +kernel, rfl⟩
theorem dd_X1_likes_56 : jd cX1_likes 56 (.getfield 9) 3 59 := ⟨by decide +kernel, rfl⟩
theorem dd_X1_likes_59 : jd cX1_likes 59 (.iload_n 2) 1 60 := ⟨by decide +kernel, rfl⟩
theorem dd_X1_likes_60 : jd cX1_likes 60 (.iaload) 1 61 := ⟨by decide +kernel, rfl⟩
theorem dd_X1_likes_61 : jd cX1_likes 61 (.aload_n 0) 1 62 := ⟨by decide +kernel, rfl⟩
theorem dd_X1_likes_62 : jd cX1_likes 62 (.getfield 30) 3 65 := ⟨by decide +kernel, rfl⟩
theorem dd_X1_likes_65 : jd cX1_likes 65 (.iload_n 1) 1 66 := ⟨by decide +kernel, rfl⟩
theorem dd_X1_likes_66 : jd cX1_likes 66 (.iaload) 1 67 := ⟨by decide +kernel, rfl⟩
theorem dd_X1_likes_67 : jd cX1_likes 67 (.isub) 1 68 := ⟨by decide +kernel, rfl⟩
theorem dd_X1_likes_68 : jd cX1_likes 68 (.iconst 1) 1 69 := ⟨by decide +kernel, rfl⟩
theorem dd_X1_likes_93 : jd cX1_likes 93 (.iconst 0) 1 94 := ⟨by decide +kernel, rfl⟩
theorem dd_X1_likes_94 : jd cX1_likes 94 (.ireturn) 1 95 := ⟨by decide +kernel, rfl⟩
theorem dd_X1_likes_72 : jd cX1_likes 72 (.aload_n 0) 1 73 := ⟨by decide +kernel, rfl⟩
theorem dd_X1_likes_73 : jd cX1_likes 73 (.getfield 30) 3 76 := ⟨by decide +kernel, rfl⟩
theorem dd_X1_likes_76 : jd cX1_likes 76 (.iload_n 1) 1 77 := ⟨by decide +kernel, rfl⟩
theorem dd_X1_likes_77 : jd cX1_likes 77 (.iaload) 1 78 := ⟨by decide +kernel, rfl⟩
theorem dd_X1_likes_78 : jd cX1_likes 78 (.aload_n 0) 1 79 := ⟨by decide +kernel, rfl⟩
theorem dd_X1_likes_79 : jd cX1_likes 79 (.getfield 9) 3 82 := ⟨by decide +kernel, rfl⟩
theorem dd_X1_likes_82 : jd cX1_likes 82 (.iload_n 2) 1 83 := ⟨by decide +kernel, rfl⟩
theorem dd_X1_likes_83 : jd cX1_likes 83 (.iaload) 1 84 := ⟨by decide +kernel, rfl⟩
theorem dd_X1_likes_84 : jd cX1_likes 84 (.isub) 1 85 := ⟨by decide +kernel, rfl⟩
theorem dd_X1_likes_85 : jd cX1_likes 85 (.iconst 1) 1 86 := ⟨by decide +kernel, rfl⟩
theorem dd_X1_likes_89 : jd cX1_likes 89 (.iconst 1) 1 90 := ⟨by decide +kernel, rfl⟩
theorem dd_X1_likes_90 : jd cX1_likes 90 (.goto 4) 3 93 := ⟨by decide +kernel, rfl⟩
theorem dd_X1_likes_86 : jd cX1_likes 86 (.if_icmp .gt 7) 3 89 := ⟨by decide +kernel, rfl⟩
theorem dd_X1_likes_69 : jd cX1_likes 69 (.if_icmp .gt 24) 3 72 := ⟨by decide +kernel, rfl⟩
theorem dd_X1_likes_6 : jd cX1_likes 6 (.lookupswitch 49 #[(1, 26), (2, 47)]) 26 32 := ⟨by decide +kernel, rfl⟩
theorem m_X1_likes : jmV yX1_likes cX1_likes 3 (some .boolean) 2 := ⟨⟨(jj_m (w := Cond.code yX1_likes cX1_likes 3 (some .boolean)) (List.mem_of_getElem? (i := 512) (by decide +kernel)) rfl), (jj_m (w := Cond.initialized yX1_likes.cls) (List.mem_of_getElem? (i := 66) (by decide +kernel)) rfl), ⟨by decide, by decide⟩, by decide +kernel⟩, (jj_m (w := Cond.instanceMethod yX1_likes) (List.mem_of_getElem? (i := 510) (by decide +kernel)) rfl), (jj_m (w := Cond.selects yX1_likes.cls yX1_likes yX1_likes) (List.mem_of_getElem? (i := 511) (by decide +kernel)) rfl)⟩
def fX1_likes (i1 : Int32) (i2 : Int32) (S : M2) : Option (Int32) :=
  bnd i1 4 <|
  if (S 8 i1.toNatClampNeg) = 1 then
    bnd i2 5 <|
    bnd i1 4 <|
    if (S 1 i2.toNatClampNeg) = (S 9 i1.toNatClampNeg) then
      some (1 : Int32)
    else
      some (0 : Int32)
  else
    if (S 8 i1.toNatClampNeg) = 2 then
      some (1 : Int32)
    else
      bnd i2 5 <|
      bnd i1 4 <|
      if (1 : Int32) < ((S 1 i2.toNatClampNeg) - (S 9 i1.toNatClampNeg)) then
        some (0 : Int32)
      else
        bnd i1 4 <|
        bnd i2 5 <|
        if (1 : Int32) < ((S 9 i1.toNatClampNeg) - (S 1 i2.toNatClampNeg)) then
          some (0 : Int32)
        else
          some (1 : Int32)

set_option maxHeartbeats 4000000 in
set_option maxRecDepth 100000 in
theorem tX1_likes (l : Launch) {V : JV M2} {b : Nat} {a : Nat → Nat} (hv : vX1 V b a) (S : M2) (i1 : Int32) (i2 : Int32) : JC l V yX1_likes cX1_likes 3 (some .boolean) jj_i 0 [.ref b, .int i1, .int i2] S ((fX1_likes i1 i2 S).map (fun r => (r, S))) := by
  refine jj_of (by decide) (Nat.le_of_ble_eq_true rfl) (fun E hlE hE => ?_)
  unfold fX1_likes
  refine J_sub (L' := [(0, .ref b), (1, .int i1), (2, .int i2)]) [0, 1, 2] rfl ?_
  refine J_aload_n hE dd_X1_likes_0 0 rfl rfl ?_
  refine J_get hE (hv.ob _) jc_X1 8 (by decide) fl_RX1_27 (v := .ref (a 8)) rfl dd_X1_likes_1 ?_
  refine J_iload_n hE dd_X1_likes_4 1 rfl rfl ?_
  refine J_ald hE (hv.arr 8 (n := 4) (ty := .int) (by decide) _) dd_X1_likes_5 ?_
  refine J_ite (fun c1 => ?_) (fun c1 => ?_)
  · refine J_lsAt hE c1 (off := 26) (tgt := 32) dd_X1_likes_6 (by decide) (by decide) (by decide) ?_
    refine J_aload_n hE dd_X1_likes_32 0 rfl rfl ?_
    refine J_get hE (hv.ob _) jc_X1 1 (by decide) fl_RX1_9 (v := .ref (a 1)) rfl dd_X1_likes_33 ?_
    refine J_iload_n hE dd_X1_likes_36 2 rfl rfl ?_
    refine J_ald hE (hv.arr 1 (n := 5) (ty := .int) (by decide) _) dd_X1_likes_37 ?_
    refine J_aload_n hE dd_X1_likes_38 0 rfl rfl ?_
    refine J_get hE (hv.ob _) jc_X1 9 (by decide) fl_RX1_30 (v := .ref (a 9)) rfl dd_X1_likes_39 ?_
    refine J_iload_n hE dd_X1_likes_42 1 rfl rfl ?_
    refine J_ald hE (hv.arr 9 (n := 4) (ty := .int) (by decide) _) dd_X1_likes_43 ?_
    refine J_icmp_ne hE (tgt := 51) dd_X1_likes_44 (by decide) (fun c2 => ?_) (fun c2 => ?_)
    · refine J_iconst hE (v := (0 : Int32)) dd_X1_likes_51 (by decide) ?_
      exact J_zret hE (Or.inl rfl) dd_X1_likes_52 rfl rfl
    · refine J_iconst hE (v := (1 : Int32)) dd_X1_likes_47 (by decide) ?_
      refine J_goto hE (tgt := 52) dd_X1_likes_48 (by decide) ?_
      exact J_zret hE (Or.inr rfl) dd_X1_likes_52 rfl rfl
  · refine J_ite (fun c3 => ?_) (fun c3 => ?_)
    · refine J_lsAt hE c3 (off := 47) (tgt := 53) dd_X1_likes_6 (by decide) (by decide) (by decide) ?_
      refine J_iconst hE (v := (1 : Int32)) dd_X1_likes_53 (by decide) ?_
      exact J_zret hE (Or.inr rfl) dd_X1_likes_54 rfl rfl
    · refine J_lsw hE (off := 49) (tgt := 55) dd_X1_likes_6 (by decide) (by show Op.lookupswitch.offset [(1, 26), (2, 47)] 49 _ = 49; rw [Op.lookupswitch.offset_cons, if_neg (fun q => c1 (Int32.toInt_inj.mp (q.symm.trans (by decide)))), Op.lookupswitch.offset_cons, if_neg (fun q => c3 (Int32.toInt_inj.mp (q.symm.trans (by decide)))), Op.lookupswitch.offset_nil]) (by decide) ?_
      refine J_aload_n hE dd_X1_likes_55 0 rfl rfl ?_
      refine J_get hE (hv.ob _) jc_X1 1 (by decide) fl_RX1_9 (v := .ref (a 1)) rfl dd_X1_likes_56 ?_
      refine J_iload_n hE dd_X1_likes_59 2 rfl rfl ?_
      refine J_ald hE (hv.arr 1 (n := 5) (ty := .int) (by decide) _) dd_X1_likes_60 ?_
      refine J_aload_n hE dd_X1_likes_61 0 rfl rfl ?_
      refine J_get hE (hv.ob _) jc_X1 9 (by decide) fl_RX1_30 (v := .ref (a 9)) rfl dd_X1_likes_62 ?_
      refine J_iload_n hE dd_X1_likes_65 1 rfl rfl ?_
      refine J_ald hE (hv.arr 9 (n := 4) (ty := .int) (by decide) _) dd_X1_likes_66 ?_
      refine J_isub hE dd_X1_likes_67 ?_
      refine J_iconst hE (v := (1 : Int32)) dd_X1_likes_68 (by decide) ?_
      refine J_icmp_gt hE (tgt := 93) dd_X1_likes_69 (by decide) (fun c5 => ?_) (fun c5 => ?_)
      · refine J_iconst hE (v := (0 : Int32)) dd_X1_likes_93 (by decide) ?_
        exact J_zret hE (Or.inl rfl) dd_X1_likes_94 rfl rfl
      · refine J_aload_n hE dd_X1_likes_72 0 rfl rfl ?_
        refine J_get hE (hv.ob _) jc_X1 9 (by decide) fl_RX1_30 (v := .ref (a 9)) rfl dd_X1_likes_73 ?_
        refine J_iload_n hE dd_X1_likes_76 1 rfl rfl ?_
        refine J_ald hE (hv.arr 9 (n := 4) (ty := .int) (by decide) _) dd_X1_likes_77 ?_
        refine J_aload_n hE dd_X1_likes_78 0 rfl rfl ?_
        refine J_get hE (hv.ob _) jc_X1 1 (by decide) fl_RX1_9 (v := .ref (a 1)) rfl dd_X1_likes_79 ?_
        refine J_iload_n hE dd_X1_likes_82 2 rfl rfl ?_
        refine J_ald hE (hv.arr 1 (n := 5) (ty := .int) (by decide) _) dd_X1_likes_83 ?_
        refine J_isub hE dd_X1_likes_84 ?_
        refine J_iconst hE (v := (1 : Int32)) dd_X1_likes_85 (by decide) ?_
        refine J_icmp_gt hE (tgt := 93) dd_X1_likes_86 (by decide) (fun c4 => ?_) (fun c4 => ?_)
        · refine J_iconst hE (v := (0 : Int32)) dd_X1_likes_93 (by decide) ?_
          exact J_zret hE (Or.inl rfl) dd_X1_likes_94 rfl rfl
        · refine J_iconst hE (v := (1 : Int32)) dd_X1_likes_89 (by decide) ?_
          refine J_goto hE (tgt := 94) dd_X1_likes_90 (by decide) ?_
          exact J_zret hE (Or.inr rfl) dd_X1_likes_94 rfl rfl
theorem dd_X1_liked_0 : jd cX1_liked 0 (.iconst 0) 1 1 := ⟨by decide +kernel, rfl⟩
theorem dd_X1_liked_1 : jd cX1_liked 1 (.istore_n 2) 1 2 := ⟨by decide +kernel, rfl⟩
theorem dd_X1_liked_2 : jd cX1_liked 2 (.iconst 0) 1 3 := ⟨by decide +kernel, rfl⟩
theorem dd_X1_liked_3 : jd cX1_liked 3 (.istore_n 3) 1 4 := ⟨by decide +kernel, rfl⟩
theorem dd_X1_liked_4 : jd cX1_liked 4 (.iload_n 3) 1 5 := ⟨by decide +kernel, rfl⟩
theorem dd_X1_liked_5 : jd cX1_liked 5 (.aload_n 0) 1 6 := ⟨by decide +kernel, rfl⟩
theorem dd_X1_liked_6 : jd cX1_liked 6 (.getfield 49) 3 9 := ⟨by decide +kernel, rfl⟩
theorem dd_X1_liked_12 : jd cX1_liked 12 (.aload_n 0) 1 13 := ⟨by decide +kernel, rfl⟩
theorem dd_X1_liked_13 : jd cX1_liked 13 (.iload_n 1) 1 14 := ⟨by decide +kernel, rfl⟩
theorem dd_X1_liked_14 : jd cX1_liked 14 (.iload_n 3) 1 15 := ⟨by decide +kernel, rfl⟩
theorem ml_RX1_102 : (Cond.methodLink "MothCustoms$Shed" 102 yX1_likes : Cond) ∈ jj_tb := jj_m (List.mem_of_getElem? (i := 509) (by decide +kernel)) rfl
theorem dd_X1_liked_15 : jd cX1_liked 15 (.invokevirtual 102) 3 18 := ⟨by decide +kernel, rfl⟩
theorem dd_X1_liked_21 : jd cX1_liked 21 (.iload_n 2) 1 22 := ⟨by decide +kernel, rfl⟩
theorem dd_X1_liked_22 : jd cX1_liked 22 (.iconst 1) 1 23 := ⟨by decide +kernel, rfl⟩
theorem dd_X1_liked_23 : jd cX1_liked 23 (.iload_n 3) 1 24 := ⟨by decide +kernel, rfl⟩
theorem dd_X1_liked_24 : jd cX1_liked 24 (.ishl) 1 25 := ⟨by decide +kernel, rfl⟩
theorem dd_X1_liked_25 : jd cX1_liked 25 (.ior) 1 26 := ⟨by decide +kernel, rfl⟩
theorem dd_X1_liked_26 : jd cX1_liked 26 (.istore_n 2) 1 27 := ⟨by decide +kernel, rfl⟩
theorem dd_X1_liked_18 : jd cX1_liked 18 (.ifCond .eq 9) 3 21 := ⟨by decide +kernel, rfl⟩
theorem dd_X1_liked_27 : jd cX1_liked 27 (.iinc 3 1) 3 30 := ⟨by decide +kernel, rfl⟩
theorem dd_X1_liked_30 : jd cX1_liked 30 (.goto (-26)) 3 33 := ⟨by decide +kernel, rfl⟩
theorem dd_X1_liked_9 : jd cX1_liked 9 (.if_icmp .ge 24) 3 12 := ⟨by decide +kernel, rfl⟩
theorem dd_X1_liked_33 : jd cX1_liked 33 (.iload_n 2) 1 34 := ⟨by decide +kernel, rfl⟩
theorem dd_X1_liked_34 : jd cX1_liked 34 (.ireturn) 1 35 := ⟨by decide +kernel, rfl⟩
theorem m_X1_liked : jmV yX1_liked cX1_liked 4 (some .int) 1 := ⟨⟨(jj_m (w := Cond.code yX1_liked cX1_liked 4 (some .int)) (List.mem_of_getElem? (i := 508) (by decide +kernel)) rfl), (jj_m (w := Cond.initialized yX1_liked.cls) (List.mem_of_getElem? (i := 66) (by decide +kernel)) rfl), ⟨by decide, by decide⟩, by decide +kernel⟩, (jj_m (w := Cond.instanceMethod yX1_liked) (List.mem_of_getElem? (i := 506) (by decide +kernel)) rfl), (jj_m (w := Cond.selects yX1_liked.cls yX1_liked yX1_liked) (List.mem_of_getElem? (i := 507) (by decide +kernel)) rfl)⟩
def fX1_liked_L4 (S : M2) (i1 : Int32) (k33 : Int32 → Option (Int32)) : Nat → Int32 → Int32 → Option (Int32)
  | 0, _, _ => none
  | n_ + 1, v1, v2 =>
    if (S 0 0) ≤ v2 then
      k33 v1
    else
      (fX1_likes i1 v2 S).bind fun r3 =>
      jn (α := Option (Int32)) (β := Int32) (fun j4 =>
        if r3 = 0 then
          j4 v1
        else
          lt ((v1 ||| ((1 : Int32) <<< (v2 &&& 31)))) fun x5 =>
          j4 x5) (fun p7 => 
        lt (v2 + (1 : Int32)) fun x8 =>
        fX1_liked_L4 S i1 k33 n_ p7 x8)

def fX1_liked (i1 : Int32) (S : M2) : Option (Int32) :=
  fX1_liked_L4 S i1
    (fun p10 =>
      some p10)
    400 (0 : Int32) (0 : Int32)

set_option maxHeartbeats 4000000 in
set_option maxRecDepth 100000 in
theorem tX1_liked_L4 {V : JV M2} {b : Nat} {a : Nat → Nat} (hv : vX1 V b a) (S : M2) (i1 : Int32) {E : JE (M2) Int32} (hE : JOk V E cX1_liked yX1_liked.cls 4 1 (some .int) jj_i) {k33 : Int32 → Option (Int32)} (hk33 : ∀ p, J V E (fun r => (r, S)) (k33 p) 33 [(2, .int p)] [] S) : ∀ (n_ : Nat) (v1 : Int32) (v2 : Int32), J V E (fun r => (r, S)) (fX1_liked_L4 S i1 k33 n_ v1 v2) 4 [(0, .ref b), (1, .int i1), (2, .int v1), (3, .int v2)] [] S := by
  intro n_
  induction n_ with
  | zero =>
    intros
    exact J_none
  | succ n_ ih =>
    intros v1 v2
    rw [fX1_liked_L4]
    refine J_iload_n hE dd_X1_liked_4 3 rfl rfl ?_
    refine J_aload_n hE dd_X1_liked_5 0 rfl rfl ?_
    refine J_get hE (hv.ob _) jc_X1 0 (by decide) fl_RX1_49 (v := .int (S 0 0)) rfl dd_X1_liked_6 ?_
    refine J_icmp_ge hE (tgt := 33) dd_X1_liked_9 (by decide) (fun c9 => ?_) (fun c9 => ?_)
    · refine J_sub [2] rfl ?_
      exact hk33 v1
    · refine J_aload_n hE dd_X1_liked_12 0 rfl rfl ?_
      refine J_iload_n hE dd_X1_liked_13 1 rfl rfl ?_
      refine J_iload_n hE dd_X1_liked_14 3 rfl rfl ?_
      refine J_invVri hE (As := [.int i1, .int v2]) (st := []) (tX1_likes E.2.1 hv S i1 v2) (hv.ob _) m_X1_likes rfl ml_RX1_102 (Nat.le_of_ble_eq_true rfl) (Nat.le_of_ble_eq_true rfl) rfl (Nat.le_of_ble_eq_true rfl) dd_X1_liked_15 (fun r3 => ?_)
      refine J_jn (m := 27) (Lf := fun p7 => [(0, .ref b), (1, .int i1), (2, .int p7), (3, .int v2)]) (sf := fun p7 => []) (Xf := fun p7 => S) (fun p7 => ?_) (fun hj4 => ?_)
      · show J V E _ _ 27 [(0, .ref b), (1, .int i1), (2, .int p7), (3, .int v2)] [] S
        refine J_iincL hE (v := (v2 + (1 : Int32))) (Lf := fun x8 => [(3, .int x8), (0, .ref b), (1, .int i1), (2, .int p7)]) dd_X1_liked_27 (j := 3) rfl (congrArg (v2 + ·) (by decide)) (Nat.le_of_ble_eq_true rfl) (fun _ => rfl) (fun x8 => ?_)
        refine J_goto hE (tgt := 4) dd_X1_liked_30 (by decide) ?_
        refine J_sub [1, 2, 3, 0] rfl ?_
        exact ih p7 x8
      · refine J_if_eq hE (tgt := 27) dd_X1_liked_18 (by decide) (fun c6 => ?_) (fun c6 => ?_)
        · refine J_sub [0, 1, 2, 3] rfl ?_
          exact hj4 v1
        · refine J_iload_n hE dd_X1_liked_21 2 rfl rfl ?_
          refine J_iconst hE (v := (1 : Int32)) dd_X1_liked_22 (by decide) ?_
          refine J_iload_n hE dd_X1_liked_23 3 rfl rfl ?_
          refine J_ishl hE dd_X1_liked_24 ?_
          refine J_ior hE dd_X1_liked_25 ?_
          refine J_leti (fun x5 => ?_)
          refine J_istore_n hE (L' := [(2, .int x5), (0, .ref b), (1, .int i1), (3, .int v2)]) dd_X1_liked_26 (Nat.le_of_ble_eq_true rfl) rfl rfl ?_
          refine J_sub [1, 2, 0, 3] rfl ?_
          exact hj4 x5
set_option maxHeartbeats 4000000 in
set_option maxRecDepth 100000 in
theorem tX1_liked (l : Launch) {V : JV M2} {b : Nat} {a : Nat → Nat} (hv : vX1 V b a) (S : M2) (i1 : Int32) : JC l V yX1_liked cX1_liked 4 (some .int) jj_i 1 [.ref b, .int i1] S ((fX1_liked i1 S).map (fun r => (r, S))) := by
  refine jj_of (by decide) (Nat.le_of_ble_eq_true rfl) (fun E hlE hE => ?_)
  unfold fX1_liked
  refine J_sub (L' := [(0, .ref b), (1, .int i1)]) [0, 1] rfl ?_
  refine J_iconst hE (v := (0 : Int32)) dd_X1_liked_0 (by decide) ?_
  refine J_istore_n hE (L' := [(2, .int (0 : Int32)), (0, .ref b), (1, .int i1)]) dd_X1_liked_1 (Nat.le_of_ble_eq_true rfl) rfl rfl ?_
  refine J_iconst hE (v := (0 : Int32)) dd_X1_liked_2 (by decide) ?_
  refine J_istore_n hE (L' := [(3, .int (0 : Int32)), (2, .int (0 : Int32)), (0, .ref b), (1, .int i1)]) dd_X1_liked_3 (Nat.le_of_ble_eq_true rfl) rfl rfl ?_
  refine J_sub [2, 3, 1, 0] rfl ?_
  refine tX1_liked_L4 hv S i1 hE (fun p10 => ?_) 400 (0 : Int32) (0 : Int32)
  show J V E _ _ 33 [(2, .int p10)] [] S
  refine J_iload_n hE dd_X1_liked_33 0 rfl rfl ?_
  exact J_iret hE dd_X1_liked_34 rfl rfl
theorem dd_X1_eatDown_0 : jd cX1_eatDown 0 (.aload_n 0) 1 1 := ⟨by decide +kernel, rfl⟩
theorem dd_X1_eatDown_1 : jd cX1_eatDown 1 (.iload_n 1) 1 2 := ⟨by decide +kernel, rfl⟩
theorem ml_RX1_112 : (Cond.methodLink "MothCustoms$Shed" 112 yX1_appetite : Cond) ∈ jj_tb := jj_m (List.mem_of_getElem? (i := 595) (by decide +kernel)) rfl
theorem dd_X1_eatDown_2 : jd cX1_eatDown 2 (.invokevirtual 112) 3 5 := ⟨by decide +kernel, rfl⟩
theorem dd_X1_eatDown_5 : jd cX1_eatDown 5 (.istore_n 2) 1 6 := ⟨by decide +kernel, rfl⟩
theorem dd_X1_eatDown_6 : jd cX1_eatDown 6 (.aload_n 0) 1 7 := ⟨by decide +kernel, rfl⟩
theorem dd_X1_eatDown_7 : jd cX1_eatDown 7 (.getfield 36) 3 10 := ⟨by decide +kernel, rfl⟩
theorem dd_X1_eatDown_10 : jd cX1_eatDown 10 (.iload_n 1) 1 11 := ⟨by decide +kernel, rfl⟩
theorem dd_X1_eatDown_11 : jd cX1_eatDown 11 (.iaload) 1 12 := ⟨by decide +kernel, rfl⟩
theorem dd_X1_eatDown_12 : jd cX1_eatDown 12 (.istore_n 3) 1 13 := ⟨by decide +kernel, rfl⟩
theorem dd_X1_eatDown_13 : jd cX1_eatDown 13 (.iconst 0) 1 14 := ⟨by decide +kernel, rfl⟩
theorem dd_X1_eatDown_14 : jd cX1_eatDown 14 (.istore 4) 2 16 := ⟨by decide +kernel, rfl⟩
theorem dd_X1_eatDown_16 : jd cX1_eatDown 16 (.iload 4) 2 18 := ⟨by decide +kernel, rfl⟩
theorem dd_X1_eatDown_18 : jd cX1_eatDown 18 (.aload_n 0) 1 19 := ⟨by decide +kernel, rfl⟩
theorem dd_X1_eatDown_19 : jd cX1_eatDown 19 (.getfield 24) 3 22 := ⟨by decide +kernel, rfl⟩
theorem dd_X1_eatDown_22 : jd cX1_eatDown 22 (.iload_n 3) 1 23 := ⟨by decide +kernel, rfl⟩
theorem dd_X1_eatDown_23 : jd cX1_eatDown 23 (.iaload) 1 24 := ⟨by decide +kernel, rfl⟩
theorem dd_X1_eatDown_27 : jd cX1_eatDown 27 (.iload_n 2) 1 28 := ⟨by decide +kernel, rfl⟩
theorem dd_X1_eatDown_31 : jd cX1_eatDown 31 (.aload_n 0) 1 32 := ⟨by decide +kernel, rfl⟩
theorem dd_X1_eatDown_32 : jd cX1_eatDown 32 (.getfield 21) 3 35 := ⟨by decide +kernel, rfl⟩
theorem dd_X1_eatDown_35 : jd cX1_eatDown 35 (.iload_n 3) 1 36 := ⟨by decide +kernel, rfl⟩
theorem dd_X1_eatDown_36 : jd cX1_eatDown 36 (.iconst 5) 1 37 := ⟨by decide +kernel, rfl⟩
theorem dd_X1_eatDown_37 : jd cX1_eatDown 37 (.imul) 1 38 := ⟨by decide +kernel, rfl⟩
theorem dd_X1_eatDown_38 : jd cX1_eatDown 38 (.iload 4) 2 40 := ⟨by decide +kernel, rfl⟩
theorem dd_X1_eatDown_40 : jd cX1_eatDown 40 (.iadd) 1 41 := ⟨by decide +kernel, rfl⟩
theorem dd_X1_eatDown_41 : jd cX1_eatDown 41 (.iaload) 1 42 := ⟨by decide +kernel, rfl⟩
theorem dd_X1_eatDown_42 : jd cX1_eatDown 42 (.istore 5) 2 44 := ⟨by decide +kernel, rfl⟩
theorem dd_X1_eatDown_44 : jd cX1_eatDown 44 (.aload_n 0) 1 45 := ⟨by decide +kernel, rfl⟩
theorem dd_X1_eatDown_45 : jd cX1_eatDown 45 (.iload 5) 2 47 := ⟨by decide +kernel, rfl⟩
theorem ml_RX1_115 : (Cond.methodLink "MothCustoms$Shed" 115 yX1_hasCamphor : Cond) ∈ jj_tb := jj_m (List.mem_of_getElem? (i := 596) (by decide +kernel)) rfl
theorem dd_X1_eatDown_47 : jd cX1_eatDown 47 (.invokevirtual 115) 3 50 := ⟨by decide +kernel, rfl⟩
theorem dd_X1_eatDown_54 : jd cX1_eatDown 54 (.aload_n 0) 1 55 := ⟨by decide +kernel, rfl⟩
theorem dd_X1_eatDown_55 : jd cX1_eatDown 55 (.iload_n 1) 1 56 := ⟨by decide +kernel, rfl⟩
theorem dd_X1_eatDown_56 : jd cX1_eatDown 56 (.iload 5) 2 58 := ⟨by decide +kernel, rfl⟩
theorem dd_X1_eatDown_58 : jd cX1_eatDown 58 (.invokevirtual 102) 3 61 := ⟨by decide +kernel, rfl⟩
theorem dd_X1_eatDown_64 : jd cX1_eatDown 64 (.iload_n 2) 1 65 := ⟨by decide +kernel, rfl⟩
theorem dd_X1_eatDown_65 : jd cX1_eatDown 65 (.aload_n 0) 1 66 := ⟨by decide +kernel, rfl⟩
theorem dd_X1_eatDown_66 : jd cX1_eatDown 66 (.getfield 15) 3 69 := ⟨by decide +kernel, rfl⟩
theorem dd_X1_eatDown_69 : jd cX1_eatDown 69 (.iload 5) 2 71 := ⟨by decide +kernel, rfl⟩
theorem dd_X1_eatDown_71 : jd cX1_eatDown 71 (.iaload) 1 72 := ⟨by decide +kernel, rfl⟩
theorem dd_X1_eatDown_72 : jd cX1_eatDown 72 (.aload_n 0) 1 73 := ⟨by decide +kernel, rfl⟩
theorem dd_X1_eatDown_73 : jd cX1_eatDown 73 (.getfield 18) 3 76 := ⟨by decide +kernel, rfl⟩
theorem dd_X1_eatDown_76 : jd cX1_eatDown 76 (.iload 5) 2 78 := ⟨by decide +kernel, rfl⟩
theorem dd_X1_eatDown_78 : jd cX1_eatDown 78 (.iaload) 1 79 := ⟨by decide +kernel, rfl⟩
theorem dd_X1_eatDown_79 : jd cX1_eatDown 79 (.isub) 1 80 := ⟨by decide +kernel, rfl⟩
theorem ml_RX1_119 : (Cond.methodLink "MothCustoms$Shed" 119 Lib.Math.min.name : Cond) ∈ jj_tb := jj_m (List.mem_of_getElem? (i := 528) (by decide +kernel)) rfl
theorem dd_X1_eatDown_80 : jd cX1_eatDown 80 (.invokestatic 119) 3 83 := ⟨by decide +kernel, rfl⟩
theorem dd_X1_eatDown_83 : jd cX1_eatDown 83 (.istore 6) 2 85 := ⟨by decide +kernel, rfl⟩
theorem dd_X1_eatDown_85 : jd cX1_eatDown 85 (.aload_n 0) 1 86 := ⟨by decide +kernel, rfl⟩
theorem dd_X1_eatDown_86 : jd cX1_eatDown 86 (.getfield 18) 3 89 := ⟨by decide +kernel, rfl⟩
theorem dd_X1_eatDown_89 : jd cX1_eatDown 89 (.iload 5) 2 91 := ⟨by decide +kernel, rfl⟩
theorem dd_X1_eatDown_91 : jd cX1_eatDown 91 (.dup2) 1 92 := ⟨by decide +kernel, rfl⟩
theorem dd_X1_eatDown_92 : jd cX1_eatDown 92 (.iaload) 1 93 := ⟨by decide +kernel, rfl⟩
theorem dd_X1_eatDown_93 : jd cX1_eatDown 93 (.iload 6) 2 95 := ⟨by decide +kernel, rfl⟩
theorem dd_X1_eatDown_95 : jd cX1_eatDown 95 (.iadd) 1 96 := ⟨by decide +kernel, rfl⟩
theorem dd_X1_eatDown_96 : jd cX1_eatDown 96 (.iastore) 1 97 := ⟨by decide +kernel, rfl⟩
theorem dd_X1_eatDown_97 : jd cX1_eatDown 97 (.iload_n 2) 1 98 := ⟨by decide +kernel, rfl⟩
theorem dd_X1_eatDown_98 : jd cX1_eatDown 98 (.iload 6) 2 100 := ⟨by decide +kernel, rfl⟩
theorem dd_X1_eatDown_100 : jd cX1_eatDown 100 (.isub) 1 101 := ⟨by decide +kernel, rfl⟩
theorem dd_X1_eatDown_101 : jd cX1_eatDown 101 (.istore_n 2) 1 102 := ⟨by decide +kernel, rfl⟩
theorem dd_X1_eatDown_61 : jd cX1_eatDown 61 (.ifCond .eq 41) 3 64 := ⟨by decide +kernel, rfl⟩
theorem dd_X1_eatDown_102 : jd cX1_eatDown 102 (.iinc 4 1) 3 105 := ⟨by decide +kernel, rfl⟩
theorem dd_X1_eatDown_105 : jd cX1_eatDown 105 (.goto (-89)) 3 108 := ⟨by decide +kernel, rfl⟩
theorem dd_X1_eatDown_53 : jd cX1_eatDown 53 (.return_) 1 54 := ⟨by decide +kernel, rfl⟩
theorem dd_X1_eatDown_50 : jd cX1_eatDown 50 (.ifCond .eq 4) 3 53 := ⟨by decide +kernel, rfl⟩
theorem dd_X1_eatDown_28 : jd cX1_eatDown 28 (.ifCond .le 80) 3 31 := ⟨by decide +kernel, rfl⟩
theorem dd_X1_eatDown_24 : jd cX1_eatDown 24 (.if_icmp .ge 84) 3 27 := ⟨by decide +kernel, rfl⟩
theorem dd_X1_eatDown_108 : jd cX1_eatDown 108 (.return_) 1 109 := ⟨by decide +kernel, rfl⟩
theorem m_X1_eatDown : jmV yX1_eatDown cX1_eatDown 7 none 1 := ⟨⟨(jj_m (w := Cond.code yX1_eatDown cX1_eatDown 7 none) (List.mem_of_getElem? (i := 594) (by decide +kernel)) rfl), (jj_m (w := Cond.initialized yX1_eatDown.cls) (List.mem_of_getElem? (i := 66) (by decide +kernel)) rfl), ⟨by decide, by decide⟩, by decide +kernel⟩, (jj_m (w := Cond.instanceMethod yX1_eatDown) (List.mem_of_getElem? (i := 593) (by decide +kernel)) rfl), (jj_m (w := Cond.selects yX1_eatDown.cls yX1_eatDown yX1_eatDown) (List.mem_of_getElem? (i := 9) (by decide +kernel)) rfl)⟩
def fX1_eatDown_L16 (i1 : Int32) (x2 : Int32) (k108 : M2 → Option (M2)) : Nat → Int32 → Int32 → M2 → Option (M2)
  | 0, _, _, _ => none
  | n_ + 1, v3, v4, S5 =>
    bnd x2 3 <|
    if (S5 6 x2.toNatClampNeg) ≤ v4 then
      k108 S5
    else
      if v3 ≤ 0 then
        k108 S5
      else
        bnd ((x2 * (5 : Int32)) + v4) 15 <|
        lt ((S5 5 ((x2 * (5 : Int32)) + v4).toNatClampNeg)) fun x6 =>
        (fX1_hasCamphor x6 S5).bind fun r7 =>
        if r7 = 0 then
          (fX1_likes i1 x6 S5).bind fun r8 =>
          jn (α := Option (M2)) (β := Int32 × M2) (fun j9 =>
            if r8 = 0 then
              j9 (v3, S5)
            else
              bnd x6 5 <|
              bnd x6 5 <|
              lt ((if ((S5 2 x6.toNatClampNeg) - (S5 3 x6.toNatClampNeg)) < v3 then ((S5 2 x6.toNatClampNeg) - (S5 3 x6.toNatClampNeg)) else v3)) fun x10 =>
              bnd x6 5 <|
              bnd x6 5 <|
              lt (va_up S5 3 (upd (S5 3) x6.toNatClampNeg ((S5 3 x6.toNatClampNeg) + x10))) fun S11 =>
              lt ((v3 - x10)) fun x12 =>
              j9 (x12, S11)) (fun p14 => 
            lt (v4 + (1 : Int32)) fun x15 =>
            fX1_eatDown_L16 i1 x2 k108 n_ p14.1 x15 p14.2)
        else
          some S5

def fX1_eatDown (i1 : Int32) (S : M2) : Option (M2) :=
  (fX1_appetite i1 S).bind fun r1 =>
  bnd i1 4 <|
  lt ((S 11 i1.toNatClampNeg)) fun x2 =>
  fX1_eatDown_L16 i1 x2
    (fun p19 =>
      some p19)
    400 r1 (0 : Int32) S

set_option maxHeartbeats 4000000 in
set_option maxRecDepth 100000 in
theorem tX1_eatDown_L16 {V : JV M2} {b : Nat} {a : Nat → Nat} (hv : vX1 V b a) (i1 : Int32) (x2 : Int32) {E : JE (M2) Unit} (hE : JOk V E cX1_eatDown yX1_eatDown.cls 7 2 none jj_v) {k108 : M2 → Option (M2)} (hk108 : ∀ p, J V E (fun q => ((), q)) (k108 p) 108 [] [] p) : ∀ (n_ : Nat) (v3 : Int32) (v4 : Int32) (S5 : M2), J V E (fun q => ((), q)) (fX1_eatDown_L16 i1 x2 k108 n_ v3 v4 S5) 16 [(0, .ref b), (1, .int i1), (2, .int v3), (3, .int x2), (4, .int v4)] [] S5 := by
  intro n_
  induction n_ with
  | zero =>
    intros
    exact J_none
  | succ n_ ih =>
    intros v3 v4 S5
    rw [fX1_eatDown_L16]
    refine J_iload hE dd_X1_eatDown_16 4 rfl ?_
    refine J_aload_n hE dd_X1_eatDown_18 0 rfl rfl ?_
    refine J_get hE (hv.ob _) jc_X1 6 (by decide) fl_RX1_24 (v := .ref (a 6)) rfl dd_X1_eatDown_19 ?_
    refine J_iload_n hE dd_X1_eatDown_22 3 rfl rfl ?_
    refine J_ald hE (hv.arr 6 (n := 3) (ty := .int) (by decide) _) dd_X1_eatDown_23 ?_
    refine J_icmp_ge hE (tgt := 108) dd_X1_eatDown_24 (by decide) (fun c18 => ?_) (fun c18 => ?_)
    · refine J_sub [] rfl ?_
      exact hk108 S5
    · refine J_iload_n hE dd_X1_eatDown_27 2 rfl rfl ?_
      refine J_if_le hE (tgt := 108) dd_X1_eatDown_28 (by decide) (fun c17 => ?_) (fun c17 => ?_)
      · refine J_sub [] rfl ?_
        exact hk108 S5
      · refine J_aload_n hE dd_X1_eatDown_31 0 rfl rfl ?_
        refine J_get hE (hv.ob _) jc_X1 5 (by decide) fl_RX1_21 (v := .ref (a 5)) rfl dd_X1_eatDown_32 ?_
        refine J_iload_n hE dd_X1_eatDown_35 3 rfl rfl ?_
        refine J_iconst hE (v := (5 : Int32)) dd_X1_eatDown_36 (by decide) ?_
        refine J_imul hE dd_X1_eatDown_37 ?_
        refine J_iload hE dd_X1_eatDown_38 4 rfl ?_
        refine J_iadd hE dd_X1_eatDown_40 ?_
        refine J_ald hE (hv.arr 5 (n := 15) (ty := .int) (by decide) _) dd_X1_eatDown_41 ?_
        refine J_leti (fun x6 => ?_)
        refine J_istore hE (L' := [(5, .int x6), (0, .ref b), (1, .int i1), (2, .int v3), (3, .int x2), (4, .int v4)]) dd_X1_eatDown_42 (Nat.le_of_ble_eq_true rfl) rfl ?_
        refine J_aload_n hE dd_X1_eatDown_44 1 rfl rfl ?_
        refine J_iload hE dd_X1_eatDown_45 0 rfl ?_
        refine J_invVri hE (As := [.int x6]) (st := []) (tX1_hasCamphor E.2.1 hv S5 x6) (hv.ob _) m_X1_hasCamphor rfl ml_RX1_115 (Nat.le_of_ble_eq_true rfl) (Nat.le_of_ble_eq_true rfl) rfl (Nat.le_of_ble_eq_true rfl) dd_X1_eatDown_47 (fun r7 => ?_)
        refine J_if_eq hE (tgt := 54) dd_X1_eatDown_50 (by decide) (fun c16 => ?_) (fun c16 => ?_)
        · refine J_aload_n hE dd_X1_eatDown_54 1 rfl rfl ?_
          refine J_iload_n hE dd_X1_eatDown_55 2 rfl rfl ?_
          refine J_iload hE dd_X1_eatDown_56 0 rfl ?_
          refine J_invVri hE (As := [.int i1, .int x6]) (st := []) (tX1_likes E.2.1 hv S5 i1 x6) (hv.ob _) m_X1_likes rfl ml_RX1_102 (Nat.le_of_ble_eq_true rfl) (Nat.le_of_ble_eq_true rfl) rfl (Nat.le_of_ble_eq_true rfl) dd_X1_eatDown_58 (fun r8 => ?_)
          refine J_jn (m := 102) (Lf := fun p14 => [(0, .ref b), (1, .int i1), (2, .int p14.1), (3, .int x2), (4, .int v4)]) (sf := fun p14 => []) (Xf := fun p14 => p14.2) (fun p14 => ?_) (fun hj9 => ?_)
          · show J V E _ _ 102 [(0, .ref b), (1, .int i1), (2, .int p14.1), (3, .int x2), (4, .int v4)] [] p14.2
            refine J_iincL hE (v := (v4 + (1 : Int32))) (Lf := fun x15 => [(4, .int x15), (0, .ref b), (1, .int i1), (2, .int p14.1), (3, .int x2)]) dd_X1_eatDown_102 (j := 4) rfl (congrArg (v4 + ·) (by decide)) (Nat.le_of_ble_eq_true rfl) (fun _ => rfl) (fun x15 => ?_)
            refine J_goto hE (tgt := 16) dd_X1_eatDown_105 (by decide) ?_
            refine J_sub [1, 2, 3, 4, 0] rfl ?_
            exact ih p14.1 x15 p14.2
          · refine J_if_eq hE (tgt := 102) dd_X1_eatDown_61 (by decide) (fun c13 => ?_) (fun c13 => ?_)
            · refine J_sub [1, 2, 3, 4, 5] rfl ?_
              exact hj9 (v3, S5)
            · refine J_iload_n hE dd_X1_eatDown_64 3 rfl rfl ?_
              refine J_aload_n hE dd_X1_eatDown_65 1 rfl rfl ?_
              refine J_get hE (hv.ob _) jc_X1 2 (by decide) fl_RX1_15 (v := .ref (a 2)) rfl dd_X1_eatDown_66 ?_
              refine J_iload hE dd_X1_eatDown_69 0 rfl ?_
              refine J_ald hE (hv.arr 2 (n := 5) (ty := .int) (by decide) _) dd_X1_eatDown_71 ?_
              refine J_aload_n hE dd_X1_eatDown_72 1 rfl rfl ?_
              refine J_get hE (hv.ob _) jc_X1 3 (by decide) fl_RX1_18 (v := .ref (a 3)) rfl dd_X1_eatDown_73 ?_
              refine J_iload hE dd_X1_eatDown_76 0 rfl ?_
              refine J_ald hE (hv.arr 3 (n := 5) (ty := .int) (by decide) _) dd_X1_eatDown_78 ?_
              refine J_isub hE dd_X1_eatDown_79 ?_
              refine J_min hE ml_RX1_119 (Nat.le_of_ble_eq_true rfl) (Nat.le_of_ble_eq_true rfl) dd_X1_eatDown_80 ?_
              refine J_leti (fun x10 => ?_)
              refine J_istore hE (L' := [(6, .int x10), (5, .int x6), (0, .ref b), (1, .int i1), (2, .int v3), (3, .int x2), (4, .int v4)]) dd_X1_eatDown_83 (Nat.le_of_ble_eq_true rfl) rfl ?_
              refine J_aload_n hE dd_X1_eatDown_85 2 rfl rfl ?_
              refine J_get hE (hv.ob _) jc_X1 3 (by decide) fl_RX1_18 (v := .ref (a 3)) rfl dd_X1_eatDown_86 ?_
              refine J_iload hE dd_X1_eatDown_89 1 rfl ?_
              refine J_dup2 hE dd_X1_eatDown_91 rfl rfl ?_
              refine J_ald hE (hv.arr 3 (n := 5) (ty := .int) (by decide) _) dd_X1_eatDown_92 ?_
              refine J_iload hE dd_X1_eatDown_93 0 rfl ?_
              refine J_iadd hE dd_X1_eatDown_95 ?_
              refine J_ast hE hv 3 (N := 5) (by decide) dd_X1_eatDown_96 ?_
              refine J_letS (fun S11 => ?_)
              refine J_iload_n hE dd_X1_eatDown_97 4 rfl rfl ?_
              refine J_iload hE dd_X1_eatDown_98 0 rfl ?_
              refine J_isub hE dd_X1_eatDown_100 ?_
              refine J_leti (fun x12 => ?_)
              refine J_istore_n hE (L' := [(2, .int x12), (6, .int x10), (5, .int x6), (0, .ref b), (1, .int i1), (3, .int x2), (4, .int v4)]) dd_X1_eatDown_101 (Nat.le_of_ble_eq_true rfl) rfl rfl ?_
              refine J_sub [3, 4, 0, 5, 6] rfl ?_
              exact hj9 (x12, S11)
        · exact J_vret hE dd_X1_eatDown_53 rfl rfl
set_option maxHeartbeats 4000000 in
set_option maxRecDepth 100000 in
theorem tX1_eatDown (l : Launch) {V : JV M2} {b : Nat} {a : Nat → Nat} (hv : vX1 V b a) (S : M2) (i1 : Int32) : JC l V yX1_eatDown cX1_eatDown 7 none jj_v 2 [.ref b, .int i1] S ((fX1_eatDown i1 S).map (fun q => ((), q))) := by
  refine jj_of (by decide) (Nat.le_of_ble_eq_true rfl) (fun E hlE hE => ?_)
  unfold fX1_eatDown
  refine J_sub (L' := [(0, .ref b), (1, .int i1)]) [0, 1] rfl ?_
  refine J_aload_n hE dd_X1_eatDown_0 0 rfl rfl ?_
  refine J_iload_n hE dd_X1_eatDown_1 1 rfl rfl ?_
  refine J_invVri hE (As := [.int i1]) (st := []) (tX1_appetite E.2.1 hv S i1) (hv.ob _) m_X1_appetite rfl ml_RX1_112 (Nat.le_of_ble_eq_true rfl) (Nat.le_of_ble_eq_true rfl) rfl (Nat.le_of_ble_eq_true rfl) dd_X1_eatDown_2 (fun r1 => ?_)
  refine J_istore_n hE (L' := [(2, .int r1), (0, .ref b), (1, .int i1)]) dd_X1_eatDown_5 (Nat.le_of_ble_eq_true rfl) rfl rfl ?_
  refine J_aload_n hE dd_X1_eatDown_6 1 rfl rfl ?_
  refine J_get hE (hv.ob _) jc_X1 11 (by decide) fl_RX1_36 (v := .ref (a 11)) rfl dd_X1_eatDown_7 ?_
  refine J_iload_n hE dd_X1_eatDown_10 2 rfl rfl ?_
  refine J_ald hE (hv.arr 11 (n := 4) (ty := .int) (by decide) _) dd_X1_eatDown_11 ?_
  refine J_leti (fun x2 => ?_)
  refine J_istore_n hE (L' := [(3, .int x2), (2, .int r1), (0, .ref b), (1, .int i1)]) dd_X1_eatDown_12 (Nat.le_of_ble_eq_true rfl) rfl rfl ?_
  refine J_iconst hE (v := (0 : Int32)) dd_X1_eatDown_13 (by decide) ?_
  refine J_istore hE (L' := [(4, .int (0 : Int32)), (3, .int x2), (2, .int r1), (0, .ref b), (1, .int i1)]) dd_X1_eatDown_14 (Nat.le_of_ble_eq_true rfl) rfl ?_
  refine J_sub [3, 4, 2, 1, 0] rfl ?_
  refine tX1_eatDown_L16 hv i1 x2 hE (fun p19 => ?_) 400 r1 (0 : Int32) S
  show J V E _ _ 108 [] [] p19
  exact J_vret hE dd_X1_eatDown_108 rfl rfl
theorem dd_X1_letLoose_0 : jd cX1_letLoose 0 (.iconst 0) 1 1 := ⟨by decide +kernel, rfl⟩
theorem dd_X1_letLoose_1 : jd cX1_letLoose 1 (.istore_n 2) 1 2 := ⟨by decide +kernel, rfl⟩
theorem dd_X1_letLoose_2 : jd cX1_letLoose 2 (.iload_n 2) 1 3 := ⟨by decide +kernel, rfl⟩
theorem dd_X1_letLoose_3 : jd cX1_letLoose 3 (.aload_n 0) 1 4 := ⟨by decide +kernel, rfl⟩
theorem dd_X1_letLoose_4 : jd cX1_letLoose 4 (.getfield 55) 3 7 := ⟨by decide +kernel, rfl⟩
theorem dd_X1_letLoose_10 : jd cX1_letLoose 10 (.iload_n 1) 1 11 := ⟨by decide +kernel, rfl⟩
theorem dd_X1_letLoose_11 : jd cX1_letLoose 11 (.iload_n 2) 1 12 := ⟨by decide +kernel, rfl⟩
theorem dd_X1_letLoose_12 : jd cX1_letLoose 12 (.ishr) 1 13 := ⟨by decide +kernel, rfl⟩
theorem dd_X1_letLoose_13 : jd cX1_letLoose 13 (.iconst 1) 1 14 := ⟨by decide +kernel, rfl⟩
theorem dd_X1_letLoose_14 : jd cX1_letLoose 14 (.iand) 1 15 := ⟨by decide +kernel, rfl⟩
theorem dd_X1_letLoose_15 : jd cX1_letLoose 15 (.iconst 1) 1 16 := ⟨by decide +kernel, rfl⟩
theorem dd_X1_letLoose_19 : jd cX1_letLoose 19 (.aload_n 0) 1 20 := ⟨by decide +kernel, rfl⟩
theorem dd_X1_letLoose_20 : jd cX1_letLoose 20 (.iload_n 2) 1 21 := ⟨by decide +kernel, rfl⟩
theorem ml_RX1_109 : (Cond.methodLink "MothCustoms$Shed" 109 yX1_eatDown : Cond) ∈ jj_tb := jj_m (List.mem_of_getElem? (i := 591) (by decide +kernel)) rfl
theorem dd_X1_letLoose_21 : jd cX1_letLoose 21 (.invokevirtual 109) 3 24 := ⟨by decide +kernel, rfl⟩
theorem dd_X1_letLoose_16 : jd cX1_letLoose 16 (.if_icmp .ne 8) 3 19 := ⟨by decide +kernel, rfl⟩
theorem dd_X1_letLoose_24 : jd cX1_letLoose 24 (.iinc 2 1) 3 27 := ⟨by decide +kernel, rfl⟩
theorem dd_X1_letLoose_27 : jd cX1_letLoose 27 (.goto (-25)) 3 30 := ⟨by decide +kernel, rfl⟩
theorem dd_X1_letLoose_7 : jd cX1_letLoose 7 (.if_icmp .ge 23) 3 10 := ⟨by decide +kernel, rfl⟩
theorem dd_X1_letLoose_30 : jd cX1_letLoose 30 (.return_) 1 31 := ⟨by decide +kernel, rfl⟩
theorem m_X1_letLoose : jmV yX1_letLoose cX1_letLoose 3 none 1 := ⟨⟨(jj_m (w := Cond.code yX1_letLoose cX1_letLoose 3 none) (List.mem_of_getElem? (i := 590) (by decide +kernel)) rfl), (jj_m (w := Cond.initialized yX1_letLoose.cls) (List.mem_of_getElem? (i := 66) (by decide +kernel)) rfl), ⟨by decide, by decide⟩, by decide +kernel⟩, (jj_m (w := Cond.instanceMethod yX1_letLoose) (List.mem_of_getElem? (i := 588) (by decide +kernel)) rfl), (jj_m (w := Cond.selects yX1_letLoose.cls yX1_letLoose yX1_letLoose) (List.mem_of_getElem? (i := 589) (by decide +kernel)) rfl)⟩
def fX1_letLoose_L2 (i1 : Int32) (k30 : M2 → Option (M2)) : Nat → Int32 → M2 → Option (M2)
  | 0, _, _ => none
  | n_ + 1, v1, S2 =>
    if (S2 7 0) ≤ v1 then
      k30 S2
    else
      jn (α := Option (M2)) (β := M2) (fun j3 =>
        if ((i1 >>> (v1 &&& 31)) &&& (1 : Int32)) = (1 : Int32) then
          (fX1_eatDown v1 S2).bind fun q4 =>
          lt (q4) fun S5 =>
          j3 S5
        else
          j3 S2) (fun p7 => 
        lt (v1 + (1 : Int32)) fun x8 =>
        fX1_letLoose_L2 i1 k30 n_ x8 p7)

def fX1_letLoose (i1 : Int32) (S : M2) : Option (M2) :=
  fX1_letLoose_L2 i1
    (fun p10 =>
      some p10)
    400 (0 : Int32) S

set_option maxHeartbeats 4000000 in
set_option maxRecDepth 100000 in
theorem tX1_letLoose_L2 {V : JV M2} {b : Nat} {a : Nat → Nat} (hv : vX1 V b a) (i1 : Int32) {E : JE (M2) Unit} (hE : JOk V E cX1_letLoose yX1_letLoose.cls 3 3 none jj_v) {k30 : M2 → Option (M2)} (hk30 : ∀ p, J V E (fun q => ((), q)) (k30 p) 30 [] [] p) : ∀ (n_ : Nat) (v1 : Int32) (S2 : M2), J V E (fun q => ((), q)) (fX1_letLoose_L2 i1 k30 n_ v1 S2) 2 [(0, .ref b), (1, .int i1), (2, .int v1)] [] S2 := by
  intro n_
  induction n_ with
  | zero =>
    intros
    exact J_none
  | succ n_ ih =>
    intros v1 S2
    rw [fX1_letLoose_L2]
    refine J_iload_n hE dd_X1_letLoose_2 2 rfl rfl ?_
    refine J_aload_n hE dd_X1_letLoose_3 0 rfl rfl ?_
    refine J_get hE (hv.ob _) jc_X1 7 (by decide) fl_RX1_55 (v := .int (S2 7 0)) rfl dd_X1_letLoose_4 ?_
    refine J_icmp_ge hE (tgt := 30) dd_X1_letLoose_7 (by decide) (fun c9 => ?_) (fun c9 => ?_)
    · refine J_sub [] rfl ?_
      exact hk30 S2
    · refine J_iload_n hE dd_X1_letLoose_10 1 rfl rfl ?_
      refine J_iload_n hE dd_X1_letLoose_11 2 rfl rfl ?_
      refine J_ishr hE dd_X1_letLoose_12 ?_
      refine J_iconst hE (v := (1 : Int32)) dd_X1_letLoose_13 (by decide) ?_
      refine J_iand hE dd_X1_letLoose_14 ?_
      refine J_iconst hE (v := (1 : Int32)) dd_X1_letLoose_15 (by decide) ?_
      refine J_jn (m := 24) (Lf := fun p7 => [(0, .ref b), (1, .int i1), (2, .int v1)]) (sf := fun p7 => []) (Xf := fun p7 => p7) (fun p7 => ?_) (fun hj3 => ?_)
      · show J V E _ _ 24 [(0, .ref b), (1, .int i1), (2, .int v1)] [] p7
        refine J_iincL hE (v := (v1 + (1 : Int32))) (Lf := fun x8 => [(2, .int x8), (0, .ref b), (1, .int i1)]) dd_X1_letLoose_24 (j := 2) rfl (congrArg (v1 + ·) (by decide)) (Nat.le_of_ble_eq_true rfl) (fun _ => rfl) (fun x8 => ?_)
        refine J_goto hE (tgt := 2) dd_X1_letLoose_27 (by decide) ?_
        refine J_sub [1, 2, 0] rfl ?_
        exact ih x8 p7
      · refine J_icmp_ne hE (tgt := 24) dd_X1_letLoose_16 (by decide) (fun c6 => ?_) (fun c6 => ?_)
        · refine J_sub [0, 1, 2] rfl ?_
          exact hj3 S2
        · refine J_aload_n hE dd_X1_letLoose_19 0 rfl rfl ?_
          refine J_iload_n hE dd_X1_letLoose_20 2 rfl rfl ?_
          refine J_invVwv hE (e := fun x => x) (As := [.int v1]) (st := []) (tX1_eatDown E.2.1 hv S2 v1) (hv.ob _) m_X1_eatDown rfl ml_RX1_109 (Nat.le_of_ble_eq_true rfl) (Nat.le_of_ble_eq_true rfl) rfl (Nat.le_of_ble_eq_true rfl) dd_X1_letLoose_21 (fun q4 => ?_)
          refine J_letS (fun S5 => ?_)
          refine J_sub [0, 1, 2] rfl ?_
          exact hj3 S5
set_option maxHeartbeats 4000000 in
set_option maxRecDepth 100000 in
theorem tX1_letLoose (l : Launch) {V : JV M2} {b : Nat} {a : Nat → Nat} (hv : vX1 V b a) (S : M2) (i1 : Int32) : JC l V yX1_letLoose cX1_letLoose 3 none jj_v 3 [.ref b, .int i1] S ((fX1_letLoose i1 S).map (fun q => ((), q))) := by
  refine jj_of (by decide) (Nat.le_of_ble_eq_true rfl) (fun E hlE hE => ?_)
  unfold fX1_letLoose
  refine J_sub (L' := [(0, .ref b), (1, .int i1)]) [0, 1] rfl ?_
  refine J_iconst hE (v := (0 : Int32)) dd_X1_letLoose_0 (by decide) ?_
  refine J_istore_n hE (L' := [(2, .int (0 : Int32)), (0, .ref b), (1, .int i1)]) dd_X1_letLoose_1 (Nat.le_of_ble_eq_true rfl) rfl rfl ?_
  refine J_sub [1, 2, 0] rfl ?_
  refine tX1_letLoose_L2 hv i1 hE (fun p10 => ?_) 400 (0 : Int32) S
  show J V E _ _ 30 [] [] p10
  exact J_vret hE dd_X1_letLoose_30 rfl rfl
theorem dd_X1_passNight_0 : jd cX1_passNight 0 (.aload_n 0) 1 1 := ⟨by decide +kernel, rfl⟩
theorem dd_X1_passNight_1 : jd cX1_passNight 1 (.bipush 15) 2 3 := ⟨by decide +kernel, rfl⟩
theorem ml_RX1_106 : (Cond.methodLink "MothCustoms$Shed" 106 yX1_letLoose : Cond) ∈ jj_tb := jj_m (List.mem_of_getElem? (i := 587) (by decide +kernel)) rfl
theorem dd_X1_passNight_3 : jd cX1_passNight 3 (.invokevirtual 106) 3 6 := ⟨by decide +kernel, rfl⟩
theorem dd_X1_passNight_6 : jd cX1_passNight 6 (.aload_n 0) 1 7 := ⟨by decide +kernel, rfl⟩
theorem dd_X1_passNight_7 : jd cX1_passNight 7 (.aload_n 0) 1 8 := ⟨by decide +kernel, rfl⟩
theorem dd_X1_passNight_8 : jd cX1_passNight 8 (.getfield 58) 3 11 := ⟨by decide +kernel, rfl⟩
theorem dd_X1_passNight_11 : jd cX1_passNight 11 (.iconst 1) 1 12 := ⟨by decide +kernel, rfl⟩
theorem dd_X1_passNight_12 : jd cX1_passNight 12 (.iadd) 1 13 := ⟨by decide +kernel, rfl⟩
theorem dd_X1_passNight_13 : jd cX1_passNight 13 (.iconst 4) 1 14 := ⟨by decide +kernel, rfl⟩
theorem dd_X1_passNight_14 : jd cX1_passNight 14 (.irem) 1 15 := ⟨by decide +kernel, rfl⟩
theorem dd_X1_passNight_15 : jd cX1_passNight 15 (.putfield 58) 3 18 := ⟨by decide +kernel, rfl⟩
theorem dd_X1_passNight_18 : jd cX1_passNight 18 (.aload_n 0) 1 19 := ⟨by decide +kernel, rfl⟩
theorem dd_X1_passNight_19 : jd cX1_passNight 19 (.dup) 1 20 := ⟨by decide +kernel, rfl⟩
theorem dd_X1_passNight_20 : jd cX1_passNight 20 (.getfield 61) 3 23 := ⟨by decide +kernel, rfl⟩
theorem dd_X1_passNight_23 : jd cX1_passNight 23 (.iconst 1) 1 24 := ⟨by decide +kernel, rfl⟩
theorem dd_X1_passNight_24 : jd cX1_passNight 24 (.iadd) 1 25 := ⟨by decide +kernel, rfl⟩
theorem dd_X1_passNight_25 : jd cX1_passNight 25 (.putfield 61) 3 28 := ⟨by decide +kernel, rfl⟩
theorem dd_X1_passNight_28 : jd cX1_passNight 28 (.return_) 1 29 := ⟨by decide +kernel, rfl⟩
theorem m_X1_passNight : jmV yX1_passNight cX1_passNight 1 none 0 := ⟨⟨(jj_m (w := Cond.code yX1_passNight cX1_passNight 1 none) (List.mem_of_getElem? (i := 586) (by decide +kernel)) rfl), (jj_m (w := Cond.initialized yX1_passNight.cls) (List.mem_of_getElem? (i := 66) (by decide +kernel)) rfl), ⟨by decide, by decide⟩, by decide +kernel⟩, (jj_m (w := Cond.instanceMethod yX1_passNight) (List.mem_of_getElem? (i := 584) (by decide +kernel)) rfl), (jj_m (w := Cond.selects yX1_passNight.cls yX1_passNight yX1_passNight) (List.mem_of_getElem? (i := 585) (by decide +kernel)) rfl)⟩
def fX1_passNight  (S : M2) : Option (M2) :=
  (fX1_letLoose (15 : Int32) S).bind fun q1 =>
  lt (q1) fun S2 =>
  if (4 : Int32) = 0 then none else
  lt (va_up S2 12 (fun _ => (((S2 12 0) + (1 : Int32)) - ((S2 12 0) + (1 : Int32)) / (4 : Int32) * (4 : Int32)))) fun S3 =>
  lt (va_up S3 14 (fun _ => ((S3 14 0) + (1 : Int32)))) fun S4 =>
  some S4

set_option maxHeartbeats 4000000 in
set_option maxRecDepth 100000 in
theorem tX1_passNight (l : Launch) {V : JV M2} {b : Nat} {a : Nat → Nat} (hv : vX1 V b a) (S : M2)  : JC l V yX1_passNight cX1_passNight 1 none jj_v 4 [.ref b] S ((fX1_passNight  S).map (fun q => ((), q))) := by
  refine jj_of (by decide) (Nat.le_of_ble_eq_true rfl) (fun E hlE hE => ?_)
  unfold fX1_passNight
  refine J_sub (L' := [(0, .ref b)]) [0] rfl ?_
  refine J_aload_n hE dd_X1_passNight_0 0 rfl rfl ?_
  refine J_bipush hE (v := (15 : Int32)) dd_X1_passNight_1 (by decide) ?_
  refine J_invVwv hE (e := fun x => x) (As := [.int (15 : Int32)]) (st := []) (tX1_letLoose E.2.1 hv S (15 : Int32)) (hv.ob _) m_X1_letLoose rfl ml_RX1_106 (Nat.le_of_ble_eq_true rfl) (Nat.le_of_ble_eq_true rfl) rfl (Nat.le_of_ble_eq_true rfl) dd_X1_passNight_3 (fun q1 => ?_)
  refine J_letS (fun S2 => ?_)
  refine J_aload_n hE dd_X1_passNight_6 0 rfl rfl ?_
  refine J_aload_n hE dd_X1_passNight_7 0 rfl rfl ?_
  refine J_get hE (hv.ob _) jc_X1 12 (by decide) fl_RX1_58 (v := .int (S2 12 0)) rfl dd_X1_passNight_8 ?_
  refine J_iconst hE (v := (1 : Int32)) dd_X1_passNight_11 (by decide) ?_
  refine J_iadd hE dd_X1_passNight_12 ?_
  refine J_iconst hE (v := (4 : Int32)) dd_X1_passNight_13 (by decide) ?_
  refine J_irem hE dd_X1_passNight_14 (fun _ => ?_)
  refine J_put hE hv jc_X1 12 (by decide) (by decide) fl_RX1_58 rfl rfl rfl (Nat.le_of_ble_eq_true rfl) dd_X1_passNight_15 ?_
  refine J_letS (fun S3 => ?_)
  refine J_aload_n hE dd_X1_passNight_18 0 rfl rfl ?_
  refine J_dup hE dd_X1_passNight_19 rfl ?_
  refine J_get hE (hv.ob _) jc_X1 14 (by decide) fl_RX1_61 (v := .int (S3 14 0)) rfl dd_X1_passNight_20 ?_
  refine J_iconst hE (v := (1 : Int32)) dd_X1_passNight_23 (by decide) ?_
  refine J_iadd hE dd_X1_passNight_24 ?_
  refine J_put hE hv jc_X1 14 (by decide) (by decide) fl_RX1_61 rfl rfl rfl (Nat.le_of_ble_eq_true rfl) dd_X1_passNight_25 ?_
  refine J_letS (fun S4 => ?_)
  exact J_vret hE dd_X1_passNight_28 rfl rfl
theorem dd_X1_dutyOf_0 : jd cX1_dutyOf 0 (.iconst 0) 1 1 := ⟨by decide +kernel, rfl⟩
theorem dd_X1_dutyOf_1 : jd cX1_dutyOf 1 (.istore_n 2) 1 2 := ⟨by decide +kernel, rfl⟩
theorem dd_X1_dutyOf_2 : jd cX1_dutyOf 2 (.iconst 0) 1 3 := ⟨by decide +kernel, rfl⟩
theorem dd_X1_dutyOf_3 : jd cX1_dutyOf 3 (.istore_n 3) 1 4 := ⟨by decide +kernel, rfl⟩
theorem dd_X1_dutyOf_4 : jd cX1_dutyOf 4 (.iconst 0) 1 5 := ⟨by decide +kernel, rfl⟩
theorem dd_X1_dutyOf_5 : jd cX1_dutyOf 5 (.istore 4) 2 7 := ⟨by decide +kernel, rfl⟩
theorem dd_X1_dutyOf_7 : jd cX1_dutyOf 7 (.iload 4) 2 9 := ⟨by decide +kernel, rfl⟩
theorem dd_X1_dutyOf_9 : jd cX1_dutyOf 9 (.aload_n 0) 1 10 := ⟨by decide +kernel, rfl⟩
theorem dd_X1_dutyOf_10 : jd cX1_dutyOf 10 (.getfield 24) 3 13 := ⟨by decide +kernel, rfl⟩
theorem dd_X1_dutyOf_13 : jd cX1_dutyOf 13 (.iload_n 1) 1 14 := ⟨by decide +kernel, rfl⟩
theorem dd_X1_dutyOf_14 : jd cX1_dutyOf 14 (.iaload) 1 15 := ⟨by decide +kernel, rfl⟩
theorem dd_X1_dutyOf_18 : jd cX1_dutyOf 18 (.aload_n 0) 1 19 := ⟨by decide +kernel, rfl⟩
theorem dd_X1_dutyOf_19 : jd cX1_dutyOf 19 (.getfield 18) 3 22 := ⟨by decide +kernel, rfl⟩
theorem dd_X1_dutyOf_22 : jd cX1_dutyOf 22 (.aload_n 0) 1 23 := ⟨by decide +kernel, rfl⟩
theorem dd_X1_dutyOf_23 : jd cX1_dutyOf 23 (.getfield 21) 3 26 := ⟨by decide +kernel, rfl⟩
theorem dd_X1_dutyOf_26 : jd cX1_dutyOf 26 (.iload_n 1) 1 27 := ⟨by decide +kernel, rfl⟩
theorem dd_X1_dutyOf_27 : jd cX1_dutyOf 27 (.iconst 5) 1 28 := ⟨by decide +kernel, rfl⟩
theorem dd_X1_dutyOf_28 : jd cX1_dutyOf 28 (.imul) 1 29 := ⟨by decide +kernel, rfl⟩
theorem dd_X1_dutyOf_29 : jd cX1_dutyOf 29 (.iload 4) 2 31 := ⟨by decide +kernel, rfl⟩
theorem dd_X1_dutyOf_31 : jd cX1_dutyOf 31 (.iadd) 1 32 := ⟨by decide +kernel, rfl⟩
theorem dd_X1_dutyOf_32 : jd cX1_dutyOf 32 (.iaload) 1 33 := ⟨by decide +kernel, rfl⟩
theorem dd_X1_dutyOf_33 : jd cX1_dutyOf 33 (.iaload) 1 34 := ⟨by decide +kernel, rfl⟩
theorem dd_X1_dutyOf_34 : jd cX1_dutyOf 34 (.istore 5) 2 36 := ⟨by decide +kernel, rfl⟩
theorem dd_X1_dutyOf_36 : jd cX1_dutyOf 36 (.iload_n 2) 1 37 := ⟨by decide +kernel, rfl⟩
theorem dd_X1_dutyOf_37 : jd cX1_dutyOf 37 (.iload 5) 2 39 := ⟨by decide +kernel, rfl⟩
theorem dd_X1_dutyOf_39 : jd cX1_dutyOf 39 (.iload 5) 2 41 := ⟨by decide +kernel, rfl⟩
theorem dd_X1_dutyOf_41 : jd cX1_dutyOf 41 (.iload_n 3) 1 42 := ⟨by decide +kernel, rfl⟩
theorem dd_X1_dutyOf_42 : jd cX1_dutyOf 42 (.invokestatic 119) 3 45 := ⟨by decide +kernel, rfl⟩
theorem dd_X1_dutyOf_45 : jd cX1_dutyOf 45 (.isub) 1 46 := ⟨by decide +kernel, rfl⟩
theorem dd_X1_dutyOf_46 : jd cX1_dutyOf 46 (.iadd) 1 47 := ⟨by decide +kernel, rfl⟩
theorem dd_X1_dutyOf_47 : jd cX1_dutyOf 47 (.istore_n 2) 1 48 := ⟨by decide +kernel, rfl⟩
theorem dd_X1_dutyOf_48 : jd cX1_dutyOf 48 (.iload 5) 2 50 := ⟨by decide +kernel, rfl⟩
theorem dd_X1_dutyOf_50 : jd cX1_dutyOf 50 (.istore_n 3) 1 51 := ⟨by decide +kernel, rfl⟩
theorem dd_X1_dutyOf_51 : jd cX1_dutyOf 51 (.iinc 4 1) 3 54 := ⟨by decide +kernel, rfl⟩
theorem dd_X1_dutyOf_54 : jd cX1_dutyOf 54 (.goto (-47)) 3 57 := ⟨by decide +kernel, rfl⟩
theorem dd_X1_dutyOf_15 : jd cX1_dutyOf 15 (.if_icmp .ge 42) 3 18 := ⟨by decide +kernel, rfl⟩
theorem dd_X1_dutyOf_57 : jd cX1_dutyOf 57 (.iload_n 2) 1 58 := ⟨by decide +kernel, rfl⟩
theorem dd_X1_dutyOf_58 : jd cX1_dutyOf 58 (.aload_n 0) 1 59 := ⟨by decide +kernel, rfl⟩
theorem dd_X1_dutyOf_59 : jd cX1_dutyOf 59 (.getfield 39) 3 62 := ⟨by decide +kernel, rfl⟩
theorem dd_X1_dutyOf_62 : jd cX1_dutyOf 62 (.imul) 1 63 := ⟨by decide +kernel, rfl⟩
theorem dd_X1_dutyOf_63 : jd cX1_dutyOf 63 (.ireturn) 1 64 := ⟨by decide +kernel, rfl⟩
theorem m_X1_dutyOf : jmV yX1_dutyOf cX1_dutyOf 6 (some .int) 1 := ⟨⟨(jj_m (w := Cond.code yX1_dutyOf cX1_dutyOf 6 (some .int)) (List.mem_of_getElem? (i := 527) (by decide +kernel)) rfl), (jj_m (w := Cond.initialized yX1_dutyOf.cls) (List.mem_of_getElem? (i := 66) (by decide +kernel)) rfl), ⟨by decide, by decide⟩, by decide +kernel⟩, (jj_m (w := Cond.instanceMethod yX1_dutyOf) (List.mem_of_getElem? (i := 525) (by decide +kernel)) rfl), (jj_m (w := Cond.selects yX1_dutyOf.cls yX1_dutyOf yX1_dutyOf) (List.mem_of_getElem? (i := 526) (by decide +kernel)) rfl)⟩
def fX1_dutyOf_L7 (S : M2) (i1 : Int32) (k57 : Int32 → Option (Int32)) : Nat → Int32 → Int32 → Int32 → Option (Int32)
  | 0, _, _, _ => none
  | n_ + 1, v1, v2, v3 =>
    bnd i1 3 <|
    if (S 6 i1.toNatClampNeg) ≤ v3 then
      k57 v1
    else
      bnd ((i1 * (5 : Int32)) + v3) 15 <|
      bnd (S 5 ((i1 * (5 : Int32)) + v3).toNatClampNeg) 5 <|
      lt ((S 3 (S 5 ((i1 * (5 : Int32)) + v3).toNatClampNeg).toNatClampNeg)) fun x4 =>
      lt ((v1 + (x4 - (if v2 < x4 then v2 else x4)))) fun x5 =>
      lt (v3 + (1 : Int32)) fun x6 =>
      fX1_dutyOf_L7 S i1 k57 n_ x5 x4 x6

def fX1_dutyOf (i1 : Int32) (S : M2) : Option (Int32) :=
  fX1_dutyOf_L7 S i1
    (fun p8 =>
      some (p8 * (S 13 0)))
    400 (0 : Int32) (0 : Int32) (0 : Int32)

set_option maxHeartbeats 4000000 in
set_option maxRecDepth 100000 in
theorem tX1_dutyOf_L7 {V : JV M2} {b : Nat} {a : Nat → Nat} (hv : vX1 V b a) (S : M2) (i1 : Int32) {E : JE (M2) Int32} (hE : JOk V E cX1_dutyOf yX1_dutyOf.cls 6 1 (some .int) jj_i) {k57 : Int32 → Option (Int32)} (hk57 : ∀ p, J V E (fun r => (r, S)) (k57 p) 57 [(0, .ref b), (2, .int p)] [] S) : ∀ (n_ : Nat) (v1 : Int32) (v2 : Int32) (v3 : Int32), J V E (fun r => (r, S)) (fX1_dutyOf_L7 S i1 k57 n_ v1 v2 v3) 7 [(0, .ref b), (1, .int i1), (2, .int v1), (3, .int v2), (4, .int v3)] [] S := by
  intro n_
  induction n_ with
  | zero =>
    intros
    exact J_none
  | succ n_ ih =>
    intros v1 v2 v3
    rw [fX1_dutyOf_L7]
    refine J_iload hE dd_X1_dutyOf_7 4 rfl ?_
    refine J_aload_n hE dd_X1_dutyOf_9 0 rfl rfl ?_
    refine J_get hE (hv.ob _) jc_X1 6 (by decide) fl_RX1_24 (v := .ref (a 6)) rfl dd_X1_dutyOf_10 ?_
    refine J_iload_n hE dd_X1_dutyOf_13 1 rfl rfl ?_
    refine J_ald hE (hv.arr 6 (n := 3) (ty := .int) (by decide) _) dd_X1_dutyOf_14 ?_
    refine J_icmp_ge hE (tgt := 57) dd_X1_dutyOf_15 (by decide) (fun c7 => ?_) (fun c7 => ?_)
    · refine J_sub [0, 2] rfl ?_
      exact hk57 v1
    · refine J_aload_n hE dd_X1_dutyOf_18 0 rfl rfl ?_
      refine J_get hE (hv.ob _) jc_X1 3 (by decide) fl_RX1_18 (v := .ref (a 3)) rfl dd_X1_dutyOf_19 ?_
      refine J_aload_n hE dd_X1_dutyOf_22 0 rfl rfl ?_
      refine J_get hE (hv.ob _) jc_X1 5 (by decide) fl_RX1_21 (v := .ref (a 5)) rfl dd_X1_dutyOf_23 ?_
      refine J_iload_n hE dd_X1_dutyOf_26 1 rfl rfl ?_
      refine J_iconst hE (v := (5 : Int32)) dd_X1_dutyOf_27 (by decide) ?_
      refine J_imul hE dd_X1_dutyOf_28 ?_
      refine J_iload hE dd_X1_dutyOf_29 4 rfl ?_
      refine J_iadd hE dd_X1_dutyOf_31 ?_
      refine J_ald hE (hv.arr 5 (n := 15) (ty := .int) (by decide) _) dd_X1_dutyOf_32 ?_
      refine J_ald hE (hv.arr 3 (n := 5) (ty := .int) (by decide) _) dd_X1_dutyOf_33 ?_
      refine J_leti (fun x4 => ?_)
      refine J_istore hE (L' := [(5, .int x4), (0, .ref b), (1, .int i1), (2, .int v1), (3, .int v2), (4, .int v3)]) dd_X1_dutyOf_34 (Nat.le_of_ble_eq_true rfl) rfl ?_
      refine J_iload_n hE dd_X1_dutyOf_36 3 rfl rfl ?_
      refine J_iload hE dd_X1_dutyOf_37 0 rfl ?_
      refine J_iload hE dd_X1_dutyOf_39 0 rfl ?_
      refine J_iload_n hE dd_X1_dutyOf_41 4 rfl rfl ?_
      refine J_min hE ml_RX1_119 (Nat.le_of_ble_eq_true rfl) (Nat.le_of_ble_eq_true rfl) dd_X1_dutyOf_42 ?_
      refine J_isub hE dd_X1_dutyOf_45 ?_
      refine J_iadd hE dd_X1_dutyOf_46 ?_
      refine J_leti (fun x5 => ?_)
      refine J_istore_n hE (L' := [(2, .int x5), (5, .int x4), (0, .ref b), (1, .int i1), (3, .int v2), (4, .int v3)]) dd_X1_dutyOf_47 (Nat.le_of_ble_eq_true rfl) rfl rfl ?_
      refine J_iload hE dd_X1_dutyOf_48 1 rfl ?_
      refine J_istore_n hE (L' := [(3, .int x4), (2, .int x5), (5, .int x4), (0, .ref b), (1, .int i1), (4, .int v3)]) dd_X1_dutyOf_50 (Nat.le_of_ble_eq_true rfl) rfl rfl ?_
      refine J_iincL hE (v := (v3 + (1 : Int32))) (Lf := fun x6 => [(4, .int x6), (3, .int x4), (2, .int x5), (5, .int x4), (0, .ref b), (1, .int i1)]) dd_X1_dutyOf_51 (j := 5) rfl (congrArg (v3 + ·) (by decide)) (Nat.le_of_ble_eq_true rfl) (fun _ => rfl) (fun x6 => ?_)
      refine J_goto hE (tgt := 7) dd_X1_dutyOf_54 (by decide) ?_
      refine J_sub [4, 5, 2, 1, 0] rfl ?_
      exact ih x5 x4 x6
set_option maxHeartbeats 4000000 in
set_option maxRecDepth 100000 in
theorem tX1_dutyOf (l : Launch) {V : JV M2} {b : Nat} {a : Nat → Nat} (hv : vX1 V b a) (S : M2) (i1 : Int32) : JC l V yX1_dutyOf cX1_dutyOf 6 (some .int) jj_i 1 [.ref b, .int i1] S ((fX1_dutyOf i1 S).map (fun r => (r, S))) := by
  refine jj_of (by decide) (Nat.le_of_ble_eq_true rfl) (fun E hlE hE => ?_)
  unfold fX1_dutyOf
  refine J_sub (L' := [(0, .ref b), (1, .int i1)]) [0, 1] rfl ?_
  refine J_iconst hE (v := (0 : Int32)) dd_X1_dutyOf_0 (by decide) ?_
  refine J_istore_n hE (L' := [(2, .int (0 : Int32)), (0, .ref b), (1, .int i1)]) dd_X1_dutyOf_1 (Nat.le_of_ble_eq_true rfl) rfl rfl ?_
  refine J_iconst hE (v := (0 : Int32)) dd_X1_dutyOf_2 (by decide) ?_
  refine J_istore_n hE (L' := [(3, .int (0 : Int32)), (2, .int (0 : Int32)), (0, .ref b), (1, .int i1)]) dd_X1_dutyOf_3 (Nat.le_of_ble_eq_true rfl) rfl rfl ?_
  refine J_iconst hE (v := (0 : Int32)) dd_X1_dutyOf_4 (by decide) ?_
  refine J_istore hE (L' := [(4, .int (0 : Int32)), (3, .int (0 : Int32)), (2, .int (0 : Int32)), (0, .ref b), (1, .int i1)]) dd_X1_dutyOf_5 (Nat.le_of_ble_eq_true rfl) rfl ?_
  refine J_sub [3, 4, 2, 1, 0] rfl ?_
  refine tX1_dutyOf_L7 hv S i1 hE (fun p8 => ?_) 400 (0 : Int32) (0 : Int32) (0 : Int32)
  show J V E _ _ 57 [(0, .ref b), (2, .int p8)] [] S
  refine J_iload_n hE dd_X1_dutyOf_57 1 rfl rfl ?_
  refine J_aload_n hE dd_X1_dutyOf_58 0 rfl rfl ?_
  refine J_get hE (hv.ob _) jc_X1 13 (by decide) fl_RX1_39 (v := .int (S 13 0)) rfl dd_X1_dutyOf_59 ?_
  refine J_imul hE dd_X1_dutyOf_62 ?_
  exact J_iret hE dd_X1_dutyOf_63 rfl rfl
theorem dd_X1_dutyOfAll_0 : jd cX1_dutyOfAll 0 (.iconst 0) 1 1 := ⟨by decide +kernel, rfl⟩
theorem dd_X1_dutyOfAll_1 : jd cX1_dutyOfAll 1 (.istore_n 1) 1 2 := ⟨by decide +kernel, rfl⟩
theorem dd_X1_dutyOfAll_2 : jd cX1_dutyOfAll 2 (.iconst 0) 1 3 := ⟨by decide +kernel, rfl⟩
theorem dd_X1_dutyOfAll_3 : jd cX1_dutyOfAll 3 (.istore_n 2) 1 4 := ⟨by decide +kernel, rfl⟩
theorem dd_X1_dutyOfAll_4 : jd cX1_dutyOfAll 4 (.iload_n 2) 1 5 := ⟨by decide +kernel, rfl⟩
theorem dd_X1_dutyOfAll_5 : jd cX1_dutyOfAll 5 (.iconst 3) 1 6 := ⟨by decide +kernel, rfl⟩
theorem dd_X1_dutyOfAll_9 : jd cX1_dutyOfAll 9 (.iload_n 1) 1 10 := ⟨by decide +kernel, rfl⟩
theorem dd_X1_dutyOfAll_10 : jd cX1_dutyOfAll 10 (.aload_n 0) 1 11 := ⟨by decide +kernel, rfl⟩
theorem dd_X1_dutyOfAll_11 : jd cX1_dutyOfAll 11 (.iload_n 2) 1 12 := ⟨by decide +kernel, rfl⟩
theorem ml_RX1_122 : (Cond.methodLink "MothCustoms$Shed" 122 yX1_dutyOf : Cond) ∈ jj_tb := jj_m (List.mem_of_getElem? (i := 601) (by decide +kernel)) rfl
theorem dd_X1_dutyOfAll_12 : jd cX1_dutyOfAll 12 (.invokevirtual 122) 3 15 := ⟨by decide +kernel, rfl⟩
theorem dd_X1_dutyOfAll_15 : jd cX1_dutyOfAll 15 (.iadd) 1 16 := ⟨by decide +kernel, rfl⟩
theorem dd_X1_dutyOfAll_16 : jd cX1_dutyOfAll 16 (.istore_n 1) 1 17 := ⟨by decide +kernel, rfl⟩
theorem dd_X1_dutyOfAll_17 : jd cX1_dutyOfAll 17 (.iinc 2 1) 3 20 := ⟨by decide +kernel, rfl⟩
theorem dd_X1_dutyOfAll_20 : jd cX1_dutyOfAll 20 (.goto (-16)) 3 23 := ⟨by decide +kernel, rfl⟩
theorem dd_X1_dutyOfAll_6 : jd cX1_dutyOfAll 6 (.if_icmp .ge 17) 3 9 := ⟨by decide +kernel, rfl⟩
theorem dd_X1_dutyOfAll_23 : jd cX1_dutyOfAll 23 (.iload_n 1) 1 24 := ⟨by decide +kernel, rfl⟩
theorem dd_X1_dutyOfAll_24 : jd cX1_dutyOfAll 24 (.ireturn) 1 25 := ⟨by decide +kernel, rfl⟩
theorem m_X1_dutyOfAll : jmV yX1_dutyOfAll cX1_dutyOfAll 3 (some .int) 0 := ⟨⟨(jj_m (w := Cond.code yX1_dutyOfAll cX1_dutyOfAll 3 (some .int)) (List.mem_of_getElem? (i := 600) (by decide +kernel)) rfl), (jj_m (w := Cond.initialized yX1_dutyOfAll.cls) (List.mem_of_getElem? (i := 66) (by decide +kernel)) rfl), ⟨by decide, by decide⟩, by decide +kernel⟩, (jj_m (w := Cond.instanceMethod yX1_dutyOfAll) (List.mem_of_getElem? (i := 598) (by decide +kernel)) rfl), (jj_m (w := Cond.selects yX1_dutyOfAll.cls yX1_dutyOfAll yX1_dutyOfAll) (List.mem_of_getElem? (i := 599) (by decide +kernel)) rfl)⟩
def fX1_dutyOfAll_L4 (S : M2) (k23 : Int32 → Option (Int32)) : Nat → Int32 → Int32 → Option (Int32)
  | 0, _, _ => none
  | n_ + 1, v1, v2 =>
    if (3 : Int32) ≤ v2 then
      k23 v1
    else
      (fX1_dutyOf v2 S).bind fun r3 =>
      lt ((v1 + r3)) fun x4 =>
      lt (v2 + (1 : Int32)) fun x5 =>
      fX1_dutyOfAll_L4 S k23 n_ x4 x5

def fX1_dutyOfAll  (S : M2) : Option (Int32) :=
  fX1_dutyOfAll_L4 S
    (fun p7 =>
      some p7)
    400 (0 : Int32) (0 : Int32)

set_option maxHeartbeats 4000000 in
set_option maxRecDepth 100000 in
theorem tX1_dutyOfAll_L4 {V : JV M2} {b : Nat} {a : Nat → Nat} (hv : vX1 V b a) (S : M2) {E : JE (M2) Int32} (hE : JOk V E cX1_dutyOfAll yX1_dutyOfAll.cls 3 2 (some .int) jj_i) {k23 : Int32 → Option (Int32)} (hk23 : ∀ p, J V E (fun r => (r, S)) (k23 p) 23 [(1, .int p)] [] S) : ∀ (n_ : Nat) (v1 : Int32) (v2 : Int32), J V E (fun r => (r, S)) (fX1_dutyOfAll_L4 S k23 n_ v1 v2) 4 [(0, .ref b), (1, .int v1), (2, .int v2)] [] S := by
  intro n_
  induction n_ with
  | zero =>
    intros
    exact J_none
  | succ n_ ih =>
    intros v1 v2
    rw [fX1_dutyOfAll_L4]
    refine J_iload_n hE dd_X1_dutyOfAll_4 2 rfl rfl ?_
    refine J_iconst hE (v := (3 : Int32)) dd_X1_dutyOfAll_5 (by decide) ?_
    refine J_icmp_ge hE (tgt := 23) dd_X1_dutyOfAll_6 (by decide) (fun c6 => ?_) (fun c6 => ?_)
    · refine J_sub [1] rfl ?_
      exact hk23 v1
    · refine J_iload_n hE dd_X1_dutyOfAll_9 1 rfl rfl ?_
      refine J_aload_n hE dd_X1_dutyOfAll_10 0 rfl rfl ?_
      refine J_iload_n hE dd_X1_dutyOfAll_11 2 rfl rfl ?_
      refine J_invVri hE (As := [.int v2]) (st := [.int v1]) (tX1_dutyOf E.2.1 hv S v2) (hv.ob _) m_X1_dutyOf rfl ml_RX1_122 (Nat.le_of_ble_eq_true rfl) (Nat.le_of_ble_eq_true rfl) rfl (Nat.le_of_ble_eq_true rfl) dd_X1_dutyOfAll_12 (fun r3 => ?_)
      refine J_iadd hE dd_X1_dutyOfAll_15 ?_
      refine J_leti (fun x4 => ?_)
      refine J_istore_n hE (L' := [(1, .int x4), (0, .ref b), (2, .int v2)]) dd_X1_dutyOfAll_16 (Nat.le_of_ble_eq_true rfl) rfl rfl ?_
      refine J_iincL hE (v := (v2 + (1 : Int32))) (Lf := fun x5 => [(2, .int x5), (1, .int x4), (0, .ref b)]) dd_X1_dutyOfAll_17 (j := 2) rfl (congrArg (v2 + ·) (by decide)) (Nat.le_of_ble_eq_true rfl) (fun _ => rfl) (fun x5 => ?_)
      refine J_goto hE (tgt := 4) dd_X1_dutyOfAll_20 (by decide) ?_
      refine J_sub [2, 1, 0] rfl ?_
      exact ih x4 x5
set_option maxHeartbeats 4000000 in
set_option maxRecDepth 100000 in
theorem tX1_dutyOfAll (l : Launch) {V : JV M2} {b : Nat} {a : Nat → Nat} (hv : vX1 V b a) (S : M2)  : JC l V yX1_dutyOfAll cX1_dutyOfAll 3 (some .int) jj_i 2 [.ref b] S ((fX1_dutyOfAll  S).map (fun r => (r, S))) := by
  refine jj_of (by decide) (Nat.le_of_ble_eq_true rfl) (fun E hlE hE => ?_)
  unfold fX1_dutyOfAll
  refine J_sub (L' := [(0, .ref b)]) [0] rfl ?_
  refine J_iconst hE (v := (0 : Int32)) dd_X1_dutyOfAll_0 (by decide) ?_
  refine J_istore_n hE (L' := [(1, .int (0 : Int32)), (0, .ref b)]) dd_X1_dutyOfAll_1 (Nat.le_of_ble_eq_true rfl) rfl rfl ?_
  refine J_iconst hE (v := (0 : Int32)) dd_X1_dutyOfAll_2 (by decide) ?_
  refine J_istore_n hE (L' := [(2, .int (0 : Int32)), (1, .int (0 : Int32)), (0, .ref b)]) dd_X1_dutyOfAll_3 (Nat.le_of_ble_eq_true rfl) rfl rfl ?_
  refine J_sub [2, 1, 0] rfl ?_
  refine tX1_dutyOfAll_L4 hv S hE (fun p7 => ?_) 400 (0 : Int32) (0 : Int32)
  show J V E _ _ 23 [(1, .int p7)] [] S
  refine J_iload_n hE dd_X1_dutyOfAll_23 0 rfl rfl ?_
  exact J_iret hE dd_X1_dutyOfAll_24 rfl rfl
theorem dd_X1_holesInAll_0 : jd cX1_holesInAll 0 (.iconst 0) 1 1 := ⟨by decide +kernel, rfl⟩
theorem dd_X1_holesInAll_1 : jd cX1_holesInAll 1 (.istore_n 1) 1 2 := ⟨by decide +kernel, rfl⟩
theorem dd_X1_holesInAll_2 : jd cX1_holesInAll 2 (.iconst 0) 1 3 := ⟨by decide +kernel, rfl⟩
theorem dd_X1_holesInAll_3 : jd cX1_holesInAll 3 (.istore_n 2) 1 4 := ⟨by decide +kernel, rfl⟩
theorem dd_X1_holesInAll_4 : jd cX1_holesInAll 4 (.iload_n 2) 1 5 := ⟨by decide +kernel, rfl⟩
theorem dd_X1_holesInAll_5 : jd cX1_holesInAll 5 (.aload_n 0) 1 6 := ⟨by decide +kernel, rfl⟩
theorem dd_X1_holesInAll_6 : jd cX1_holesInAll 6 (.getfield 49) 3 9 := ⟨by decide +kernel, rfl⟩
theorem dd_X1_holesInAll_12 : jd cX1_holesInAll 12 (.iload_n 1) 1 13 := ⟨by decide +kernel, rfl⟩
theorem dd_X1_holesInAll_13 : jd cX1_holesInAll 13 (.aload_n 0) 1 14 := ⟨by decide +kernel, rfl⟩
theorem dd_X1_holesInAll_14 : jd cX1_holesInAll 14 (.getfield 18) 3 17 := ⟨by decide +kernel, rfl⟩
theorem dd_X1_holesInAll_17 : jd cX1_holesInAll 17 (.iload_n 2) 1 18 := ⟨by decide +kernel, rfl⟩
theorem dd_X1_holesInAll_18 : jd cX1_holesInAll 18 (.iaload) 1 19 := ⟨by decide +kernel, rfl⟩
theorem dd_X1_holesInAll_19 : jd cX1_holesInAll 19 (.iadd) 1 20 := ⟨by decide +kernel, rfl⟩
theorem dd_X1_holesInAll_20 : jd cX1_holesInAll 20 (.istore_n 1) 1 21 := ⟨by decide +kernel, rfl⟩
theorem dd_X1_holesInAll_21 : jd cX1_holesInAll 21 (.iinc 2 1) 3 24 := ⟨by decide +kernel, rfl⟩
theorem dd_X1_holesInAll_24 : jd cX1_holesInAll 24 (.goto (-20)) 3 27 := ⟨by decide +kernel, rfl⟩
theorem dd_X1_holesInAll_9 : jd cX1_holesInAll 9 (.if_icmp .ge 18) 3 12 := ⟨by decide +kernel, rfl⟩
theorem dd_X1_holesInAll_27 : jd cX1_holesInAll 27 (.iload_n 1) 1 28 := ⟨by decide +kernel, rfl⟩
theorem dd_X1_holesInAll_28 : jd cX1_holesInAll 28 (.ireturn) 1 29 := ⟨by decide +kernel, rfl⟩
theorem m_X1_holesInAll : jmV yX1_holesInAll cX1_holesInAll 3 (some .int) 0 := ⟨⟨(jj_m (w := Cond.code yX1_holesInAll cX1_holesInAll 3 (some .int)) (List.mem_of_getElem? (i := 609) (by decide +kernel)) rfl), (jj_m (w := Cond.initialized yX1_holesInAll.cls) (List.mem_of_getElem? (i := 66) (by decide +kernel)) rfl), ⟨by decide, by decide⟩, by decide +kernel⟩, (jj_m (w := Cond.instanceMethod yX1_holesInAll) (List.mem_of_getElem? (i := 607) (by decide +kernel)) rfl), (jj_m (w := Cond.selects yX1_holesInAll.cls yX1_holesInAll yX1_holesInAll) (List.mem_of_getElem? (i := 608) (by decide +kernel)) rfl)⟩
def fX1_holesInAll_L4 (S : M2) (k27 : Int32 → Option (Int32)) : Nat → Int32 → Int32 → Option (Int32)
  | 0, _, _ => none
  | n_ + 1, v1, v2 =>
    if (S 0 0) ≤ v2 then
      k27 v1
    else
      bnd v2 5 <|
      lt ((v1 + (S 3 v2.toNatClampNeg))) fun x3 =>
      lt (v2 + (1 : Int32)) fun x4 =>
      fX1_holesInAll_L4 S k27 n_ x3 x4

def fX1_holesInAll  (S : M2) : Option (Int32) :=
  fX1_holesInAll_L4 S
    (fun p6 =>
      some p6)
    400 (0 : Int32) (0 : Int32)

set_option maxHeartbeats 4000000 in
set_option maxRecDepth 100000 in
theorem tX1_holesInAll_L4 {V : JV M2} {b : Nat} {a : Nat → Nat} (hv : vX1 V b a) (S : M2) {E : JE (M2) Int32} (hE : JOk V E cX1_holesInAll yX1_holesInAll.cls 3 0 (some .int) jj_i) {k27 : Int32 → Option (Int32)} (hk27 : ∀ p, J V E (fun r => (r, S)) (k27 p) 27 [(1, .int p)] [] S) : ∀ (n_ : Nat) (v1 : Int32) (v2 : Int32), J V E (fun r => (r, S)) (fX1_holesInAll_L4 S k27 n_ v1 v2) 4 [(0, .ref b), (1, .int v1), (2, .int v2)] [] S := by
  intro n_
  induction n_ with
  | zero =>
    intros
    exact J_none
  | succ n_ ih =>
    intros v1 v2
    rw [fX1_holesInAll_L4]
    refine J_iload_n hE dd_X1_holesInAll_4 2 rfl rfl ?_
    refine J_aload_n hE dd_X1_holesInAll_5 0 rfl rfl ?_
    refine J_get hE (hv.ob _) jc_X1 0 (by decide) fl_RX1_49 (v := .int (S 0 0)) rfl dd_X1_holesInAll_6 ?_
    refine J_icmp_ge hE (tgt := 27) dd_X1_holesInAll_9 (by decide) (fun c5 => ?_) (fun c5 => ?_)
    · refine J_sub [1] rfl ?_
      exact hk27 v1
    · refine J_iload_n hE dd_X1_holesInAll_12 1 rfl rfl ?_
      refine J_aload_n hE dd_X1_holesInAll_13 0 rfl rfl ?_
      refine J_get hE (hv.ob _) jc_X1 3 (by decide) fl_RX1_18 (v := .ref (a 3)) rfl dd_X1_holesInAll_14 ?_
      refine J_iload_n hE dd_X1_holesInAll_17 2 rfl rfl ?_
      refine J_ald hE (hv.arr 3 (n := 5) (ty := .int) (by decide) _) dd_X1_holesInAll_18 ?_
      refine J_iadd hE dd_X1_holesInAll_19 ?_
      refine J_leti (fun x3 => ?_)
      refine J_istore_n hE (L' := [(1, .int x3), (0, .ref b), (2, .int v2)]) dd_X1_holesInAll_20 (Nat.le_of_ble_eq_true rfl) rfl rfl ?_
      refine J_iincL hE (v := (v2 + (1 : Int32))) (Lf := fun x4 => [(2, .int x4), (1, .int x3), (0, .ref b)]) dd_X1_holesInAll_21 (j := 2) rfl (congrArg (v2 + ·) (by decide)) (Nat.le_of_ble_eq_true rfl) (fun _ => rfl) (fun x4 => ?_)
      refine J_goto hE (tgt := 4) dd_X1_holesInAll_24 (by decide) ?_
      refine J_sub [2, 1, 0] rfl ?_
      exact ih x3 x4
set_option maxHeartbeats 4000000 in
set_option maxRecDepth 100000 in
theorem tX1_holesInAll (l : Launch) {V : JV M2} {b : Nat} {a : Nat → Nat} (hv : vX1 V b a) (S : M2)  : JC l V yX1_holesInAll cX1_holesInAll 3 (some .int) jj_i 0 [.ref b] S ((fX1_holesInAll  S).map (fun r => (r, S))) := by
  refine jj_of (by decide) (Nat.le_of_ble_eq_true rfl) (fun E hlE hE => ?_)
  unfold fX1_holesInAll
  refine J_sub (L' := [(0, .ref b)]) [0] rfl ?_
  refine J_iconst hE (v := (0 : Int32)) dd_X1_holesInAll_0 (by decide) ?_
  refine J_istore_n hE (L' := [(1, .int (0 : Int32)), (0, .ref b)]) dd_X1_holesInAll_1 (Nat.le_of_ble_eq_true rfl) rfl rfl ?_
  refine J_iconst hE (v := (0 : Int32)) dd_X1_holesInAll_2 (by decide) ?_
  refine J_istore_n hE (L' := [(2, .int (0 : Int32)), (1, .int (0 : Int32)), (0, .ref b)]) dd_X1_holesInAll_3 (Nat.le_of_ble_eq_true rfl) rfl rfl ?_
  refine J_sub [2, 1, 0] rfl ?_
  refine tX1_holesInAll_L4 hv S hE (fun p6 => ?_) 400 (0 : Int32) (0 : Int32)
  show J V E _ _ 27 [(1, .int p6)] [] S
  refine J_iload_n hE dd_X1_holesInAll_27 0 rfl rfl ?_
  exact J_iret hE dd_X1_holesInAll_28 rfl rfl
theorem dd_X1_isEatenUp_0 : jd cX1_isEatenUp 0 (.aload_n 0) 1 1 := ⟨by decide +kernel, rfl⟩
theorem dd_X1_isEatenUp_1 : jd cX1_isEatenUp 1 (.getfield 15) 3 4 := ⟨by decide +kernel, rfl⟩
theorem dd_X1_isEatenUp_4 : jd cX1_isEatenUp 4 (.iload_n 1) 1 5 := ⟨by decide +kernel, rfl⟩
theorem dd_X1_isEatenUp_5 : jd cX1_isEatenUp 5 (.iaload) 1 6 := ⟨by decide +kernel, rfl⟩
theorem dd_X1_isEatenUp_28 : jd cX1_isEatenUp 28 (.iconst 0) 1 29 := ⟨by decide +kernel, rfl⟩
theorem dd_X1_isEatenUp_29 : jd cX1_isEatenUp 29 (.ireturn) 1 30 := ⟨by decide +kernel, rfl⟩
theorem dd_X1_isEatenUp_9 : jd cX1_isEatenUp 9 (.aload_n 0) 1 10 := ⟨by decide +kernel, rfl⟩
theorem dd_X1_isEatenUp_10 : jd cX1_isEatenUp 10 (.getfield 18) 3 13 := ⟨by decide +kernel, rfl⟩
theorem dd_X1_isEatenUp_13 : jd cX1_isEatenUp 13 (.iload_n 1) 1 14 := ⟨by decide +kernel, rfl⟩
theorem dd_X1_isEatenUp_14 : jd cX1_isEatenUp 14 (.iaload) 1 15 := ⟨by decide +kernel, rfl⟩
theorem dd_X1_isEatenUp_15 : jd cX1_isEatenUp 15 (.aload_n 0) 1 16 := ⟨by decide +kernel, rfl⟩
theorem dd_X1_isEatenUp_16 : jd cX1_isEatenUp 16 (.getfield 15) 3 19 := ⟨by decide +kernel, rfl⟩
theorem dd_X1_isEatenUp_19 : jd cX1_isEatenUp 19 (.iload_n 1) 1 20 := ⟨by decide +kernel, rfl⟩
theorem dd_X1_isEatenUp_20 : jd cX1_isEatenUp 20 (.iaload) 1 21 := ⟨by decide +kernel, rfl⟩
theorem dd_X1_isEatenUp_24 : jd cX1_isEatenUp 24 (.iconst 1) 1 25 := ⟨by decide +kernel, rfl⟩
theorem dd_X1_isEatenUp_25 : jd cX1_isEatenUp 25 (.goto 4) 3 28 := ⟨by decide +kernel, rfl⟩
theorem dd_X1_isEatenUp_21 : jd cX1_isEatenUp 21 (.if_icmp .ne 7) 3 24 := ⟨by decide +kernel, rfl⟩
theorem dd_X1_isEatenUp_6 : jd cX1_isEatenUp 6 (.ifCond .le 22) 3 9 := ⟨by decide +kernel, rfl⟩
theorem m_X1_isEatenUp : jmV yX1_isEatenUp cX1_isEatenUp 2 (some .boolean) 1 := ⟨⟨(jj_m (w := Cond.code yX1_isEatenUp cX1_isEatenUp 2 (some .boolean)) (List.mem_of_getElem? (i := 468) (by decide +kernel)) rfl), (jj_m (w := Cond.initialized yX1_isEatenUp.cls) (List.mem_of_getElem? (i := 66) (by decide +kernel)) rfl), ⟨by decide, by decide⟩, by decide +kernel⟩, (jj_m (w := Cond.instanceMethod yX1_isEatenUp) (List.mem_of_getElem? (i := 466) (by decide +kernel)) rfl), (jj_m (w := Cond.selects yX1_isEatenUp.cls yX1_isEatenUp yX1_isEatenUp) (List.mem_of_getElem? (i := 467) (by decide +kernel)) rfl)⟩
def fX1_isEatenUp (i1 : Int32) (S : M2) : Option (Int32) :=
  bnd i1 5 <|
  if (S 2 i1.toNatClampNeg) ≤ 0 then
    some (0 : Int32)
  else
    bnd i1 5 <|
    bnd i1 5 <|
    if (S 3 i1.toNatClampNeg) = (S 2 i1.toNatClampNeg) then
      some (1 : Int32)
    else
      some (0 : Int32)

set_option maxHeartbeats 4000000 in
set_option maxRecDepth 100000 in
theorem tX1_isEatenUp (l : Launch) {V : JV M2} {b : Nat} {a : Nat → Nat} (hv : vX1 V b a) (S : M2) (i1 : Int32) : JC l V yX1_isEatenUp cX1_isEatenUp 2 (some .boolean) jj_i 0 [.ref b, .int i1] S ((fX1_isEatenUp i1 S).map (fun r => (r, S))) := by
  refine jj_of (by decide) (Nat.le_of_ble_eq_true rfl) (fun E hlE hE => ?_)
  unfold fX1_isEatenUp
  refine J_sub (L' := [(0, .ref b), (1, .int i1)]) [0, 1] rfl ?_
  refine J_aload_n hE dd_X1_isEatenUp_0 0 rfl rfl ?_
  refine J_get hE (hv.ob _) jc_X1 2 (by decide) fl_RX1_15 (v := .ref (a 2)) rfl dd_X1_isEatenUp_1 ?_
  refine J_iload_n hE dd_X1_isEatenUp_4 1 rfl rfl ?_
  refine J_ald hE (hv.arr 2 (n := 5) (ty := .int) (by decide) _) dd_X1_isEatenUp_5 ?_
  refine J_if_le hE (tgt := 28) dd_X1_isEatenUp_6 (by decide) (fun c2 => ?_) (fun c2 => ?_)
  · refine J_iconst hE (v := (0 : Int32)) dd_X1_isEatenUp_28 (by decide) ?_
    exact J_zret hE (Or.inl rfl) dd_X1_isEatenUp_29 rfl rfl
  · refine J_aload_n hE dd_X1_isEatenUp_9 0 rfl rfl ?_
    refine J_get hE (hv.ob _) jc_X1 3 (by decide) fl_RX1_18 (v := .ref (a 3)) rfl dd_X1_isEatenUp_10 ?_
    refine J_iload_n hE dd_X1_isEatenUp_13 1 rfl rfl ?_
    refine J_ald hE (hv.arr 3 (n := 5) (ty := .int) (by decide) _) dd_X1_isEatenUp_14 ?_
    refine J_aload_n hE dd_X1_isEatenUp_15 0 rfl rfl ?_
    refine J_get hE (hv.ob _) jc_X1 2 (by decide) fl_RX1_15 (v := .ref (a 2)) rfl dd_X1_isEatenUp_16 ?_
    refine J_iload_n hE dd_X1_isEatenUp_19 1 rfl rfl ?_
    refine J_ald hE (hv.arr 2 (n := 5) (ty := .int) (by decide) _) dd_X1_isEatenUp_20 ?_
    refine J_icmp_ne hE (tgt := 28) dd_X1_isEatenUp_21 (by decide) (fun c1 => ?_) (fun c1 => ?_)
    · refine J_iconst hE (v := (0 : Int32)) dd_X1_isEatenUp_28 (by decide) ?_
      exact J_zret hE (Or.inl rfl) dd_X1_isEatenUp_29 rfl rfl
    · refine J_iconst hE (v := (1 : Int32)) dd_X1_isEatenUp_24 (by decide) ?_
      refine J_goto hE (tgt := 29) dd_X1_isEatenUp_25 (by decide) ?_
      exact J_zret hE (Or.inr rfl) dd_X1_isEatenUp_29 rfl rfl
theorem dd_X1_eatenUp_0 : jd cX1_eatenUp 0 (.iconst 0) 1 1 := ⟨by decide +kernel, rfl⟩
theorem dd_X1_eatenUp_1 : jd cX1_eatenUp 1 (.istore_n 1) 1 2 := ⟨by decide +kernel, rfl⟩
theorem dd_X1_eatenUp_2 : jd cX1_eatenUp 2 (.iconst 0) 1 3 := ⟨by decide +kernel, rfl⟩
theorem dd_X1_eatenUp_3 : jd cX1_eatenUp 3 (.istore_n 2) 1 4 := ⟨by decide +kernel, rfl⟩
theorem dd_X1_eatenUp_4 : jd cX1_eatenUp 4 (.iload_n 2) 1 5 := ⟨by decide +kernel, rfl⟩
theorem dd_X1_eatenUp_5 : jd cX1_eatenUp 5 (.aload_n 0) 1 6 := ⟨by decide +kernel, rfl⟩
theorem dd_X1_eatenUp_6 : jd cX1_eatenUp 6 (.getfield 49) 3 9 := ⟨by decide +kernel, rfl⟩
theorem dd_X1_eatenUp_12 : jd cX1_eatenUp 12 (.aload_n 0) 1 13 := ⟨by decide +kernel, rfl⟩
theorem dd_X1_eatenUp_13 : jd cX1_eatenUp 13 (.iload_n 2) 1 14 := ⟨by decide +kernel, rfl⟩
theorem ml_RX1_125 : (Cond.methodLink "MothCustoms$Shed" 125 yX1_isEatenUp : Cond) ∈ jj_tb := jj_m (List.mem_of_getElem? (i := 465) (by decide +kernel)) rfl
theorem dd_X1_eatenUp_14 : jd cX1_eatenUp 14 (.invokevirtual 125) 3 17 := ⟨by decide +kernel, rfl⟩
theorem dd_X1_eatenUp_20 : jd cX1_eatenUp 20 (.iload_n 1) 1 21 := ⟨by decide +kernel, rfl⟩
theorem dd_X1_eatenUp_21 : jd cX1_eatenUp 21 (.iconst 1) 1 22 := ⟨by decide +kernel, rfl⟩
theorem dd_X1_eatenUp_22 : jd cX1_eatenUp 22 (.iload_n 2) 1 23 := ⟨by decide +kernel, rfl⟩
theorem dd_X1_eatenUp_23 : jd cX1_eatenUp 23 (.ishl) 1 24 := ⟨by decide +kernel, rfl⟩
theorem dd_X1_eatenUp_24 : jd cX1_eatenUp 24 (.ior) 1 25 := ⟨by decide +kernel, rfl⟩
theorem dd_X1_eatenUp_25 : jd cX1_eatenUp 25 (.istore_n 1) 1 26 := ⟨by decide +kernel, rfl⟩
theorem dd_X1_eatenUp_17 : jd cX1_eatenUp 17 (.ifCond .eq 9) 3 20 := ⟨by decide +kernel, rfl⟩
theorem dd_X1_eatenUp_26 : jd cX1_eatenUp 26 (.iinc 2 1) 3 29 := ⟨by decide +kernel, rfl⟩
theorem dd_X1_eatenUp_29 : jd cX1_eatenUp 29 (.goto (-25)) 3 32 := ⟨by decide +kernel, rfl⟩
theorem dd_X1_eatenUp_9 : jd cX1_eatenUp 9 (.if_icmp .ge 23) 3 12 := ⟨by decide +kernel, rfl⟩
theorem dd_X1_eatenUp_32 : jd cX1_eatenUp 32 (.iload_n 1) 1 33 := ⟨by decide +kernel, rfl⟩
theorem dd_X1_eatenUp_33 : jd cX1_eatenUp 33 (.ireturn) 1 34 := ⟨by decide +kernel, rfl⟩
theorem m_X1_eatenUp : jmV yX1_eatenUp cX1_eatenUp 3 (some .int) 0 := ⟨⟨(jj_m (w := Cond.code yX1_eatenUp cX1_eatenUp 3 (some .int)) (List.mem_of_getElem? (i := 464) (by decide +kernel)) rfl), (jj_m (w := Cond.initialized yX1_eatenUp.cls) (List.mem_of_getElem? (i := 66) (by decide +kernel)) rfl), ⟨by decide, by decide⟩, by decide +kernel⟩, (jj_m (w := Cond.instanceMethod yX1_eatenUp) (List.mem_of_getElem? (i := 462) (by decide +kernel)) rfl), (jj_m (w := Cond.selects yX1_eatenUp.cls yX1_eatenUp yX1_eatenUp) (List.mem_of_getElem? (i := 463) (by decide +kernel)) rfl)⟩
def fX1_eatenUp_L4 (S : M2) (k32 : Int32 → Option (Int32)) : Nat → Int32 → Int32 → Option (Int32)
  | 0, _, _ => none
  | n_ + 1, v1, v2 =>
    if (S 0 0) ≤ v2 then
      k32 v1
    else
      (fX1_isEatenUp v2 S).bind fun r3 =>
      jn (α := Option (Int32)) (β := Int32) (fun j4 =>
        if r3 = 0 then
          j4 v1
        else
          lt ((v1 ||| ((1 : Int32) <<< (v2 &&& 31)))) fun x5 =>
          j4 x5) (fun p7 => 
        lt (v2 + (1 : Int32)) fun x8 =>
        fX1_eatenUp_L4 S k32 n_ p7 x8)

def fX1_eatenUp  (S : M2) : Option (Int32) :=
  fX1_eatenUp_L4 S
    (fun p10 =>
      some p10)
    400 (0 : Int32) (0 : Int32)

set_option maxHeartbeats 4000000 in
set_option maxRecDepth 100000 in
theorem tX1_eatenUp_L4 {V : JV M2} {b : Nat} {a : Nat → Nat} (hv : vX1 V b a) (S : M2) {E : JE (M2) Int32} (hE : JOk V E cX1_eatenUp yX1_eatenUp.cls 3 1 (some .int) jj_i) {k32 : Int32 → Option (Int32)} (hk32 : ∀ p, J V E (fun r => (r, S)) (k32 p) 32 [(1, .int p)] [] S) : ∀ (n_ : Nat) (v1 : Int32) (v2 : Int32), J V E (fun r => (r, S)) (fX1_eatenUp_L4 S k32 n_ v1 v2) 4 [(0, .ref b), (1, .int v1), (2, .int v2)] [] S := by
  intro n_
  induction n_ with
  | zero =>
    intros
    exact J_none
  | succ n_ ih =>
    intros v1 v2
    rw [fX1_eatenUp_L4]
    refine J_iload_n hE dd_X1_eatenUp_4 2 rfl rfl ?_
    refine J_aload_n hE dd_X1_eatenUp_5 0 rfl rfl ?_
    refine J_get hE (hv.ob _) jc_X1 0 (by decide) fl_RX1_49 (v := .int (S 0 0)) rfl dd_X1_eatenUp_6 ?_
    refine J_icmp_ge hE (tgt := 32) dd_X1_eatenUp_9 (by decide) (fun c9 => ?_) (fun c9 => ?_)
    · refine J_sub [1] rfl ?_
      exact hk32 v1
    · refine J_aload_n hE dd_X1_eatenUp_12 0 rfl rfl ?_
      refine J_iload_n hE dd_X1_eatenUp_13 2 rfl rfl ?_
      refine J_invVri hE (As := [.int v2]) (st := []) (tX1_isEatenUp E.2.1 hv S v2) (hv.ob _) m_X1_isEatenUp rfl ml_RX1_125 (Nat.le_of_ble_eq_true rfl) (Nat.le_of_ble_eq_true rfl) rfl (Nat.le_of_ble_eq_true rfl) dd_X1_eatenUp_14 (fun r3 => ?_)
      refine J_jn (m := 26) (Lf := fun p7 => [(0, .ref b), (1, .int p7), (2, .int v2)]) (sf := fun p7 => []) (Xf := fun p7 => S) (fun p7 => ?_) (fun hj4 => ?_)
      · show J V E _ _ 26 [(0, .ref b), (1, .int p7), (2, .int v2)] [] S
        refine J_iincL hE (v := (v2 + (1 : Int32))) (Lf := fun x8 => [(2, .int x8), (0, .ref b), (1, .int p7)]) dd_X1_eatenUp_26 (j := 2) rfl (congrArg (v2 + ·) (by decide)) (Nat.le_of_ble_eq_true rfl) (fun _ => rfl) (fun x8 => ?_)
        refine J_goto hE (tgt := 4) dd_X1_eatenUp_29 (by decide) ?_
        refine J_sub [1, 2, 0] rfl ?_
        exact ih p7 x8
      · refine J_if_eq hE (tgt := 26) dd_X1_eatenUp_17 (by decide) (fun c6 => ?_) (fun c6 => ?_)
        · refine J_sub [0, 1, 2] rfl ?_
          exact hj4 v1
        · refine J_iload_n hE dd_X1_eatenUp_20 1 rfl rfl ?_
          refine J_iconst hE (v := (1 : Int32)) dd_X1_eatenUp_21 (by decide) ?_
          refine J_iload_n hE dd_X1_eatenUp_22 2 rfl rfl ?_
          refine J_ishl hE dd_X1_eatenUp_23 ?_
          refine J_ior hE dd_X1_eatenUp_24 ?_
          refine J_leti (fun x5 => ?_)
          refine J_istore_n hE (L' := [(1, .int x5), (0, .ref b), (2, .int v2)]) dd_X1_eatenUp_25 (Nat.le_of_ble_eq_true rfl) rfl rfl ?_
          refine J_sub [1, 0, 2] rfl ?_
          exact hj4 x5
set_option maxHeartbeats 4000000 in
set_option maxRecDepth 100000 in
theorem tX1_eatenUp (l : Launch) {V : JV M2} {b : Nat} {a : Nat → Nat} (hv : vX1 V b a) (S : M2)  : JC l V yX1_eatenUp cX1_eatenUp 3 (some .int) jj_i 1 [.ref b] S ((fX1_eatenUp  S).map (fun r => (r, S))) := by
  refine jj_of (by decide) (Nat.le_of_ble_eq_true rfl) (fun E hlE hE => ?_)
  unfold fX1_eatenUp
  refine J_sub (L' := [(0, .ref b)]) [0] rfl ?_
  refine J_iconst hE (v := (0 : Int32)) dd_X1_eatenUp_0 (by decide) ?_
  refine J_istore_n hE (L' := [(1, .int (0 : Int32)), (0, .ref b)]) dd_X1_eatenUp_1 (Nat.le_of_ble_eq_true rfl) rfl rfl ?_
  refine J_iconst hE (v := (0 : Int32)) dd_X1_eatenUp_2 (by decide) ?_
  refine J_istore_n hE (L' := [(2, .int (0 : Int32)), (1, .int (0 : Int32)), (0, .ref b)]) dd_X1_eatenUp_3 (Nat.le_of_ble_eq_true rfl) rfl rfl ?_
  refine J_sub [2, 1, 0] rfl ?_
  refine tX1_eatenUp_L4 hv S hE (fun p10 => ?_) 400 (0 : Int32) (0 : Int32)
  show J V E _ _ 32 [(1, .int p10)] [] S
  refine J_iload_n hE dd_X1_eatenUp_32 0 rfl rfl ?_
  exact J_iret hE dd_X1_eatenUp_33 rfl rfl
theorem dd_X1_isAsSeen_0 : jd cX1_isAsSeen 0 (.iconst 0) 1 1 := ⟨by decide +kernel, rfl⟩
theorem dd_X1_isAsSeen_1 : jd cX1_isAsSeen 1 (.istore_n 2) 1 2 := ⟨by decide +kernel, rfl⟩
theorem dd_X1_isAsSeen_2 : jd cX1_isAsSeen 2 (.iload_n 2) 1 3 := ⟨by decide +kernel, rfl⟩
theorem dd_X1_isAsSeen_3 : jd cX1_isAsSeen 3 (.aload_n 0) 1 4 := ⟨by decide +kernel, rfl⟩
theorem dd_X1_isAsSeen_4 : jd cX1_isAsSeen 4 (.getfield 64) 3 7 := ⟨by decide +kernel, rfl⟩
theorem dd_X1_isAsSeen_10 : jd cX1_isAsSeen 10 (.aload_n 0) 1 11 := ⟨by decide +kernel, rfl⟩
theorem dd_X1_isAsSeen_11 : jd cX1_isAsSeen 11 (.getfield 43) 3 14 := ⟨by decide +kernel, rfl⟩
theorem dd_X1_isAsSeen_14 : jd cX1_isAsSeen 14 (.iload_n 2) 1 15 := ⟨by decide +kernel, rfl⟩
theorem dd_X1_isAsSeen_15 : jd cX1_isAsSeen 15 (.iaload) 1 16 := ⟨by decide +kernel, rfl⟩
theorem dd_X1_isAsSeen_16 : jd cX1_isAsSeen 16 (.istore_n 3) 1 17 := ⟨by decide +kernel, rfl⟩
theorem dd_X1_isAsSeen_17 : jd cX1_isAsSeen 17 (.iload_n 1) 1 18 := ⟨by decide +kernel, rfl⟩
theorem dd_X1_isAsSeen_18 : jd cX1_isAsSeen 18 (.iload_n 3) 1 19 := ⟨by decide +kernel, rfl⟩
theorem dd_X1_isAsSeen_19 : jd cX1_isAsSeen 19 (.ishr) 1 20 := ⟨by decide +kernel, rfl⟩
theorem dd_X1_isAsSeen_20 : jd cX1_isAsSeen 20 (.iconst 1) 1 21 := ⟨by decide +kernel, rfl⟩
theorem dd_X1_isAsSeen_21 : jd cX1_isAsSeen 21 (.iand) 1 22 := ⟨by decide +kernel, rfl⟩
theorem dd_X1_isAsSeen_22 : jd cX1_isAsSeen 22 (.iconst 1) 1 23 := ⟨by decide +kernel, rfl⟩
theorem dd_X1_isAsSeen_26 : jd cX1_isAsSeen 26 (.aload_n 0) 1 27 := ⟨by decide +kernel, rfl⟩
theorem dd_X1_isAsSeen_27 : jd cX1_isAsSeen 27 (.getfield 18) 3 30 := ⟨by decide +kernel, rfl⟩
theorem dd_X1_isAsSeen_30 : jd cX1_isAsSeen 30 (.iload_n 3) 1 31 := ⟨by decide +kernel, rfl⟩
theorem dd_X1_isAsSeen_31 : jd cX1_isAsSeen 31 (.iaload) 1 32 := ⟨by decide +kernel, rfl⟩
theorem dd_X1_isAsSeen_32 : jd cX1_isAsSeen 32 (.aload_n 0) 1 33 := ⟨by decide +kernel, rfl⟩
theorem dd_X1_isAsSeen_33 : jd cX1_isAsSeen 33 (.getfield 15) 3 36 := ⟨by decide +kernel, rfl⟩
theorem dd_X1_isAsSeen_36 : jd cX1_isAsSeen 36 (.iload_n 3) 1 37 := ⟨by decide +kernel, rfl⟩
theorem dd_X1_isAsSeen_37 : jd cX1_isAsSeen 37 (.iaload) 1 38 := ⟨by decide +kernel, rfl⟩
theorem dd_X1_isAsSeen_41 : jd cX1_isAsSeen 41 (.iconst 1) 1 42 := ⟨by decide +kernel, rfl⟩
theorem dd_X1_isAsSeen_42 : jd cX1_isAsSeen 42 (.goto 4) 3 45 := ⟨by decide +kernel, rfl⟩
theorem dd_X1_isAsSeen_38 : jd cX1_isAsSeen 38 (.if_icmp .ge 7) 3 41 := ⟨by decide +kernel, rfl⟩
theorem dd_X1_isAsSeen_23 : jd cX1_isAsSeen 23 (.if_icmp .ne 22) 3 26 := ⟨by decide +kernel, rfl⟩
theorem dd_X1_isAsSeen_45 : jd cX1_isAsSeen 45 (.iconst 0) 1 46 := ⟨by decide +kernel, rfl⟩
theorem dd_X1_isAsSeen_46 : jd cX1_isAsSeen 46 (.istore 4) 2 48 := ⟨by decide +kernel, rfl⟩
theorem dd_X1_isAsSeen_48 : jd cX1_isAsSeen 48 (.aload_n 0) 1 49 := ⟨by decide +kernel, rfl⟩
theorem dd_X1_isAsSeen_49 : jd cX1_isAsSeen 49 (.getfield 18) 3 52 := ⟨by decide +kernel, rfl⟩
theorem dd_X1_isAsSeen_52 : jd cX1_isAsSeen 52 (.iload_n 3) 1 53 := ⟨by decide +kernel, rfl⟩
theorem dd_X1_isAsSeen_53 : jd cX1_isAsSeen 53 (.iaload) 1 54 := ⟨by decide +kernel, rfl⟩
theorem dd_X1_isAsSeen_54 : jd cX1_isAsSeen 54 (.iload 4) 2 56 := ⟨by decide +kernel, rfl⟩
theorem dd_X1_isAsSeen_56 : jd cX1_isAsSeen 56 (.iadd) 1 57 := ⟨by decide +kernel, rfl⟩
theorem dd_X1_isAsSeen_57 : jd cX1_isAsSeen 57 (.aload_n 0) 1 58 := ⟨by decide +kernel, rfl⟩
theorem dd_X1_isAsSeen_58 : jd cX1_isAsSeen 58 (.getfield 46) 3 61 := ⟨by decide +kernel, rfl⟩
theorem dd_X1_isAsSeen_61 : jd cX1_isAsSeen 61 (.iload_n 2) 1 62 := ⟨by decide +kernel, rfl⟩
theorem dd_X1_isAsSeen_62 : jd cX1_isAsSeen 62 (.iaload) 1 63 := ⟨by decide +kernel, rfl⟩
theorem dd_X1_isAsSeen_68 : jd cX1_isAsSeen 68 (.iinc 2 1) 3 71 := ⟨by decide +kernel, rfl⟩
theorem dd_X1_isAsSeen_71 : jd cX1_isAsSeen 71 (.goto (-69)) 3 74 := ⟨by decide +kernel, rfl⟩
theorem dd_X1_isAsSeen_66 : jd cX1_isAsSeen 66 (.iconst 0) 1 67 := ⟨by decide +kernel, rfl⟩
theorem dd_X1_isAsSeen_67 : jd cX1_isAsSeen 67 (.ireturn) 1 68 := ⟨by decide +kernel, rfl⟩
theorem dd_X1_isAsSeen_63 : jd cX1_isAsSeen 63 (.if_icmp .eq 5) 3 66 := ⟨by decide +kernel, rfl⟩
theorem dd_X1_isAsSeen_7 : jd cX1_isAsSeen 7 (.if_icmp .ge 67) 3 10 := ⟨by decide +kernel, rfl⟩
theorem dd_X1_isAsSeen_74 : jd cX1_isAsSeen 74 (.iconst 1) 1 75 := ⟨by decide +kernel, rfl⟩
theorem dd_X1_isAsSeen_75 : jd cX1_isAsSeen 75 (.ireturn) 1 76 := ⟨by decide +kernel, rfl⟩
theorem m_X1_isAsSeen : jmV yX1_isAsSeen cX1_isAsSeen 5 (some .boolean) 1 := ⟨⟨(jj_m (w := Cond.code yX1_isAsSeen cX1_isAsSeen 5 (some .boolean)) (List.mem_of_getElem? (i := 700) (by decide +kernel)) rfl), (jj_m (w := Cond.initialized yX1_isAsSeen.cls) (List.mem_of_getElem? (i := 66) (by decide +kernel)) rfl), ⟨by decide, by decide⟩, by decide +kernel⟩, (jj_m (w := Cond.instanceMethod yX1_isAsSeen) (List.mem_of_getElem? (i := 698) (by decide +kernel)) rfl), (jj_m (w := Cond.selects yX1_isAsSeen.cls yX1_isAsSeen yX1_isAsSeen) (List.mem_of_getElem? (i := 699) (by decide +kernel)) rfl)⟩
def fX1_isAsSeen_L2 (S : M2) (i1 : Int32) (k74 : Unit → Option (Int32)) : Nat → Int32 → Option (Int32)
  | 0, _ => none
  | n_ + 1, v1 =>
    if (S 15 0) ≤ v1 then
      k74 ()
    else
      bnd v1 6 <|
      lt ((S 16 v1.toNatClampNeg)) fun x2 =>
      jn (α := Option (Int32)) (β := Int32) (fun j4 =>
        jn (α := Option (Int32)) (β := Unit) (fun j3 =>
          if ((i1 >>> (x2 &&& 31)) &&& (1 : Int32)) = (1 : Int32) then
            bnd x2 5 <|
            bnd x2 5 <|
            if (S 2 x2.toNatClampNeg) ≤ (S 3 x2.toNatClampNeg) then
              j3 ()
            else
              j4 (1 : Int32)
          else
            j3 ()) (fun _ => 
          j4 (0 : Int32))) (fun p8 => 
        bnd x2 5 <|
        bnd v1 6 <|
        if ((S 3 x2.toNatClampNeg) + p8) = (S 17 v1.toNatClampNeg) then
          lt (v1 + (1 : Int32)) fun x9 =>
          fX1_isAsSeen_L2 S i1 k74 n_ x9
        else
          some (0 : Int32))

def fX1_isAsSeen (i1 : Int32) (S : M2) : Option (Int32) :=
  fX1_isAsSeen_L2 S i1
    (fun _ =>
      some (1 : Int32))
    400 (0 : Int32)

set_option maxHeartbeats 4000000 in
set_option maxRecDepth 100000 in
theorem tX1_isAsSeen_L2 {V : JV M2} {b : Nat} {a : Nat → Nat} (hv : vX1 V b a) (S : M2) (i1 : Int32) {E : JE (M2) Int32} (hE : JOk V E cX1_isAsSeen yX1_isAsSeen.cls 5 0 (some .boolean) jj_i) {k74 : Unit → Option (Int32)} (hk74 : ∀ p, J V E (fun r => (r, S)) (k74 p) 74 [] [] S) : ∀ (n_ : Nat) (v1 : Int32), J V E (fun r => (r, S)) (fX1_isAsSeen_L2 S i1 k74 n_ v1) 2 [(0, .ref b), (1, .int i1), (2, .int v1)] [] S := by
  intro n_
  induction n_ with
  | zero =>
    intros
    exact J_none
  | succ n_ ih =>
    intros v1
    rw [fX1_isAsSeen_L2]
    refine J_iload_n hE dd_X1_isAsSeen_2 2 rfl rfl ?_
    refine J_aload_n hE dd_X1_isAsSeen_3 0 rfl rfl ?_
    refine J_get hE (hv.ob _) jc_X1 15 (by decide) fl_RX1_64 (v := .int (S 15 0)) rfl dd_X1_isAsSeen_4 ?_
    refine J_icmp_ge hE (tgt := 74) dd_X1_isAsSeen_7 (by decide) (fun c11 => ?_) (fun c11 => ?_)
    · refine J_sub [] rfl ?_
      exact hk74 ()
    · refine J_aload_n hE dd_X1_isAsSeen_10 0 rfl rfl ?_
      refine J_get hE (hv.ob _) jc_X1 16 (by decide) fl_RX1_43 (v := .ref (a 16)) rfl dd_X1_isAsSeen_11 ?_
      refine J_iload_n hE dd_X1_isAsSeen_14 2 rfl rfl ?_
      refine J_ald hE (hv.arr 16 (n := 6) (ty := .int) (by decide) _) dd_X1_isAsSeen_15 ?_
      refine J_leti (fun x2 => ?_)
      refine J_istore_n hE (L' := [(3, .int x2), (0, .ref b), (1, .int i1), (2, .int v1)]) dd_X1_isAsSeen_16 (Nat.le_of_ble_eq_true rfl) rfl rfl ?_
      refine J_iload_n hE dd_X1_isAsSeen_17 2 rfl rfl ?_
      refine J_iload_n hE dd_X1_isAsSeen_18 0 rfl rfl ?_
      refine J_ishr hE dd_X1_isAsSeen_19 ?_
      refine J_iconst hE (v := (1 : Int32)) dd_X1_isAsSeen_20 (by decide) ?_
      refine J_iand hE dd_X1_isAsSeen_21 ?_
      refine J_iconst hE (v := (1 : Int32)) dd_X1_isAsSeen_22 (by decide) ?_
      refine J_jn (m := 46) (Lf := fun p8 => [(0, .ref b), (1, .int i1), (2, .int v1), (3, .int x2)]) (sf := fun p8 => [.int p8]) (Xf := fun p8 => S) (fun p8 => ?_) (fun hj4 => ?_)
      · show J V E _ _ 46 [(0, .ref b), (1, .int i1), (2, .int v1), (3, .int x2)] [.int p8] S
        refine J_istore hE (L' := [(4, .int p8), (0, .ref b), (1, .int i1), (2, .int v1), (3, .int x2)]) dd_X1_isAsSeen_46 (Nat.le_of_ble_eq_true rfl) rfl ?_
        refine J_aload_n hE dd_X1_isAsSeen_48 1 rfl rfl ?_
        refine J_get hE (hv.ob _) jc_X1 3 (by decide) fl_RX1_18 (v := .ref (a 3)) rfl dd_X1_isAsSeen_49 ?_
        refine J_iload_n hE dd_X1_isAsSeen_52 4 rfl rfl ?_
        refine J_ald hE (hv.arr 3 (n := 5) (ty := .int) (by decide) _) dd_X1_isAsSeen_53 ?_
        refine J_iload hE dd_X1_isAsSeen_54 0 rfl ?_
        refine J_iadd hE dd_X1_isAsSeen_56 ?_
        refine J_aload_n hE dd_X1_isAsSeen_57 1 rfl rfl ?_
        refine J_get hE (hv.ob _) jc_X1 17 (by decide) fl_RX1_46 (v := .ref (a 17)) rfl dd_X1_isAsSeen_58 ?_
        refine J_iload_n hE dd_X1_isAsSeen_61 3 rfl rfl ?_
        refine J_ald hE (hv.arr 17 (n := 6) (ty := .int) (by decide) _) dd_X1_isAsSeen_62 ?_
        refine J_icmp_eq hE (tgt := 68) dd_X1_isAsSeen_63 (by decide) (fun c10 => ?_) (fun c10 => ?_)
        · refine J_iincL hE (v := (v1 + (1 : Int32))) (Lf := fun x9 => [(2, .int x9), (4, .int p8), (0, .ref b), (1, .int i1), (3, .int x2)]) dd_X1_isAsSeen_68 (j := 3) rfl (congrArg (v1 + ·) (by decide)) (Nat.le_of_ble_eq_true rfl) (fun _ => rfl) (fun x9 => ?_)
          refine J_goto hE (tgt := 2) dd_X1_isAsSeen_71 (by decide) ?_
          refine J_sub [2, 3, 0] rfl ?_
          exact ih x9
        · refine J_iconst hE (v := (0 : Int32)) dd_X1_isAsSeen_66 (by decide) ?_
          exact J_zret hE (Or.inl rfl) dd_X1_isAsSeen_67 rfl rfl
      · refine J_jn (m := 45) (Lf := fun _ => [(0, .ref b), (1, .int i1), (2, .int v1), (3, .int x2)]) (sf := fun _ => []) (Xf := fun _ => S) (fun _ => ?_) (fun hj3 => ?_)
        · show J V E _ _ 45 [(0, .ref b), (1, .int i1), (2, .int v1), (3, .int x2)] [] S
          refine J_iconst hE (v := (0 : Int32)) dd_X1_isAsSeen_45 (by decide) ?_
          refine J_sub [0, 1, 2, 3] rfl ?_
          exact hj4 (0 : Int32)
        · refine J_icmp_ne hE (tgt := 45) dd_X1_isAsSeen_23 (by decide) (fun c6 => ?_) (fun c6 => ?_)
          · refine J_sub [1, 2, 3, 0] rfl ?_
            exact hj3 ()
          · refine J_aload_n hE dd_X1_isAsSeen_26 1 rfl rfl ?_
            refine J_get hE (hv.ob _) jc_X1 3 (by decide) fl_RX1_18 (v := .ref (a 3)) rfl dd_X1_isAsSeen_27 ?_
            refine J_iload_n hE dd_X1_isAsSeen_30 0 rfl rfl ?_
            refine J_ald hE (hv.arr 3 (n := 5) (ty := .int) (by decide) _) dd_X1_isAsSeen_31 ?_
            refine J_aload_n hE dd_X1_isAsSeen_32 1 rfl rfl ?_
            refine J_get hE (hv.ob _) jc_X1 2 (by decide) fl_RX1_15 (v := .ref (a 2)) rfl dd_X1_isAsSeen_33 ?_
            refine J_iload_n hE dd_X1_isAsSeen_36 0 rfl rfl ?_
            refine J_ald hE (hv.arr 2 (n := 5) (ty := .int) (by decide) _) dd_X1_isAsSeen_37 ?_
            refine J_icmp_ge hE (tgt := 45) dd_X1_isAsSeen_38 (by decide) (fun c5 => ?_) (fun c5 => ?_)
            · refine J_sub [1, 2, 3, 0] rfl ?_
              exact hj3 ()
            · refine J_iconst hE (v := (1 : Int32)) dd_X1_isAsSeen_41 (by decide) ?_
              refine J_goto hE (tgt := 46) dd_X1_isAsSeen_42 (by decide) ?_
              refine J_sub [1, 2, 3, 0] rfl ?_
              exact hj4 (1 : Int32)
set_option maxHeartbeats 4000000 in
set_option maxRecDepth 100000 in
theorem tX1_isAsSeen (l : Launch) {V : JV M2} {b : Nat} {a : Nat → Nat} (hv : vX1 V b a) (S : M2) (i1 : Int32) : JC l V yX1_isAsSeen cX1_isAsSeen 5 (some .boolean) jj_i 0 [.ref b, .int i1] S ((fX1_isAsSeen i1 S).map (fun r => (r, S))) := by
  refine jj_of (by decide) (Nat.le_of_ble_eq_true rfl) (fun E hlE hE => ?_)
  unfold fX1_isAsSeen
  refine J_sub (L' := [(0, .ref b), (1, .int i1)]) [0, 1] rfl ?_
  refine J_iconst hE (v := (0 : Int32)) dd_X1_isAsSeen_0 (by decide) ?_
  refine J_istore_n hE (L' := [(2, .int (0 : Int32)), (0, .ref b), (1, .int i1)]) dd_X1_isAsSeen_1 (Nat.le_of_ble_eq_true rfl) rfl rfl ?_
  refine J_sub [1, 2, 0] rfl ?_
  refine tX1_isAsSeen_L2 hv S i1 hE (fun _ => ?_) 400 (0 : Int32)
  show J V E _ _ 74 [] [] S
  refine J_iconst hE (v := (1 : Int32)) dd_X1_isAsSeen_74 (by decide) ?_
  exact J_zret hE (Or.inr rfl) dd_X1_isAsSeen_75 rfl rfl
