theorem dd_X2_makeNew_0 : jd cX2_makeNew 0 (.aload_n 0) 1 1 := ⟨by decide +kernel, rfl⟩
theorem dd_X2_makeNew_1 : jd cX2_makeNew 1 (.iconst 1) 1 2 := ⟨by decide +kernel, rfl⟩
theorem fl_RX2_15 : (Cond.fieldLink "MothCustoms$Sheet" 15 "MothCustoms$Sheet" "there" "Z" : Cond) ∈ jj_tb := jj_m (List.mem_of_getElem? (i := 223) (by decide +kernel)) rfl
theorem dd_X2_makeNew_2 : jd cX2_makeNew 2 (.putfield 15) 3 5 := ⟨by decide +kernel, rfl⟩
theorem dd_X2_makeNew_5 : jd cX2_makeNew 5 (.aload_n 0) 1 6 := ⟨by decide +kernel, rfl⟩
theorem dd_X2_makeNew_6 : jd cX2_makeNew 6 (.iload_n 1) 1 7 := ⟨by decide +kernel, rfl⟩
theorem fl_RX2_19 : (Cond.fieldLink "MothCustoms$Sheet" 19 "MothCustoms$Sheet" "lane" "I" : Cond) ∈ jj_tb := jj_m (List.mem_of_getElem? (i := 225) (by decide +kernel)) rfl
theorem dd_X2_makeNew_7 : jd cX2_makeNew 7 (.putfield 19) 3 10 := ⟨by decide +kernel, rfl⟩
theorem dd_X2_makeNew_10 : jd cX2_makeNew 10 (.aload_n 0) 1 11 := ⟨by decide +kernel, rfl⟩
theorem dd_X2_makeNew_11 : jd cX2_makeNew 11 (.iload_n 2) 1 12 := ⟨by decide +kernel, rfl⟩
theorem fl_RX2_23 : (Cond.fieldLink "MothCustoms$Sheet" 23 "MothCustoms$Sheet" "size" "I" : Cond) ∈ jj_tb := jj_m (List.mem_of_getElem? (i := 226) (by decide +kernel)) rfl
theorem dd_X2_makeNew_12 : jd cX2_makeNew 12 (.putfield 23) 3 15 := ⟨by decide +kernel, rfl⟩
theorem dd_X2_makeNew_15 : jd cX2_makeNew 15 (.iconst 0) 1 16 := ⟨by decide +kernel, rfl⟩
theorem dd_X2_makeNew_16 : jd cX2_makeNew 16 (.istore_n 3) 1 17 := ⟨by decide +kernel, rfl⟩
theorem dd_X2_makeNew_17 : jd cX2_makeNew 17 (.iload_n 3) 1 18 := ⟨by decide +kernel, rfl⟩
theorem dd_X2_makeNew_18 : jd cX2_makeNew 18 (.bipush 40) 2 20 := ⟨by decide +kernel, rfl⟩
theorem dd_X2_makeNew_23 : jd cX2_makeNew 23 (.aload_n 0) 1 24 := ⟨by decide +kernel, rfl⟩
theorem fl_RX2_9 : (Cond.fieldLink "MothCustoms$Sheet" 9 "MothCustoms$Sheet" "cells" "[I" : Cond) ∈ jj_tb := jj_m (List.mem_of_getElem? (i := 228) (by decide +kernel)) rfl
theorem dd_X2_makeNew_24 : jd cX2_makeNew 24 (.getfield 9) 3 27 := ⟨by decide +kernel, rfl⟩
theorem dd_X2_makeNew_27 : jd cX2_makeNew 27 (.iload_n 3) 1 28 := ⟨by decide +kernel, rfl⟩
theorem dd_X2_makeNew_28 : jd cX2_makeNew 28 (.iconst 0) 1 29 := ⟨by decide +kernel, rfl⟩
theorem dd_X2_makeNew_29 : jd cX2_makeNew 29 (.iastore) 1 30 := ⟨by decide +kernel, rfl⟩
theorem dd_X2_makeNew_30 : jd cX2_makeNew 30 (.iinc 3 1) 3 33 := ⟨by decide +kernel, rfl⟩
theorem dd_X2_makeNew_33 : jd cX2_makeNew 33 (.goto (-16)) 3 36 := ⟨by decide +kernel, rfl⟩
theorem dd_X2_makeNew_20 : jd cX2_makeNew 20 (.if_icmp .ge 16) 3 23 := ⟨by decide +kernel, rfl⟩
theorem dd_X2_makeNew_36 : jd cX2_makeNew 36 (.return_) 1 37 := ⟨by decide +kernel, rfl⟩
theorem m_X2_makeNew : jmV yX2_makeNew cX2_makeNew 4 none 2 := ⟨⟨(jj_m (w := Cond.code yX2_makeNew cX2_makeNew 4 none) (List.mem_of_getElem? (i := 750) (by decide +kernel)) rfl), (jj_m (w := Cond.initialized yX2_makeNew.cls) (List.mem_of_getElem? (i := 67) (by decide +kernel)) rfl), ⟨by decide, by decide⟩, by decide +kernel⟩, (jj_m (w := Cond.instanceMethod yX2_makeNew) (List.mem_of_getElem? (i := 748) (by decide +kernel)) rfl), (jj_m (w := Cond.selects yX2_makeNew.cls yX2_makeNew yX2_makeNew) (List.mem_of_getElem? (i := 749) (by decide +kernel)) rfl)⟩
def fX2_makeNew_L17  (k36 : M2 → Option (M2)) : Nat → Int32 → M2 → Option (M2)
  | 0, _, _ => none
  | n_ + 1, v4, S5 =>
    if (40 : Int32) ≤ v4 then
      k36 S5
    else
      bnd v4 40 <|
      lt (va_up S5 3 (upd (S5 3) v4.toNatClampNeg (0 : Int32))) fun S6 =>
      lt (v4 + (1 : Int32)) fun x7 =>
      fX2_makeNew_L17 k36 n_ x7 S6

def fX2_makeNew (i1 : Int32) (i2 : Int32) (S : M2) : Option (M2) :=
  lt (va_up S 0 (fun _ => (1 : Int32))) fun S1 =>
  lt (va_up S1 1 (fun _ => i1)) fun S2 =>
  lt (va_up S2 2 (fun _ => i2)) fun S3 =>
  fX2_makeNew_L17 
    (fun p9 =>
      some p9)
    400 (0 : Int32) S3

set_option maxHeartbeats 4000000 in
set_option maxRecDepth 100000 in
theorem tX2_makeNew_L17 {V : JV M2} {b : Nat} {a : Nat → Nat} (hv : vX2 V b a)  {E : JE (M2) Unit} (hE : JOk V E cX2_makeNew yX2_makeNew.cls 4 0 none jj_v) {k36 : M2 → Option (M2)} (hk36 : ∀ p, J V E (fun q => ((), q)) (k36 p) 36 [] [] p) : ∀ (n_ : Nat) (v4 : Int32) (S5 : M2), J V E (fun q => ((), q)) (fX2_makeNew_L17 k36 n_ v4 S5) 17 [(0, .ref b), (3, .int v4)] [] S5 := by
  intro n_
  induction n_ with
  | zero =>
    intros
    exact J_none
  | succ n_ ih =>
    intros v4 S5
    rw [fX2_makeNew_L17]
    refine J_iload_n hE dd_X2_makeNew_17 1 rfl rfl ?_
    refine J_bipush hE (v := (40 : Int32)) dd_X2_makeNew_18 (by decide) ?_
    refine J_icmp_ge hE (tgt := 36) dd_X2_makeNew_20 (by decide) (fun c8 => ?_) (fun c8 => ?_)
    · refine J_sub [] rfl ?_
      exact hk36 S5
    · refine J_aload_n hE dd_X2_makeNew_23 0 rfl rfl ?_
      refine J_get hE (hv.ob _) jc_X2 3 (by decide) fl_RX2_9 (v := .ref (a 3)) rfl dd_X2_makeNew_24 ?_
      refine J_iload_n hE dd_X2_makeNew_27 1 rfl rfl ?_
      refine J_iconst hE (v := (0 : Int32)) dd_X2_makeNew_28 (by decide) ?_
      refine J_ast hE hv 3 (N := 40) (by decide) dd_X2_makeNew_29 ?_
      refine J_letS (fun S6 => ?_)
      refine J_iincL hE (v := (v4 + (1 : Int32))) (Lf := fun x7 => [(3, .int x7), (0, .ref b)]) dd_X2_makeNew_30 (j := 1) rfl (congrArg (v4 + ·) (by decide)) (Nat.le_of_ble_eq_true rfl) (fun _ => rfl) (fun x7 => ?_)
      refine J_goto hE (tgt := 17) dd_X2_makeNew_33 (by decide) ?_
      refine J_sub [1, 0] rfl ?_
      exact ih x7 S6
set_option maxHeartbeats 4000000 in
set_option maxRecDepth 100000 in
theorem tX2_makeNew (l : Launch) {V : JV M2} {b : Nat} {a : Nat → Nat} (hv : vX2 V b a) (S : M2) (i1 : Int32) (i2 : Int32) : JC l V yX2_makeNew cX2_makeNew 4 none jj_v 0 [.ref b, .int i1, .int i2] S ((fX2_makeNew i1 i2 S).map (fun q => ((), q))) := by
  refine jj_of (by decide) (Nat.le_of_ble_eq_true rfl) (fun E hlE hE => ?_)
  unfold fX2_makeNew
  refine J_sub (L' := [(0, .ref b), (1, .int i1), (2, .int i2)]) [0, 1, 2] rfl ?_
  refine J_aload_n hE dd_X2_makeNew_0 0 rfl rfl ?_
  refine J_iconst hE (v := (1 : Int32)) dd_X2_makeNew_1 (by decide) ?_
  refine J_put hE hv jc_X2 0 (by decide) (by decide) fl_RX2_15 rfl rfl rfl (Nat.le_of_ble_eq_true rfl) dd_X2_makeNew_2 ?_
  refine J_letS (fun S1 => ?_)
  refine J_aload_n hE dd_X2_makeNew_5 0 rfl rfl ?_
  refine J_iload_n hE dd_X2_makeNew_6 1 rfl rfl ?_
  refine J_put hE hv jc_X2 1 (by decide) (by decide) fl_RX2_19 rfl rfl rfl (Nat.le_of_ble_eq_true rfl) dd_X2_makeNew_7 ?_
  refine J_letS (fun S2 => ?_)
  refine J_aload_n hE dd_X2_makeNew_10 0 rfl rfl ?_
  refine J_iload_n hE dd_X2_makeNew_11 2 rfl rfl ?_
  refine J_put hE hv jc_X2 2 (by decide) (by decide) fl_RX2_23 rfl rfl rfl (Nat.le_of_ble_eq_true rfl) dd_X2_makeNew_12 ?_
  refine J_letS (fun S3 => ?_)
  refine J_iconst hE (v := (0 : Int32)) dd_X2_makeNew_15 (by decide) ?_
  refine J_istore_n hE (L' := [(3, .int (0 : Int32)), (0, .ref b), (1, .int i1), (2, .int i2)]) dd_X2_makeNew_16 (Nat.le_of_ble_eq_true rfl) rfl rfl ?_
  refine J_sub [1, 0] rfl ?_
  refine tX2_makeNew_L17 hv  hE (fun p9 => ?_) 400 (0 : Int32) S3
  show J V E _ _ 36 [] [] p9
  exact J_vret hE dd_X2_makeNew_36 rfl rfl
theorem dd_X2_hasCell_0 : jd cX2_hasCell 0 (.aload_n 0) 1 1 := ⟨by decide +kernel, rfl⟩
theorem dd_X2_hasCell_1 : jd cX2_hasCell 1 (.getfield 15) 3 4 := ⟨by decide +kernel, rfl⟩
theorem dd_X2_hasCell_25 : jd cX2_hasCell 25 (.iconst 0) 1 26 := ⟨by decide +kernel, rfl⟩
theorem dd_X2_hasCell_26 : jd cX2_hasCell 26 (.ireturn) 1 27 := ⟨by decide +kernel, rfl⟩
theorem dd_X2_hasCell_7 : jd cX2_hasCell 7 (.iload_n 1) 1 8 := ⟨by decide +kernel, rfl⟩
theorem dd_X2_hasCell_8 : jd cX2_hasCell 8 (.iconst 0) 1 9 := ⟨by decide +kernel, rfl⟩
theorem dd_X2_hasCell_9 : jd cX2_hasCell 9 (.aload_n 0) 1 10 := ⟨by decide +kernel, rfl⟩
theorem dd_X2_hasCell_10 : jd cX2_hasCell 10 (.getfield 23) 3 13 := ⟨by decide +kernel, rfl⟩
theorem dd_X2_hasCell_13 : jd cX2_hasCell 13 (.iconst 1) 1 14 := ⟨by decide +kernel, rfl⟩
theorem dd_X2_hasCell_14 : jd cX2_hasCell 14 (.isub) 1 15 := ⟨by decide +kernel, rfl⟩
theorem dd_X2_hasCell_15 : jd cX2_hasCell 15 (.invokestatic 26) 3 18 := ⟨by decide +kernel, rfl⟩
theorem dd_X2_hasCell_21 : jd cX2_hasCell 21 (.iconst 1) 1 22 := ⟨by decide +kernel, rfl⟩
theorem dd_X2_hasCell_22 : jd cX2_hasCell 22 (.goto 4) 3 25 := ⟨by decide +kernel, rfl⟩
theorem dd_X2_hasCell_18 : jd cX2_hasCell 18 (.ifCond .eq 7) 3 21 := ⟨by decide +kernel, rfl⟩
theorem dd_X2_hasCell_4 : jd cX2_hasCell 4 (.ifCond .eq 21) 3 7 := ⟨by decide +kernel, rfl⟩
theorem m_X2_hasCell : jmV yX2_hasCell cX2_hasCell 2 (some .boolean) 1 := ⟨⟨(jj_m (w := Cond.code yX2_hasCell cX2_hasCell 2 (some .boolean)) (List.mem_of_getElem? (i := 758) (by decide +kernel)) rfl), (jj_m (w := Cond.initialized yX2_hasCell.cls) (List.mem_of_getElem? (i := 67) (by decide +kernel)) rfl), ⟨by decide, by decide⟩, by decide +kernel⟩, (jj_m (w := Cond.instanceMethod yX2_hasCell) (List.mem_of_getElem? (i := 756) (by decide +kernel)) rfl), (jj_m (w := Cond.selects yX2_hasCell.cls yX2_hasCell yX2_hasCell) (List.mem_of_getElem? (i := 757) (by decide +kernel)) rfl)⟩
def fX2_hasCell (i1 : Int32) (S : M2) : Option (Int32) :=
  if (S 0 0) = 0 then
    some (0 : Int32)
  else
    (fX4_within i1 (0 : Int32) ((S 2 0) - (1 : Int32))).bind fun r1 =>
    if r1 = 0 then
      some (0 : Int32)
    else
      some (1 : Int32)

set_option maxHeartbeats 4000000 in
set_option maxRecDepth 100000 in
theorem tX2_hasCell (l : Launch) {V : JV M2} {b : Nat} {a : Nat → Nat} (hv : vX2 V b a) (S : M2) (i1 : Int32) : JC l V yX2_hasCell cX2_hasCell 2 (some .boolean) jj_i 1 [.ref b, .int i1] S ((fX2_hasCell i1 S).map (fun r => (r, S))) := by
  refine jj_of (by decide) (Nat.le_of_ble_eq_true rfl) (fun E hlE hE => ?_)
  unfold fX2_hasCell
  refine J_sub (L' := [(0, .ref b), (1, .int i1)]) [0, 1] rfl ?_
  refine J_aload_n hE dd_X2_hasCell_0 0 rfl rfl ?_
  refine J_get hE (hv.ob _) jc_X2 0 (by decide) fl_RX2_15 (v := .int (S 0 0)) rfl dd_X2_hasCell_1 ?_
  refine J_if_eq hE (tgt := 25) dd_X2_hasCell_4 (by decide) (fun c3 => ?_) (fun c3 => ?_)
  · refine J_iconst hE (v := (0 : Int32)) dd_X2_hasCell_25 (by decide) ?_
    exact J_zret hE (Or.inl rfl) dd_X2_hasCell_26 rfl rfl
  · refine J_iload_n hE dd_X2_hasCell_7 1 rfl rfl ?_
    refine J_iconst hE (v := (0 : Int32)) dd_X2_hasCell_8 (by decide) ?_
    refine J_aload_n hE dd_X2_hasCell_9 0 rfl rfl ?_
    refine J_get hE (hv.ob _) jc_X2 2 (by decide) fl_RX2_23 (v := .int (S 2 0)) rfl dd_X2_hasCell_10 ?_
    refine J_iconst hE (v := (1 : Int32)) dd_X2_hasCell_13 (by decide) ?_
    refine J_isub hE dd_X2_hasCell_14 ?_
    refine J_invNri hE (host := "MothCustoms") (As := [.int i1, .int (0 : Int32), .int ((S 2 0) - (1 : Int32))]) (st := []) (tX4_within E.2.1 V S i1 (0 : Int32) ((S 2 0) - (1 : Int32))) m_X4_within s_X4_within rfl (by decide +kernel) (Nat.le_of_ble_eq_true rfl) (Nat.le_of_ble_eq_true rfl) rfl (Nat.le_of_ble_eq_true rfl) dd_X2_hasCell_15 (fun r1 => ?_)
    refine J_if_eq hE (tgt := 25) dd_X2_hasCell_18 (by decide) (fun c2 => ?_) (fun c2 => ?_)
    · refine J_iconst hE (v := (0 : Int32)) dd_X2_hasCell_25 (by decide) ?_
      exact J_zret hE (Or.inl rfl) dd_X2_hasCell_26 rfl rfl
    · refine J_iconst hE (v := (1 : Int32)) dd_X2_hasCell_21 (by decide) ?_
      refine J_goto hE (tgt := 26) dd_X2_hasCell_22 (by decide) ?_
      exact J_zret hE (Or.inr rfl) dd_X2_hasCell_26 rfl rfl
theorem dd_X2_setCell_0 : jd cX2_setCell 0 (.aload_n 0) 1 1 := ⟨by decide +kernel, rfl⟩
theorem dd_X2_setCell_1 : jd cX2_setCell 1 (.getfield 19) 3 4 := ⟨by decide +kernel, rfl⟩
theorem dd_X2_setCell_18 : jd cX2_setCell 18 (.aload_n 0) 1 19 := ⟨by decide +kernel, rfl⟩
theorem dd_X2_setCell_19 : jd cX2_setCell 19 (.getfield 9) 3 22 := ⟨by decide +kernel, rfl⟩
theorem dd_X2_setCell_22 : jd cX2_setCell 22 (.iload_n 1) 1 23 := ⟨by decide +kernel, rfl⟩
theorem dd_X2_setCell_23 : jd cX2_setCell 23 (.aload_n 0) 1 24 := ⟨by decide +kernel, rfl⟩
theorem dd_X2_setCell_24 : jd cX2_setCell 24 (.getfield 19) 3 27 := ⟨by decide +kernel, rfl⟩
theorem dd_X2_setCell_27 : jd cX2_setCell 27 (.iconst 1) 1 28 := ⟨by decide +kernel, rfl⟩
theorem dd_X2_setCell_36 : jd cX2_setCell 36 (.iload_n 2) 1 37 := ⟨by decide +kernel, rfl⟩
theorem dd_X2_setCell_37 : jd cX2_setCell 37 (.iastore) 1 38 := ⟨by decide +kernel, rfl⟩
theorem dd_X2_setCell_38 : jd cX2_setCell 38 (.return_) 1 39 := ⟨by decide +kernel, rfl⟩
theorem dd_X2_setCell_31 : jd cX2_setCell 31 (.iload_n 2) 1 32 := ⟨by decide +kernel, rfl⟩
theorem dd_X2_setCell_32 : jd cX2_setCell 32 (.i2s) 1 33 := ⟨by decide +kernel, rfl⟩
theorem dd_X2_setCell_33 : jd cX2_setCell 33 (.goto 4) 3 36 := ⟨by decide +kernel, rfl⟩
theorem dd_X2_setCell_28 : jd cX2_setCell 28 (.if_icmp .ne 8) 3 31 := ⟨by decide +kernel, rfl⟩
theorem dd_X2_setCell_7 : jd cX2_setCell 7 (.aload_n 0) 1 8 := ⟨by decide +kernel, rfl⟩
theorem dd_X2_setCell_8 : jd cX2_setCell 8 (.getfield 9) 3 11 := ⟨by decide +kernel, rfl⟩
theorem dd_X2_setCell_11 : jd cX2_setCell 11 (.iload_n 1) 1 12 := ⟨by decide +kernel, rfl⟩
theorem dd_X2_setCell_12 : jd cX2_setCell 12 (.iload_n 2) 1 13 := ⟨by decide +kernel, rfl⟩
theorem dd_X2_setCell_13 : jd cX2_setCell 13 (.i2b) 1 14 := ⟨by decide +kernel, rfl⟩
theorem dd_X2_setCell_14 : jd cX2_setCell 14 (.iastore) 1 15 := ⟨by decide +kernel, rfl⟩
theorem dd_X2_setCell_15 : jd cX2_setCell 15 (.goto 23) 3 18 := ⟨by decide +kernel, rfl⟩
theorem dd_X2_setCell_4 : jd cX2_setCell 4 (.ifCond .ne 14) 3 7 := ⟨by decide +kernel, rfl⟩
theorem m_X2_setCell : jmV yX2_setCell cX2_setCell 3 none 2 := ⟨⟨(jj_m (w := Cond.code yX2_setCell cX2_setCell 3 none) (List.mem_of_getElem? (i := 763) (by decide +kernel)) rfl), (jj_m (w := Cond.initialized yX2_setCell.cls) (List.mem_of_getElem? (i := 67) (by decide +kernel)) rfl), ⟨by decide, by decide⟩, by decide +kernel⟩, (jj_m (w := Cond.instanceMethod yX2_setCell) (List.mem_of_getElem? (i := 761) (by decide +kernel)) rfl), (jj_m (w := Cond.selects yX2_setCell.cls yX2_setCell yX2_setCell) (List.mem_of_getElem? (i := 762) (by decide +kernel)) rfl)⟩
def fX2_setCell (i1 : Int32) (i2 : Int32) (S : M2) : Option (M2) :=
  if (S 1 0) = 0 then
    bnd i1 40 <|
    lt (va_up S 3 (upd (S 3) i1.toNatClampNeg (i2.toInt8.toInt32))) fun S4 =>
    some S4
  else
    if (S 1 0) = (1 : Int32) then
      bnd i1 40 <|
      lt (va_up S 3 (upd (S 3) i1.toNatClampNeg (i2.toInt16.toInt32))) fun S2 =>
      some S2
    else
      bnd i1 40 <|
      lt (va_up S 3 (upd (S 3) i1.toNatClampNeg i2)) fun S1 =>
      some S1

set_option maxHeartbeats 4000000 in
set_option maxRecDepth 100000 in
theorem tX2_setCell (l : Launch) {V : JV M2} {b : Nat} {a : Nat → Nat} (hv : vX2 V b a) (S : M2) (i1 : Int32) (i2 : Int32) : JC l V yX2_setCell cX2_setCell 3 none jj_v 0 [.ref b, .int i1, .int i2] S ((fX2_setCell i1 i2 S).map (fun q => ((), q))) := by
  refine jj_of (by decide) (Nat.le_of_ble_eq_true rfl) (fun E hlE hE => ?_)
  unfold fX2_setCell
  refine J_sub (L' := [(0, .ref b), (1, .int i1), (2, .int i2)]) [0, 1, 2] rfl ?_
  refine J_aload_n hE dd_X2_setCell_0 0 rfl rfl ?_
  refine J_get hE (hv.ob _) jc_X2 1 (by decide) fl_RX2_19 (v := .int (S 1 0)) rfl dd_X2_setCell_1 ?_
  refine J_if_ne hE (tgt := 18) dd_X2_setCell_4 (by decide) (fun c5 => ?_) (fun c5 => ?_)
  · refine J_aload_n hE dd_X2_setCell_18 0 rfl rfl ?_
    refine J_get hE (hv.ob _) jc_X2 3 (by decide) fl_RX2_9 (v := .ref (a 3)) rfl dd_X2_setCell_19 ?_
    refine J_iload_n hE dd_X2_setCell_22 1 rfl rfl ?_
    refine J_aload_n hE dd_X2_setCell_23 0 rfl rfl ?_
    refine J_get hE (hv.ob _) jc_X2 1 (by decide) fl_RX2_19 (v := .int (S 1 0)) rfl dd_X2_setCell_24 ?_
    refine J_iconst hE (v := (1 : Int32)) dd_X2_setCell_27 (by decide) ?_
    refine J_icmp_ne hE (tgt := 36) dd_X2_setCell_28 (by decide) (fun c3 => ?_) (fun c3 => ?_)
    · refine J_iload_n hE dd_X2_setCell_36 2 rfl rfl ?_
      refine J_ast hE hv 3 (N := 40) (by decide) dd_X2_setCell_37 ?_
      refine J_letS (fun S1 => ?_)
      exact J_vret hE dd_X2_setCell_38 rfl rfl
    · refine J_iload_n hE dd_X2_setCell_31 2 rfl rfl ?_
      refine J_i2s hE dd_X2_setCell_32 ?_
      refine J_goto hE (tgt := 37) dd_X2_setCell_33 (by decide) ?_
      refine J_ast hE hv 3 (N := 40) (by decide) dd_X2_setCell_37 ?_
      refine J_letS (fun S2 => ?_)
      exact J_vret hE dd_X2_setCell_38 rfl rfl
  · refine J_aload_n hE dd_X2_setCell_7 0 rfl rfl ?_
    refine J_get hE (hv.ob _) jc_X2 3 (by decide) fl_RX2_9 (v := .ref (a 3)) rfl dd_X2_setCell_8 ?_
    refine J_iload_n hE dd_X2_setCell_11 1 rfl rfl ?_
    refine J_iload_n hE dd_X2_setCell_12 2 rfl rfl ?_
    refine J_i2b hE dd_X2_setCell_13 ?_
    refine J_ast hE hv 3 (N := 40) (by decide) dd_X2_setCell_14 ?_
    refine J_letS (fun S4 => ?_)
    refine J_goto hE (tgt := 38) dd_X2_setCell_15 (by decide) ?_
    exact J_vret hE dd_X2_setCell_38 rfl rfl
theorem dd_X2_faultAs_0 : jd cX2_faultAs 0 (.aload_n 0) 1 1 := ⟨by decide +kernel, rfl⟩
theorem dd_X2_faultAs_1 : jd cX2_faultAs 1 (.getfield 15) 3 4 := ⟨by decide +kernel, rfl⟩
theorem dd_X2_faultAs_9 : jd cX2_faultAs 9 (.aload_n 0) 1 10 := ⟨by decide +kernel, rfl⟩
theorem dd_X2_faultAs_10 : jd cX2_faultAs 10 (.getfield 19) 3 13 := ⟨by decide +kernel, rfl⟩
theorem dd_X2_faultAs_13 : jd cX2_faultAs 13 (.iload_n 1) 1 14 := ⟨by decide +kernel, rfl⟩
theorem dd_X2_faultAs_21 : jd cX2_faultAs 21 (.iconst 3) 1 22 := ⟨by decide +kernel, rfl⟩
theorem dd_X2_faultAs_22 : jd cX2_faultAs 22 (.ireturn) 1 23 := ⟨by decide +kernel, rfl⟩
theorem dd_X2_faultAs_17 : jd cX2_faultAs 17 (.iconst 0) 1 18 := ⟨by decide +kernel, rfl⟩
theorem dd_X2_faultAs_18 : jd cX2_faultAs 18 (.goto 4) 3 21 := ⟨by decide +kernel, rfl⟩
theorem dd_X2_faultAs_14 : jd cX2_faultAs 14 (.if_icmp .ne 7) 3 17 := ⟨by decide +kernel, rfl⟩
theorem dd_X2_faultAs_7 : jd cX2_faultAs 7 (.iconst 1) 1 8 := ⟨by decide +kernel, rfl⟩
theorem dd_X2_faultAs_8 : jd cX2_faultAs 8 (.ireturn) 1 9 := ⟨by decide +kernel, rfl⟩
theorem dd_X2_faultAs_4 : jd cX2_faultAs 4 (.ifCond .ne 5) 3 7 := ⟨by decide +kernel, rfl⟩
theorem m_X2_faultAs : jmV yX2_faultAs cX2_faultAs 2 (some .int) 1 := ⟨⟨(jj_m (w := Cond.code yX2_faultAs cX2_faultAs 2 (some .int)) (List.mem_of_getElem? (i := 771) (by decide +kernel)) rfl), (jj_m (w := Cond.initialized yX2_faultAs.cls) (List.mem_of_getElem? (i := 67) (by decide +kernel)) rfl), ⟨by decide, by decide⟩, by decide +kernel⟩, (jj_m (w := Cond.instanceMethod yX2_faultAs) (List.mem_of_getElem? (i := 769) (by decide +kernel)) rfl), (jj_m (w := Cond.selects yX2_faultAs.cls yX2_faultAs yX2_faultAs) (List.mem_of_getElem? (i := 770) (by decide +kernel)) rfl)⟩
def fX2_faultAs (i1 : Int32) (S : M2) : Option (Int32) :=
  if (S 0 0) = 0 then
    some (1 : Int32)
  else
    if (S 1 0) = i1 then
      some (0 : Int32)
    else
      some (3 : Int32)

set_option maxHeartbeats 4000000 in
set_option maxRecDepth 100000 in
theorem tX2_faultAs (l : Launch) {V : JV M2} {b : Nat} {a : Nat → Nat} (hv : vX2 V b a) (S : M2) (i1 : Int32) : JC l V yX2_faultAs cX2_faultAs 2 (some .int) jj_i 0 [.ref b, .int i1] S ((fX2_faultAs i1 S).map (fun r => (r, S))) := by
  refine jj_of (by decide) (Nat.le_of_ble_eq_true rfl) (fun E hlE hE => ?_)
  unfold fX2_faultAs
  refine J_sub (L' := [(0, .ref b), (1, .int i1)]) [0, 1] rfl ?_
  refine J_aload_n hE dd_X2_faultAs_0 0 rfl rfl ?_
  refine J_get hE (hv.ob _) jc_X2 0 (by decide) fl_RX2_15 (v := .int (S 0 0)) rfl dd_X2_faultAs_1 ?_
  refine J_if_ne hE (tgt := 9) dd_X2_faultAs_4 (by decide) (fun c2 => ?_) (fun c2 => ?_)
  · refine J_aload_n hE dd_X2_faultAs_9 0 rfl rfl ?_
    refine J_get hE (hv.ob _) jc_X2 1 (by decide) fl_RX2_19 (v := .int (S 1 0)) rfl dd_X2_faultAs_10 ?_
    refine J_iload_n hE dd_X2_faultAs_13 1 rfl rfl ?_
    refine J_icmp_ne hE (tgt := 21) dd_X2_faultAs_14 (by decide) (fun c1 => ?_) (fun c1 => ?_)
    · refine J_iconst hE (v := (3 : Int32)) dd_X2_faultAs_21 (by decide) ?_
      exact J_iret hE dd_X2_faultAs_22 rfl rfl
    · refine J_iconst hE (v := (0 : Int32)) dd_X2_faultAs_17 (by decide) ?_
      refine J_goto hE (tgt := 22) dd_X2_faultAs_18 (by decide) ?_
      exact J_iret hE dd_X2_faultAs_22 rfl rfl
  · refine J_iconst hE (v := (1 : Int32)) dd_X2_faultAs_7 (by decide) ?_
    exact J_iret hE dd_X2_faultAs_8 rfl rfl
theorem dd_X2_wholePairs_0 : jd cX2_wholePairs 0 (.iconst 0) 1 1 := ⟨by decide +kernel, rfl⟩
theorem dd_X2_wholePairs_1 : jd cX2_wholePairs 1 (.istore_n 3) 1 2 := ⟨by decide +kernel, rfl⟩
theorem dd_X2_wholePairs_2 : jd cX2_wholePairs 2 (.iload_n 3) 1 3 := ⟨by decide +kernel, rfl⟩
theorem dd_X2_wholePairs_3 : jd cX2_wholePairs 3 (.iload_n 2) 1 4 := ⟨by decide +kernel, rfl⟩
theorem dd_X2_wholePairs_7 : jd cX2_wholePairs 7 (.aload_n 0) 1 8 := ⟨by decide +kernel, rfl⟩
theorem dd_X2_wholePairs_8 : jd cX2_wholePairs 8 (.iload_n 1) 1 9 := ⟨by decide +kernel, rfl⟩
theorem ml_RX2_30 : (Cond.methodLink "MothCustoms$Sheet" 30 yX2_hasCell : Cond) ∈ jj_tb := jj_m (List.mem_of_getElem? (i := 776) (by decide +kernel)) rfl
theorem dd_X2_wholePairs_9 : jd cX2_wholePairs 9 (.invokevirtual 30) 3 12 := ⟨by decide +kernel, rfl⟩
theorem dd_X2_wholePairs_15 : jd cX2_wholePairs 15 (.aload_n 0) 1 16 := ⟨by decide +kernel, rfl⟩
theorem dd_X2_wholePairs_16 : jd cX2_wholePairs 16 (.iload_n 1) 1 17 := ⟨by decide +kernel, rfl⟩
theorem dd_X2_wholePairs_17 : jd cX2_wholePairs 17 (.iconst 2) 1 18 := ⟨by decide +kernel, rfl⟩
theorem dd_X2_wholePairs_18 : jd cX2_wholePairs 18 (.iload_n 3) 1 19 := ⟨by decide +kernel, rfl⟩
theorem dd_X2_wholePairs_19 : jd cX2_wholePairs 19 (.imul) 1 20 := ⟨by decide +kernel, rfl⟩
theorem dd_X2_wholePairs_20 : jd cX2_wholePairs 20 (.iadd) 1 21 := ⟨by decide +kernel, rfl⟩
theorem dd_X2_wholePairs_21 : jd cX2_wholePairs 21 (.iconst 1) 1 22 := ⟨by decide +kernel, rfl⟩
theorem dd_X2_wholePairs_22 : jd cX2_wholePairs 22 (.iadd) 1 23 := ⟨by decide +kernel, rfl⟩
theorem dd_X2_wholePairs_23 : jd cX2_wholePairs 23 (.invokevirtual 30) 3 26 := ⟨by decide +kernel, rfl⟩
theorem dd_X2_wholePairs_29 : jd cX2_wholePairs 29 (.iinc 3 1) 3 32 := ⟨by decide +kernel, rfl⟩
theorem dd_X2_wholePairs_32 : jd cX2_wholePairs 32 (.goto (-30)) 3 35 := ⟨by decide +kernel, rfl⟩
theorem dd_X2_wholePairs_26 : jd cX2_wholePairs 26 (.ifCond .eq 9) 3 29 := ⟨by decide +kernel, rfl⟩
theorem dd_X2_wholePairs_12 : jd cX2_wholePairs 12 (.ifCond .eq 23) 3 15 := ⟨by decide +kernel, rfl⟩
theorem dd_X2_wholePairs_4 : jd cX2_wholePairs 4 (.if_icmp .ge 31) 3 7 := ⟨by decide +kernel, rfl⟩
theorem dd_X2_wholePairs_35 : jd cX2_wholePairs 35 (.iload_n 3) 1 36 := ⟨by decide +kernel, rfl⟩
theorem dd_X2_wholePairs_36 : jd cX2_wholePairs 36 (.ireturn) 1 37 := ⟨by decide +kernel, rfl⟩
theorem m_X2_wholePairs : jmV yX2_wholePairs cX2_wholePairs 4 (some .int) 2 := ⟨⟨(jj_m (w := Cond.code yX2_wholePairs cX2_wholePairs 4 (some .int)) (List.mem_of_getElem? (i := 775) (by decide +kernel)) rfl), (jj_m (w := Cond.initialized yX2_wholePairs.cls) (List.mem_of_getElem? (i := 67) (by decide +kernel)) rfl), ⟨by decide, by decide⟩, by decide +kernel⟩, (jj_m (w := Cond.instanceMethod yX2_wholePairs) (List.mem_of_getElem? (i := 773) (by decide +kernel)) rfl), (jj_m (w := Cond.selects yX2_wholePairs.cls yX2_wholePairs yX2_wholePairs) (List.mem_of_getElem? (i := 774) (by decide +kernel)) rfl)⟩
def fX2_wholePairs_L2 (S : M2) (i1 : Int32) (i2 : Int32) (k35 : Int32 → Option (Int32)) : Nat → Int32 → Option (Int32)
  | 0, _ => none
  | n_ + 1, v1 =>
    if i2 ≤ v1 then
      k35 v1
    else
      (fX2_hasCell i1 S).bind fun r2 =>
      if r2 = 0 then
        k35 v1
      else
        (fX2_hasCell ((i1 + ((2 : Int32) * v1)) + (1 : Int32)) S).bind fun r3 =>
        if r3 = 0 then
          k35 v1
        else
          lt (v1 + (1 : Int32)) fun x4 =>
          fX2_wholePairs_L2 S i1 i2 k35 n_ x4

def fX2_wholePairs (i1 : Int32) (i2 : Int32) (S : M2) : Option (Int32) :=
  fX2_wholePairs_L2 S i1 i2
    (fun p8 =>
      some p8)
    400 (0 : Int32)

set_option maxHeartbeats 4000000 in
set_option maxRecDepth 100000 in
theorem tX2_wholePairs_L2 {V : JV M2} {b : Nat} {a : Nat → Nat} (hv : vX2 V b a) (S : M2) (i1 : Int32) (i2 : Int32) {E : JE (M2) Int32} (hE : JOk V E cX2_wholePairs yX2_wholePairs.cls 4 2 (some .int) jj_i) {k35 : Int32 → Option (Int32)} (hk35 : ∀ p, J V E (fun r => (r, S)) (k35 p) 35 [(3, .int p)] [] S) : ∀ (n_ : Nat) (v1 : Int32), J V E (fun r => (r, S)) (fX2_wholePairs_L2 S i1 i2 k35 n_ v1) 2 [(0, .ref b), (1, .int i1), (2, .int i2), (3, .int v1)] [] S := by
  intro n_
  induction n_ with
  | zero =>
    intros
    exact J_none
  | succ n_ ih =>
    intros v1
    rw [fX2_wholePairs_L2]
    refine J_iload_n hE dd_X2_wholePairs_2 3 rfl rfl ?_
    refine J_iload_n hE dd_X2_wholePairs_3 2 rfl rfl ?_
    refine J_icmp_ge hE (tgt := 35) dd_X2_wholePairs_4 (by decide) (fun c7 => ?_) (fun c7 => ?_)
    · refine J_sub [3] rfl ?_
      exact hk35 v1
    · refine J_aload_n hE dd_X2_wholePairs_7 0 rfl rfl ?_
      refine J_iload_n hE dd_X2_wholePairs_8 1 rfl rfl ?_
      refine J_invVri hE (As := [.int i1]) (st := []) (tX2_hasCell E.2.1 hv S i1) (hv.ob _) m_X2_hasCell rfl ml_RX2_30 (Nat.le_of_ble_eq_true rfl) (Nat.le_of_ble_eq_true rfl) rfl (Nat.le_of_ble_eq_true rfl) dd_X2_wholePairs_9 (fun r2 => ?_)
      refine J_if_eq hE (tgt := 35) dd_X2_wholePairs_12 (by decide) (fun c6 => ?_) (fun c6 => ?_)
      · refine J_sub [3] rfl ?_
        exact hk35 v1
      · refine J_aload_n hE dd_X2_wholePairs_15 0 rfl rfl ?_
        refine J_iload_n hE dd_X2_wholePairs_16 1 rfl rfl ?_
        refine J_iconst hE (v := (2 : Int32)) dd_X2_wholePairs_17 (by decide) ?_
        refine J_iload_n hE dd_X2_wholePairs_18 3 rfl rfl ?_
        refine J_imul hE dd_X2_wholePairs_19 ?_
        refine J_iadd hE dd_X2_wholePairs_20 ?_
        refine J_iconst hE (v := (1 : Int32)) dd_X2_wholePairs_21 (by decide) ?_
        refine J_iadd hE dd_X2_wholePairs_22 ?_
        refine J_invVri hE (As := [.int ((i1 + ((2 : Int32) * v1)) + (1 : Int32))]) (st := []) (tX2_hasCell E.2.1 hv S ((i1 + ((2 : Int32) * v1)) + (1 : Int32))) (hv.ob _) m_X2_hasCell rfl ml_RX2_30 (Nat.le_of_ble_eq_true rfl) (Nat.le_of_ble_eq_true rfl) rfl (Nat.le_of_ble_eq_true rfl) dd_X2_wholePairs_23 (fun r3 => ?_)
        refine J_if_eq hE (tgt := 35) dd_X2_wholePairs_26 (by decide) (fun c5 => ?_) (fun c5 => ?_)
        · refine J_sub [3] rfl ?_
          exact hk35 v1
        · refine J_iincL hE (v := (v1 + (1 : Int32))) (Lf := fun x4 => [(3, .int x4), (0, .ref b), (1, .int i1), (2, .int i2)]) dd_X2_wholePairs_29 (j := 3) rfl (congrArg (v1 + ·) (by decide)) (Nat.le_of_ble_eq_true rfl) (fun _ => rfl) (fun x4 => ?_)
          refine J_goto hE (tgt := 2) dd_X2_wholePairs_32 (by decide) ?_
          refine J_sub [1, 2, 3, 0] rfl ?_
          exact ih x4
set_option maxHeartbeats 4000000 in
set_option maxRecDepth 100000 in
theorem tX2_wholePairs (l : Launch) {V : JV M2} {b : Nat} {a : Nat → Nat} (hv : vX2 V b a) (S : M2) (i1 : Int32) (i2 : Int32) : JC l V yX2_wholePairs cX2_wholePairs 4 (some .int) jj_i 2 [.ref b, .int i1, .int i2] S ((fX2_wholePairs i1 i2 S).map (fun r => (r, S))) := by
  refine jj_of (by decide) (Nat.le_of_ble_eq_true rfl) (fun E hlE hE => ?_)
  unfold fX2_wholePairs
  refine J_sub (L' := [(0, .ref b), (1, .int i1), (2, .int i2)]) [0, 1, 2] rfl ?_
  refine J_iconst hE (v := (0 : Int32)) dd_X2_wholePairs_0 (by decide) ?_
  refine J_istore_n hE (L' := [(3, .int (0 : Int32)), (0, .ref b), (1, .int i1), (2, .int i2)]) dd_X2_wholePairs_1 (Nat.le_of_ble_eq_true rfl) rfl rfl ?_
  refine J_sub [1, 2, 3, 0] rfl ?_
  refine tX2_wholePairs_L2 hv S i1 i2 hE (fun p8 => ?_) 400 (0 : Int32)
  show J V E _ _ 35 [(3, .int p8)] [] S
  refine J_iload_n hE dd_X2_wholePairs_35 0 rfl rfl ?_
  exact J_iret hE dd_X2_wholePairs_36 rfl rfl
