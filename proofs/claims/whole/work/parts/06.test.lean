theorem dd_X4_within_0 : jd cX4_within 0 (.iload_n 0) 1 1 := ⟨by decide +kernel, rfl⟩
theorem dd_X4_within_1 : jd cX4_within 1 (.iload_n 1) 1 2 := ⟨by decide +kernel, rfl⟩
theorem dd_X4_within_14 : jd cX4_within 14 (.iconst 0) 1 15 := ⟨by decide +kernel, rfl⟩
theorem dd_X4_within_15 : jd cX4_within 15 (.ireturn) 1 16 := ⟨by decide +kernel, rfl⟩
theorem dd_X4_within_5 : jd cX4_within 5 (.iload_n 0) 1 6 := ⟨by decide +kernel, rfl⟩
theorem dd_X4_within_6 : jd cX4_within 6 (.iload_n 2) 1 7 := ⟨by decide +kernel, rfl⟩
theorem dd_X4_within_10 : jd cX4_within 10 (.iconst 1) 1 11 := ⟨by decide +kernel, rfl⟩
theorem dd_X4_within_11 : jd cX4_within 11 (.goto 4) 3 14 := ⟨by decide +kernel, rfl⟩
theorem dd_X4_within_7 : jd cX4_within 7 (.if_icmp .gt 7) 3 10 := ⟨by decide +kernel, rfl⟩
theorem dd_X4_within_2 : jd cX4_within 2 (.if_icmp .lt 12) 3 5 := ⟨by decide +kernel, rfl⟩
theorem m_X4_within : jmS yX4_within cX4_within 3 (some .boolean) 3 := ⟨(jj_m (w := Cond.code yX4_within cX4_within 3 (some .boolean)) (List.mem_of_getElem? (i := 299) (by decide +kernel)) rfl), (jj_m (w := Cond.initialized yX4_within.cls) (List.mem_of_getElem? (i := 64) (by decide +kernel)) rfl), ⟨by decide, by decide⟩, by decide +kernel⟩
theorem s_X4_within : (Cond.static yX4_within : Cond) ∈ jj_tb := (jj_m (w := Cond.static yX4_within) (List.mem_of_getElem? (i := 298) (by decide +kernel)) rfl)
def fX4_within (x0 : Int32) (x1 : Int32) (x2 : Int32)  : Option (Int32) :=
  if x0 < x1 then
    some (0 : Int32)
  else
    if x2 < x0 then
      some (0 : Int32)
    else
      some (1 : Int32)

set_option maxHeartbeats 4000000 in
set_option maxRecDepth 100000 in
theorem tX4_within (l : Launch) {σ : Type} (V : JV σ) (X : σ)  (x0 : Int32) (x1 : Int32) (x2 : Int32) : JC l V yX4_within cX4_within 3 (some .boolean) jj_i 0 [.int x0, .int x1, .int x2] X ((fX4_within x0 x1 x2 ).map (fun r => (r, X))) := by
  refine jj_of (by decide) (Nat.le_of_ble_eq_true rfl) (fun E hlE hE => ?_)
  unfold fX4_within
  refine J_sub (L' := [(0, .int x0), (1, .int x1), (2, .int x2)]) [0, 1, 2] rfl ?_
  refine J_iload_n hE dd_X4_within_0 0 rfl rfl ?_
  refine J_iload_n hE dd_X4_within_1 1 rfl rfl ?_
  refine J_icmp_lt hE (tgt := 14) dd_X4_within_2 (by decide) (fun c2 => ?_) (fun c2 => ?_)
  · refine J_iconst hE (v := (0 : Int32)) dd_X4_within_14 (by decide) ?_
    exact J_zret hE (Or.inl rfl) dd_X4_within_15 rfl rfl
  · refine J_iload_n hE dd_X4_within_5 0 rfl rfl ?_
    refine J_iload_n hE dd_X4_within_6 2 rfl rfl ?_
    refine J_icmp_gt hE (tgt := 14) dd_X4_within_7 (by decide) (fun c1 => ?_) (fun c1 => ?_)
    · refine J_iconst hE (v := (0 : Int32)) dd_X4_within_14 (by decide) ?_
      exact J_zret hE (Or.inl rfl) dd_X4_within_15 rfl rfl
    · refine J_iconst hE (v := (1 : Int32)) dd_X4_within_10 (by decide) ?_
      refine J_goto hE (tgt := 15) dd_X4_within_11 (by decide) ?_
      exact J_zret hE (Or.inr rfl) dd_X4_within_15 rfl rfl
theorem dd_X1_hasBolt_0 : jd cX1_hasBolt 0 (.iload_n 1) 1 1 := ⟨by decide +kernel, rfl⟩
theorem dd_X1_hasBolt_1 : jd cX1_hasBolt 1 (.iconst 0) 1 2 := ⟨by decide +kernel, rfl⟩
theorem dd_X1_hasBolt_2 : jd cX1_hasBolt 2 (.aload_n 0) 1 3 := ⟨by decide +kernel, rfl⟩
theorem fl_RX1_49 : (Cond.fieldLink "MothCustoms$Shed" 49 "MothCustoms$Shed" "bolts" "I" : Cond) ∈ jj_tb := jj_m (List.mem_of_getElem? (i := 136) (by decide +kernel)) rfl
theorem dd_X1_hasBolt_3 : jd cX1_hasBolt 3 (.getfield 49) 3 6 := ⟨by decide +kernel, rfl⟩
theorem dd_X1_hasBolt_6 : jd cX1_hasBolt 6 (.iconst 1) 1 7 := ⟨by decide +kernel, rfl⟩
theorem dd_X1_hasBolt_7 : jd cX1_hasBolt 7 (.isub) 1 8 := ⟨by decide +kernel, rfl⟩
theorem dd_X1_hasBolt_8 : jd cX1_hasBolt 8 (.invokestatic 80) 3 11 := ⟨by decide +kernel, rfl⟩
theorem dd_X1_hasBolt_11 : jd cX1_hasBolt 11 (.ireturn) 1 12 := ⟨by decide +kernel, rfl⟩
theorem m_X1_hasBolt : jmV yX1_hasBolt cX1_hasBolt 2 (some .boolean) 1 := ⟨⟨(jj_m (w := Cond.code yX1_hasBolt cX1_hasBolt 2 (some .boolean)) (List.mem_of_getElem? (i := 476) (by decide +kernel)) rfl), (jj_m (w := Cond.initialized yX1_hasBolt.cls) (List.mem_of_getElem? (i := 66) (by decide +kernel)) rfl), ⟨by decide, by decide⟩, by decide +kernel⟩, (jj_m (w := Cond.instanceMethod yX1_hasBolt) (List.mem_of_getElem? (i := 474) (by decide +kernel)) rfl), (jj_m (w := Cond.selects yX1_hasBolt.cls yX1_hasBolt yX1_hasBolt) (List.mem_of_getElem? (i := 475) (by decide +kernel)) rfl)⟩
def fX1_hasBolt (x1 : Int32) (S : M2) : Option (Int32) :=
  (fX4_within x1 (0 : Int32) ((S 0 0) - (1 : Int32))).bind fun r1 =>
  zb r1 (some r1)

set_option maxHeartbeats 4000000 in
set_option maxRecDepth 100000 in
theorem tX1_hasBolt (l : Launch) {V : JV M2} {b : Nat} {a : Nat → Nat} (hv : vX1 V b a) (S : M2) (x1 : Int32) : JC l V yX1_hasBolt cX1_hasBolt 2 (some .boolean) jj_i 1 [.ref b, .int x1] S ((fX1_hasBolt x1 S).map (fun r => (r, S))) := by
  refine jj_of (by decide) (Nat.le_of_ble_eq_true rfl) (fun E hlE hE => ?_)
  unfold fX1_hasBolt
  refine J_sub (L' := [(0, .ref b), (1, .int x1)]) [0, 1] rfl ?_
  refine J_iload_n hE dd_X1_hasBolt_0 1 rfl rfl ?_
  refine J_iconst hE (v := (0 : Int32)) dd_X1_hasBolt_1 (by decide) ?_
  refine J_aload_n hE dd_X1_hasBolt_2 0 rfl rfl ?_
  refine J_get hE (hv.ob _) jc_X1 0 (by decide) fl_RX1_49 (v := .int (S 0 0)) rfl dd_X1_hasBolt_3 ?_
  refine J_iconst hE (v := (1 : Int32)) dd_X1_hasBolt_6 (by decide) ?_
  refine J_isub hE dd_X1_hasBolt_7 ?_
  refine J_invNri hE (As := [.int x1, .int (0 : Int32), .int ((S 0 0) - (1 : Int32))]) (st := []) (tX4_within E.2.1 V S x1 (0 : Int32) ((S 0 0) - (1 : Int32))) m_X4_within s_X4_within rfl (by decide) (Nat.le_of_ble_eq_true rfl) (Nat.le_of_ble_eq_true rfl) rfl (Nat.le_of_ble_eq_true rfl) dd_X1_hasBolt_8 (fun r1 => ?_)
  refine J_zb (fun hz => ?_)
  exact J_zret hE hz dd_X1_hasBolt_11 rfl rfl
theorem dd_X1_dutyOf_0 : jd cX1_dutyOf 0 (.iconst 0) 1 1 := ⟨by decide +kernel, rfl⟩
theorem dd_X1_dutyOf_1 : jd cX1_dutyOf 1 (.istore_n 2) 1 2 := ⟨by decide +kernel, rfl⟩
theorem dd_X1_dutyOf_2 : jd cX1_dutyOf 2 (.iconst 0) 1 3 := ⟨by decide +kernel, rfl⟩
theorem dd_X1_dutyOf_3 : jd cX1_dutyOf 3 (.istore_n 3) 1 4 := ⟨by decide +kernel, rfl⟩
theorem dd_X1_dutyOf_4 : jd cX1_dutyOf 4 (.iconst 0) 1 5 := ⟨by decide +kernel, rfl⟩
theorem dd_X1_dutyOf_5 : jd cX1_dutyOf 5 (.istore 4) 2 7 := ⟨by decide +kernel, rfl⟩
theorem dd_X1_dutyOf_7 : jd cX1_dutyOf 7 (.iload 4) 2 9 := ⟨by decide +kernel, rfl⟩
theorem dd_X1_dutyOf_9 : jd cX1_dutyOf 9 (.aload_n 0) 1 10 := ⟨by decide +kernel, rfl⟩
theorem fl_RX1_24 : (Cond.fieldLink "MothCustoms$Shed" 24 "MothCustoms$Shed" "height" "[I" : Cond) ∈ jj_tb := jj_m (List.mem_of_getElem? (i := 152) (by decide +kernel)) rfl
theorem dd_X1_dutyOf_10 : jd cX1_dutyOf 10 (.getfield 24) 3 13 := ⟨by decide +kernel, rfl⟩
theorem dd_X1_dutyOf_13 : jd cX1_dutyOf 13 (.iload_n 1) 1 14 := ⟨by decide +kernel, rfl⟩
theorem dd_X1_dutyOf_14 : jd cX1_dutyOf 14 (.iaload) 1 15 := ⟨by decide +kernel, rfl⟩
theorem dd_X1_dutyOf_18 : jd cX1_dutyOf 18 (.aload_n 0) 1 19 := ⟨by decide +kernel, rfl⟩
theorem fl_RX1_18 : (Cond.fieldLink "MothCustoms$Shed" 18 "MothCustoms$Shed" "holes" "[I" : Cond) ∈ jj_tb := jj_m (List.mem_of_getElem? (i := 144) (by decide +kernel)) rfl
theorem dd_X1_dutyOf_19 : jd cX1_dutyOf 19 (.getfield 18) 3 22 := ⟨by decide +kernel, rfl⟩
theorem dd_X1_dutyOf_22 : jd cX1_dutyOf 22 (.aload_n 0) 1 23 := ⟨by decide +kernel, rfl⟩
theorem fl_RX1_21 : (Cond.fieldLink "MothCustoms$Shed" 21 "MothCustoms$Shed" "lying" "[I" : Cond) ∈ jj_tb := jj_m (List.mem_of_getElem? (i := 149) (by decide +kernel)) rfl
theorem dd_X1_dutyOf_23 : jd cX1_dutyOf 23 (.getfield 21) 3 26 := ⟨by decide +kernel, rfl⟩
theorem dd_X1_dutyOf_26 : jd cX1_dutyOf 26 (.iload_n 1) 1 27 := ⟨by decide +kernel, rfl⟩
theorem dd_X1_dutyOf_27 : jd cX1_dutyOf 27 (.iconst 5) 1 28 := ⟨by decide +kernel, rfl⟩
theorem dd_X1_dutyOf_28 : jd cX1_dutyOf 28 (.imul) 1 29 := ⟨by decide +kernel, rfl⟩
theorem dd_X1_dutyOf_29 : jd cX1_dutyOf 29 (.iload 4) 2 31 := ⟨by decide +kernel, rfl⟩
theorem dd_X1_dutyOf_31 : jd cX1_dutyOf 31 (.iadd) 1 32 := ⟨by decide +kernel, rfl⟩
theorem dd_X1_dutyOf_32 : jd cX1_dutyOf 32 (.iaload) 1 33 := ⟨by decide +kernel, rfl⟩
theorem dd_X1_dutyOf_33 : jd cX1_dutyOf 33 (.iaload) 1 34 := ⟨by decide +kernel, rfl⟩
theorem dd_X1_dutyOf_34 : jd cX1_dutyOf 34 (.istore 5) 2 36 := ⟨by decide +kernel, rfl⟩
theorem dd_X1_dutyOf_36 : jd cX1_dutyOf 36 (.iload_n 2) 1 37 := ⟨by decide +kernel, rfl⟩
theorem dd_X1_dutyOf_37 : jd cX1_dutyOf 37 (.iload 5) 2 39 := ⟨by decide +kernel, rfl⟩
theorem dd_X1_dutyOf_39 : jd cX1_dutyOf 39 (.iload 5) 2 41 := ⟨by decide +kernel, rfl⟩
theorem dd_X1_dutyOf_41 : jd cX1_dutyOf 41 (.iload_n 3) 1 42 := ⟨by decide +kernel, rfl⟩
theorem ml_RX1_119 : (Cond.methodLink "MothCustoms$Shed" 119 Lib.Math.min.name : Cond) ∈ jj_tb := jj_m (List.mem_of_getElem? (i := 528) (by decide +kernel)) rfl
theorem dd_X1_dutyOf_42 : jd cX1_dutyOf 42 (.invokestatic 119) 3 45 := ⟨by decide +kernel, rfl⟩
theorem dd_X1_dutyOf_45 : jd cX1_dutyOf 45 (.isub) 1 46 := ⟨by decide +kernel, rfl⟩
theorem dd_X1_dutyOf_46 : jd cX1_dutyOf 46 (.iadd) 1 47 := ⟨by decide +kernel, rfl⟩
theorem dd_X1_dutyOf_47 : jd cX1_dutyOf 47 (.istore_n 2) 1 48 := ⟨by decide +kernel, rfl⟩
theorem dd_X1_dutyOf_48 : jd cX1_dutyOf 48 (.iload 5) 2 50 := ⟨by decide +kernel, rfl⟩
theorem dd_X1_dutyOf_50 : jd cX1_dutyOf 50 (.istore_n 3) 1 51 := ⟨by decide +kernel, rfl⟩
theorem dd_X1_dutyOf_51 : jd cX1_dutyOf 51 (.iinc 4 1) 3 54 := ⟨by decide +kernel, rfl⟩
theorem dd_X1_dutyOf_54 : jd cX1_dutyOf 54 (.goto (-47)) 3 57 := ⟨by decide +kernel, rfl⟩
theorem dd_X1_dutyOf_15 : jd cX1_dutyOf 15 (.if_icmp .ge 42) 3 18 := ⟨by decide +kernel, rfl⟩
theorem dd_X1_dutyOf_57 : jd cX1_dutyOf 57 (.iload_n 2) 1 58 := ⟨by decide +kernel, rfl⟩
theorem dd_X1_dutyOf_58 : jd cX1_dutyOf 58 (.aload_n 0) 1 59 := ⟨by decide +kernel, rfl⟩
theorem fl_RX1_39 : (Cond.fieldLink "MothCustoms$Shed" 39 "MothCustoms$Shed" "rate" "I" : Cond) ∈ jj_tb := jj_m (List.mem_of_getElem? (i := 167) (by decide +kernel)) rfl
theorem dd_X1_dutyOf_59 : jd cX1_dutyOf 59 (.getfield 39) 3 62 := ⟨by decide +kernel, rfl⟩
theorem dd_X1_dutyOf_62 : jd cX1_dutyOf 62 (.imul) 1 63 := ⟨by decide +kernel, rfl⟩
theorem dd_X1_dutyOf_63 : jd cX1_dutyOf 63 (.ireturn) 1 64 := ⟨by decide +kernel, rfl⟩
theorem m_X1_dutyOf : jmV yX1_dutyOf cX1_dutyOf 6 (some .int) 1 := ⟨⟨(jj_m (w := Cond.code yX1_dutyOf cX1_dutyOf 6 (some .int)) (List.mem_of_getElem? (i := 527) (by decide +kernel)) rfl), (jj_m (w := Cond.initialized yX1_dutyOf.cls) (List.mem_of_getElem? (i := 66) (by decide +kernel)) rfl), ⟨by decide, by decide⟩, by decide +kernel⟩, (jj_m (w := Cond.instanceMethod yX1_dutyOf) (List.mem_of_getElem? (i := 525) (by decide +kernel)) rfl), (jj_m (w := Cond.selects yX1_dutyOf.cls yX1_dutyOf yX1_dutyOf) (List.mem_of_getElem? (i := 526) (by decide +kernel)) rfl)⟩
def fX1_dutyOf_L7 (S : M2) (x1 : Int32) (k57 : Int32 → Option (Int32)) : Nat → Int32 → Int32 → Int32 → Option (Int32)
  | 0, _, _, _ => none
  | n_ + 1, v1, v2, v3 =>
    bnd x1 3 <|
    if (S 6 x1.toNatClampNeg) ≤ v3 then
      k57 v1
    else
      bnd ((x1 * (5 : Int32)) + v3) 15 <|
      bnd (S 5 ((x1 * (5 : Int32)) + v3).toNatClampNeg) 5 <|
      lt ((S 3 (S 5 ((x1 * (5 : Int32)) + v3).toNatClampNeg).toNatClampNeg)) fun x4 =>
      lt ((v1 + (x4 - (if v2 < x4 then v2 else x4)))) fun x5 =>
      lt (v3 + (1 : Int32)) fun x6 =>
      fX1_dutyOf_L7 S x1 k57 n_ x5 x4 x6

def fX1_dutyOf (x1 : Int32) (S : M2) : Option (Int32) :=
  fX1_dutyOf_L7 S x1
    (fun p8 =>
      some (p8 * (S 13 0)))
    400 (0 : Int32) (0 : Int32) (0 : Int32)

set_option maxHeartbeats 4000000 in
set_option maxRecDepth 100000 in
theorem tX1_dutyOf_L7 {V : JV M2} {b : Nat} {a : Nat → Nat} (hv : vX1 V b a) {E : JE (M2) Int32} (hE : JOk V E cX1_dutyOf yX1_dutyOf.cls 6 1 (some .int) jj_i) (S : M2) (x1 : Int32) {k57 : Int32 → Option (Int32)} (hk57 : ∀ p, J V E (fun r => (r, S)) (k57 p) 57 [(0, .ref b), (2, .int p)] [] S) : ∀ (n_ : Nat) (v1 : Int32) (v2 : Int32) (v3 : Int32), J V E (fun r => (r, S)) (fX1_dutyOf_L7 S x1 k57 n_ v1 v2 v3) 7 [(0, .ref b), (1, .int x1), (2, .int v1), (3, .int v2), (4, .int v3)] [] S := by
  intro n_
  induction n_ with
  | zero =>
    intros
    exact J_none
  | succ n_ ih =>
    intros v1 v2 v3
    rw [fX1_dutyOf_L7]
    refine J_iload hE dd_X1_dutyOf_7 4 rfl ?_
    refine J_aload_n hE dd_X1_dutyOf_9 0 rfl rfl ?_
    refine J_get hE (hv.ob _) jc_X1 6 (by decide) fl_RX1_24 (v := .ref (a 6)) rfl dd_X1_dutyOf_10 ?_
    refine J_iload_n hE dd_X1_dutyOf_13 1 rfl rfl ?_
    refine J_ald hE (hv.arr 6 (n := 3) (ty := .int) (by decide) _) dd_X1_dutyOf_14 ?_
    refine J_icmp_ge hE (tgt := 57) dd_X1_dutyOf_15 (by decide) (fun c7 => ?_) (fun c7 => ?_)
    · refine J_sub [0, 2] rfl ?_
      exact hk57 v1
    · refine J_aload_n hE dd_X1_dutyOf_18 0 rfl rfl ?_
      refine J_get hE (hv.ob _) jc_X1 3 (by decide) fl_RX1_18 (v := .ref (a 3)) rfl dd_X1_dutyOf_19 ?_
      refine J_aload_n hE dd_X1_dutyOf_22 0 rfl rfl ?_
      refine J_get hE (hv.ob _) jc_X1 5 (by decide) fl_RX1_21 (v := .ref (a 5)) rfl dd_X1_dutyOf_23 ?_
      refine J_iload_n hE dd_X1_dutyOf_26 1 rfl rfl ?_
      refine J_iconst hE (v := (5 : Int32)) dd_X1_dutyOf_27 (by decide) ?_
      refine J_imul hE dd_X1_dutyOf_28 ?_
      refine J_iload hE dd_X1_dutyOf_29 4 rfl ?_
      refine J_iadd hE dd_X1_dutyOf_31 ?_
      refine J_ald hE (hv.arr 5 (n := 15) (ty := .int) (by decide) _) dd_X1_dutyOf_32 ?_
      refine J_ald hE (hv.arr 3 (n := 5) (ty := .int) (by decide) _) dd_X1_dutyOf_33 ?_
      refine J_leti (fun x4 => ?_)
      refine J_istore hE (L' := [(5, .int x4), (0, .ref b), (1, .int x1), (2, .int v1), (3, .int v2), (4, .int v3)]) dd_X1_dutyOf_34 (Nat.le_of_ble_eq_true rfl) rfl ?_
      refine J_iload_n hE dd_X1_dutyOf_36 3 rfl rfl ?_
      refine J_iload hE dd_X1_dutyOf_37 0 rfl ?_
      refine J_iload hE dd_X1_dutyOf_39 0 rfl ?_
      refine J_iload_n hE dd_X1_dutyOf_41 4 rfl rfl ?_
      refine J_min hE ml_RX1_119 (Nat.le_of_ble_eq_true rfl) (Nat.le_of_ble_eq_true rfl) dd_X1_dutyOf_42 ?_
      refine J_isub hE dd_X1_dutyOf_45 ?_
      refine J_iadd hE dd_X1_dutyOf_46 ?_
      refine J_leti (fun x5 => ?_)
      refine J_istore_n hE (L' := [(2, .int x5), (5, .int x4), (0, .ref b), (1, .int x1), (3, .int v2), (4, .int v3)]) dd_X1_dutyOf_47 (Nat.le_of_ble_eq_true rfl) rfl rfl ?_
      refine J_iload hE dd_X1_dutyOf_48 1 rfl ?_
      refine J_istore_n hE (L' := [(3, .int x4), (2, .int x5), (5, .int x4), (0, .ref b), (1, .int x1), (4, .int v3)]) dd_X1_dutyOf_50 (Nat.le_of_ble_eq_true rfl) rfl rfl ?_
      refine J_iincL hE (v := (v3 + (1 : Int32))) (Lf := fun x6 => [(4, .int x6), (3, .int x4), (2, .int x5), (5, .int x4), (0, .ref b), (1, .int x1)]) dd_X1_dutyOf_51 (j := 5) rfl (congrArg (v3 + ·) (by decide)) (Nat.le_of_ble_eq_true rfl) (fun _ => rfl) (fun x6 => ?_)
      refine J_goto hE (tgt := 7) dd_X1_dutyOf_54 (by decide) ?_
      refine J_sub [4, 5, 2, 1, 0] rfl ?_
      exact ih x5 x4 x6
set_option maxHeartbeats 4000000 in
set_option maxRecDepth 100000 in
theorem tX1_dutyOf (l : Launch) {V : JV M2} {b : Nat} {a : Nat → Nat} (hv : vX1 V b a) (S : M2) (x1 : Int32) : JC l V yX1_dutyOf cX1_dutyOf 6 (some .int) jj_i 1 [.ref b, .int x1] S ((fX1_dutyOf x1 S).map (fun r => (r, S))) := by
  refine jj_of (by decide) (Nat.le_of_ble_eq_true rfl) (fun E hlE hE => ?_)
  unfold fX1_dutyOf
  refine J_sub (L' := [(0, .ref b), (1, .int x1)]) [0, 1] rfl ?_
  refine J_iconst hE (v := (0 : Int32)) dd_X1_dutyOf_0 (by decide) ?_
  refine J_istore_n hE (L' := [(2, .int (0 : Int32)), (0, .ref b), (1, .int x1)]) dd_X1_dutyOf_1 (Nat.le_of_ble_eq_true rfl) rfl rfl ?_
  refine J_iconst hE (v := (0 : Int32)) dd_X1_dutyOf_2 (by decide) ?_
  refine J_istore_n hE (L' := [(3, .int (0 : Int32)), (2, .int (0 : Int32)), (0, .ref b), (1, .int x1)]) dd_X1_dutyOf_3 (Nat.le_of_ble_eq_true rfl) rfl rfl ?_
  refine J_iconst hE (v := (0 : Int32)) dd_X1_dutyOf_4 (by decide) ?_
  refine J_istore hE (L' := [(4, .int (0 : Int32)), (3, .int (0 : Int32)), (2, .int (0 : Int32)), (0, .ref b), (1, .int x1)]) dd_X1_dutyOf_5 (Nat.le_of_ble_eq_true rfl) rfl ?_
  refine J_sub [3, 4, 2, 1, 0] rfl ?_
  refine tX1_dutyOf_L7 hv hE S x1 (fun p8 => ?_) 400 (0 : Int32) (0 : Int32) (0 : Int32)
  show J V E _ _ 57 [(0, .ref b), (2, .int p8)] [] S
  refine J_iload_n hE dd_X1_dutyOf_57 1 rfl rfl ?_
  refine J_aload_n hE dd_X1_dutyOf_58 0 rfl rfl ?_
  refine J_get hE (hv.ob _) jc_X1 13 (by decide) fl_RX1_39 (v := .int (S 13 0)) rfl dd_X1_dutyOf_59 ?_
  refine J_imul hE dd_X1_dutyOf_62 ?_
  exact J_iret hE dd_X1_dutyOf_63 rfl rfl
theorem dd_X1_spotOf_0 : jd cX1_spotOf 0 (.iconst 0) 1 1 := ⟨by decide +kernel, rfl⟩
theorem dd_X1_spotOf_1 : jd cX1_spotOf 1 (.istore_n 2) 1 2 := ⟨by decide +kernel, rfl⟩
theorem dd_X1_spotOf_2 : jd cX1_spotOf 2 (.iload_n 2) 1 3 := ⟨by decide +kernel, rfl⟩
theorem dd_X1_spotOf_3 : jd cX1_spotOf 3 (.iconst 3) 1 4 := ⟨by decide +kernel, rfl⟩
theorem dd_X1_spotOf_7 : jd cX1_spotOf 7 (.iconst 0) 1 8 := ⟨by decide +kernel, rfl⟩
theorem dd_X1_spotOf_8 : jd cX1_spotOf 8 (.istore_n 3) 1 9 := ⟨by decide +kernel, rfl⟩
theorem dd_X1_spotOf_9 : jd cX1_spotOf 9 (.iload_n 3) 1 10 := ⟨by decide +kernel, rfl⟩
theorem dd_X1_spotOf_10 : jd cX1_spotOf 10 (.aload_n 0) 1 11 := ⟨by decide +kernel, rfl⟩
theorem dd_X1_spotOf_11 : jd cX1_spotOf 11 (.getfield 24) 3 14 := ⟨by decide +kernel, rfl⟩
theorem dd_X1_spotOf_14 : jd cX1_spotOf 14 (.iload_n 2) 1 15 := ⟨by decide +kernel, rfl⟩
theorem dd_X1_spotOf_15 : jd cX1_spotOf 15 (.iaload) 1 16 := ⟨by decide +kernel, rfl⟩
theorem dd_X1_spotOf_19 : jd cX1_spotOf 19 (.aload_n 0) 1 20 := ⟨by decide +kernel, rfl⟩
theorem dd_X1_spotOf_20 : jd cX1_spotOf 20 (.getfield 21) 3 23 := ⟨by decide +kernel, rfl⟩
theorem dd_X1_spotOf_23 : jd cX1_spotOf 23 (.iload_n 2) 1 24 := ⟨by decide +kernel, rfl⟩
theorem dd_X1_spotOf_24 : jd cX1_spotOf 24 (.iconst 5) 1 25 := ⟨by decide +kernel, rfl⟩
theorem dd_X1_spotOf_25 : jd cX1_spotOf 25 (.imul) 1 26 := ⟨by decide +kernel, rfl⟩
theorem dd_X1_spotOf_26 : jd cX1_spotOf 26 (.iload_n 3) 1 27 := ⟨by decide +kernel, rfl⟩
theorem dd_X1_spotOf_27 : jd cX1_spotOf 27 (.iadd) 1 28 := ⟨by decide +kernel, rfl⟩
theorem dd_X1_spotOf_28 : jd cX1_spotOf 28 (.iaload) 1 29 := ⟨by decide +kernel, rfl⟩
theorem dd_X1_spotOf_29 : jd cX1_spotOf 29 (.iload_n 1) 1 30 := ⟨by decide +kernel, rfl⟩
theorem dd_X1_spotOf_39 : jd cX1_spotOf 39 (.iinc 3 1) 3 42 := ⟨by decide +kernel, rfl⟩
theorem dd_X1_spotOf_42 : jd cX1_spotOf 42 (.goto (-33)) 3 45 := ⟨by decide +kernel, rfl⟩
theorem dd_X1_spotOf_33 : jd cX1_spotOf 33 (.iload_n 2) 1 34 := ⟨by decide +kernel, rfl⟩
theorem dd_X1_spotOf_34 : jd cX1_spotOf 34 (.iconst 5) 1 35 := ⟨by decide +kernel, rfl⟩
theorem dd_X1_spotOf_35 : jd cX1_spotOf 35 (.imul) 1 36 := ⟨by decide +kernel, rfl⟩
theorem dd_X1_spotOf_36 : jd cX1_spotOf 36 (.iload_n 3) 1 37 := ⟨by decide +kernel, rfl⟩
theorem dd_X1_spotOf_37 : jd cX1_spotOf 37 (.iadd) 1 38 := ⟨by decide +kernel, rfl⟩
theorem dd_X1_spotOf_38 : jd cX1_spotOf 38 (.ireturn) 1 39 := ⟨by decide +kernel, rfl⟩
theorem dd_X1_spotOf_30 : jd cX1_spotOf 30 (.if_icmp .ne 9) 3 33 := ⟨by decide +kernel, rfl⟩
theorem dd_X1_spotOf_16 : jd cX1_spotOf 16 (.if_icmp .ge 29) 3 19 := ⟨by decide +kernel, rfl⟩
theorem dd_X1_spotOf_45 : jd cX1_spotOf 45 (.iinc 2 1) 3 48 := ⟨by decide +kernel, rfl⟩
theorem dd_X1_spotOf_48 : jd cX1_spotOf 48 (.goto (-46)) 3 51 := ⟨by decide +kernel, rfl⟩
theorem dd_X1_spotOf_4 : jd cX1_spotOf 4 (.if_icmp .ge 47) 3 7 := ⟨by decide +kernel, rfl⟩
theorem dd_X1_spotOf_51 : jd cX1_spotOf 51 (.iconst 0) 1 52 := ⟨by decide +kernel, rfl⟩
theorem dd_X1_spotOf_52 : jd cX1_spotOf 52 (.ireturn) 1 53 := ⟨by decide +kernel, rfl⟩
theorem m_X1_spotOf : jmV yX1_spotOf cX1_spotOf 4 (some .int) 1 := ⟨⟨(jj_m (w := Cond.code yX1_spotOf cX1_spotOf 4 (some .int)) (List.mem_of_getElem? (i := 485) (by decide +kernel)) rfl), (jj_m (w := Cond.initialized yX1_spotOf.cls) (List.mem_of_getElem? (i := 66) (by decide +kernel)) rfl), ⟨by decide, by decide⟩, by decide +kernel⟩, (jj_m (w := Cond.instanceMethod yX1_spotOf) (List.mem_of_getElem? (i := 483) (by decide +kernel)) rfl), (jj_m (w := Cond.selects yX1_spotOf.cls yX1_spotOf yX1_spotOf) (List.mem_of_getElem? (i := 484) (by decide +kernel)) rfl)⟩
def fX1_spotOf_L9 (S : M2) (x1 : Int32) (v1 : Int32) (k45 : Unit → Option (Int32)) : Nat → Int32 → Option (Int32)
  | 0, _ => none
  | n_ + 1, v2 =>
    bnd v1 3 <|
    if (S 6 v1.toNatClampNeg) ≤ v2 then
      k45 ()
    else
      bnd ((v1 * (5 : Int32)) + v2) 15 <|
      if (S 5 ((v1 * (5 : Int32)) + v2).toNatClampNeg) = x1 then
        some ((v1 * (5 : Int32)) + v2)
      else
        lt (v2 + (1 : Int32)) fun x3 =>
        fX1_spotOf_L9 S x1 v1 k45 n_ x3

def fX1_spotOf_L2 (S : M2) (x1 : Int32) (k51 : Unit → Option (Int32)) : Nat → Int32 → Option (Int32)
  | 0, _ => none
  | n_ + 1, v1 =>
    if (3 : Int32) ≤ v1 then
      k51 ()
    else
      fX1_spotOf_L9 S x1 v1
        (fun _ =>
          lt (v1 + (1 : Int32)) fun x7 =>
          fX1_spotOf_L2 S x1 k51 n_ x7)
        400 (0 : Int32)

def fX1_spotOf (x1 : Int32) (S : M2) : Option (Int32) :=
  fX1_spotOf_L2 S x1
    (fun _ =>
      some (0 : Int32))
    400 (0 : Int32)

set_option maxHeartbeats 4000000 in
set_option maxRecDepth 100000 in
theorem tX1_spotOf_L9 {V : JV M2} {b : Nat} {a : Nat → Nat} (hv : vX1 V b a) {E : JE (M2) Int32} (hE : JOk V E cX1_spotOf yX1_spotOf.cls 4 0 (some .int) jj_i) (S : M2) (x1 : Int32) (v1 : Int32) {k45 : Unit → Option (Int32)} (hk45 : ∀ p, J V E (fun r => (r, S)) (k45 p) 45 [(0, .ref b), (1, .int x1), (2, .int v1)] [] S) : ∀ (n_ : Nat) (v2 : Int32), J V E (fun r => (r, S)) (fX1_spotOf_L9 S x1 v1 k45 n_ v2) 9 [(0, .ref b), (1, .int x1), (2, .int v1), (3, .int v2)] [] S := by
  intro n_
  induction n_ with
  | zero =>
    intros
    exact J_none
  | succ n_ ih =>
    intros v2
    rw [fX1_spotOf_L9]
    refine J_iload_n hE dd_X1_spotOf_9 3 rfl rfl ?_
    refine J_aload_n hE dd_X1_spotOf_10 0 rfl rfl ?_
    refine J_get hE (hv.ob _) jc_X1 6 (by decide) fl_RX1_24 (v := .ref (a 6)) rfl dd_X1_spotOf_11 ?_
    refine J_iload_n hE dd_X1_spotOf_14 2 rfl rfl ?_
    refine J_ald hE (hv.arr 6 (n := 3) (ty := .int) (by decide) _) dd_X1_spotOf_15 ?_
    refine J_icmp_ge hE (tgt := 45) dd_X1_spotOf_16 (by decide) (fun c5 => ?_) (fun c5 => ?_)
    · refine J_sub [0, 1, 2] rfl ?_
      exact hk45 ()
    · refine J_aload_n hE dd_X1_spotOf_19 0 rfl rfl ?_
      refine J_get hE (hv.ob _) jc_X1 5 (by decide) fl_RX1_21 (v := .ref (a 5)) rfl dd_X1_spotOf_20 ?_
      refine J_iload_n hE dd_X1_spotOf_23 2 rfl rfl ?_
      refine J_iconst hE (v := (5 : Int32)) dd_X1_spotOf_24 (by decide) ?_
      refine J_imul hE dd_X1_spotOf_25 ?_
      refine J_iload_n hE dd_X1_spotOf_26 3 rfl rfl ?_
      refine J_iadd hE dd_X1_spotOf_27 ?_
      refine J_ald hE (hv.arr 5 (n := 15) (ty := .int) (by decide) _) dd_X1_spotOf_28 ?_
      refine J_iload_n hE dd_X1_spotOf_29 1 rfl rfl ?_
      refine J_icmp_ne hE (tgt := 39) dd_X1_spotOf_30 (by decide) (fun c4 => ?_) (fun c4 => ?_)
      · refine J_iincL hE (v := (v2 + (1 : Int32))) (Lf := fun x3 => [(3, .int x3), (0, .ref b), (1, .int x1), (2, .int v1)]) dd_X1_spotOf_39 (j := 3) rfl (congrArg (v2 + ·) (by decide)) (Nat.le_of_ble_eq_true rfl) (fun _ => rfl) (fun x3 => ?_)
        refine J_goto hE (tgt := 9) dd_X1_spotOf_42 (by decide) ?_
        refine J_sub [1, 2, 3, 0] rfl ?_
        exact ih x3
      · refine J_iload_n hE dd_X1_spotOf_33 2 rfl rfl ?_
        refine J_iconst hE (v := (5 : Int32)) dd_X1_spotOf_34 (by decide) ?_
        refine J_imul hE dd_X1_spotOf_35 ?_
        refine J_iload_n hE dd_X1_spotOf_36 3 rfl rfl ?_
        refine J_iadd hE dd_X1_spotOf_37 ?_
        exact J_iret hE dd_X1_spotOf_38 rfl rfl
set_option maxHeartbeats 4000000 in
set_option maxRecDepth 100000 in
theorem tX1_spotOf_L2 {V : JV M2} {b : Nat} {a : Nat → Nat} (hv : vX1 V b a) {E : JE (M2) Int32} (hE : JOk V E cX1_spotOf yX1_spotOf.cls 4 0 (some .int) jj_i) (S : M2) (x1 : Int32) {k51 : Unit → Option (Int32)} (hk51 : ∀ p, J V E (fun r => (r, S)) (k51 p) 51 [] [] S) : ∀ (n_ : Nat) (v1 : Int32), J V E (fun r => (r, S)) (fX1_spotOf_L2 S x1 k51 n_ v1) 2 [(0, .ref b), (1, .int x1), (2, .int v1)] [] S := by
  intro n_
  induction n_ with
  | zero =>
    intros
    exact J_none
  | succ n_ ih =>
    intros v1
    rw [fX1_spotOf_L2]
    refine J_iload_n hE dd_X1_spotOf_2 2 rfl rfl ?_
    refine J_iconst hE (v := (3 : Int32)) dd_X1_spotOf_3 (by decide) ?_
    refine J_icmp_ge hE (tgt := 51) dd_X1_spotOf_4 (by decide) (fun c8 => ?_) (fun c8 => ?_)
    · refine J_sub [] rfl ?_
      exact hk51 ()
    · refine J_iconst hE (v := (0 : Int32)) dd_X1_spotOf_7 (by decide) ?_
      refine J_istore_n hE (L' := [(3, .int (0 : Int32)), (0, .ref b), (1, .int x1), (2, .int v1)]) dd_X1_spotOf_8 (Nat.le_of_ble_eq_true rfl) rfl rfl ?_
      refine J_sub [1, 2, 3, 0] rfl ?_
      refine tX1_spotOf_L9 hv hE S x1 v1 (fun _ => ?_) 400 (0 : Int32)
      show J V E _ _ 45 [(2, .int x7), (0, .ref b), (1, .int x1)] [] S
      refine J_iincL hE (v := (v1 + (1 : Int32))) (Lf := fun x7 => [(2, .int x7), (0, .ref b), (1, .int x1)]) dd_X1_spotOf_45 (j := 2) rfl (congrArg (v1 + ·) (by decide)) (Nat.le_of_ble_eq_true rfl) (fun _ => rfl) (fun x7 => ?_)
      refine J_goto hE (tgt := 2) dd_X1_spotOf_48 (by decide) ?_
      refine J_sub [1, 2, 0] rfl ?_
      exact ih x7
set_option maxHeartbeats 4000000 in
set_option maxRecDepth 100000 in
theorem tX1_spotOf (l : Launch) {V : JV M2} {b : Nat} {a : Nat → Nat} (hv : vX1 V b a) (S : M2) (x1 : Int32) : JC l V yX1_spotOf cX1_spotOf 4 (some .int) jj_i 0 [.ref b, .int x1] S ((fX1_spotOf x1 S).map (fun r => (r, S))) := by
  refine jj_of (by decide) (Nat.le_of_ble_eq_true rfl) (fun E hlE hE => ?_)
  unfold fX1_spotOf
  refine J_sub (L' := [(0, .ref b), (1, .int x1)]) [0, 1] rfl ?_
  refine J_iconst hE (v := (0 : Int32)) dd_X1_spotOf_0 (by decide) ?_
  refine J_istore_n hE (L' := [(2, .int (0 : Int32)), (0, .ref b), (1, .int x1)]) dd_X1_spotOf_1 (Nat.le_of_ble_eq_true rfl) rfl rfl ?_
  refine J_sub [1, 2, 0] rfl ?_
  refine tX1_spotOf_L2 hv hE S x1 (fun _ => ?_) 400 (0 : Int32)
  show J V E _ _ 51 [] [] S
  refine J_iconst hE (v := (0 : Int32)) dd_X1_spotOf_51 (by decide) ?_
  exact J_iret hE dd_X1_spotOf_52 rfl rfl
