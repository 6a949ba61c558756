theorem dd_X5_of_0 : jd cX5_of 0 (.aload_n 0) 1 1 := ⟨by decide +kernel, rfl⟩
theorem dd_X5_of_1 : jd cX5_of 1 (.getfield 13) 3 4 := ⟨by decide +kernel, rfl⟩
theorem dd_X5_of_4 : jd cX5_of 4 (.bipush 6) 2 6 := ⟨by decide +kernel, rfl⟩
theorem dd_X5_of_6 : jd cX5_of 6 (.iload_n 1) 1 7 := ⟨by decide +kernel, rfl⟩
theorem dd_X5_of_7 : jd cX5_of 7 (.imul) 1 8 := ⟨by decide +kernel, rfl⟩
theorem dd_X5_of_8 : jd cX5_of 8 (.iload_n 2) 1 9 := ⟨by decide +kernel, rfl⟩
theorem dd_X5_of_9 : jd cX5_of 9 (.iadd) 1 10 := ⟨by decide +kernel, rfl⟩
theorem dd_X5_of_10 : jd cX5_of 10 (.iaload) 1 11 := ⟨by decide +kernel, rfl⟩
theorem dd_X5_of_11 : jd cX5_of 11 (.ireturn) 1 12 := ⟨by decide +kernel, rfl⟩
theorem m_X5_of : jmV yX5_of cX5_of 3 (some .int) 2 := ⟨⟨(jj_m (w := Cond.code yX5_of cX5_of 3 (some .int)) (List.mem_of_getElem? (i := 972) (by decide +kernel)) rfl), (jj_m (w := Cond.initialized yX5_of.cls) (List.mem_of_getElem? (i := 69) (by decide +kernel)) rfl), ⟨by decide, by decide⟩, by decide +kernel⟩, (jj_m (w := Cond.instanceMethod yX5_of) (List.mem_of_getElem? (i := 971) (by decide +kernel)) rfl), (jj_m (w := Cond.selects yX5_of.cls yX5_of yX5_of) (List.mem_of_getElem? (i := 30) (by decide +kernel)) rfl)⟩
def fX5_of (i1 : Int32) (i2 : Int32) (S : M2) : Option (Int32) :=
  bnd (((6 : Int32) * i1) + i2) 62 <|
  some (S 1 (((6 : Int32) * i1) + i2).toNatClampNeg)

set_option maxHeartbeats 4000000 in
set_option maxRecDepth 100000 in
theorem tX5_of (l : Launch) {V : JV M2} {b : Nat} {a : Nat → Nat} (hv : vX5 V b a) (S : M2) (i1 : Int32) (i2 : Int32) : JC l V yX5_of cX5_of 3 (some .int) jj_i 0 [.ref b, .int i1, .int i2] S ((fX5_of i1 i2 S).map (fun r => (r, S))) := by
  refine jj_of (by decide) (Nat.le_of_ble_eq_true rfl) (fun E hlE hE => ?_)
  unfold fX5_of
  refine J_sub (L' := [(0, .ref b), (1, .int i1), (2, .int i2)]) [0, 1, 2] rfl ?_
  refine J_aload_n hE dd_X5_of_0 0 rfl rfl ?_
  refine J_get hE (hv.ob _) jc_X5 1 (by decide) fl_RX5_13 (v := .ref (a 1)) rfl dd_X5_of_1 ?_
  refine J_bipush hE (v := (6 : Int32)) dd_X5_of_4 (by decide) ?_
  refine J_iload_n hE dd_X5_of_6 1 rfl rfl ?_
  refine J_imul hE dd_X5_of_7 ?_
  refine J_iload_n hE dd_X5_of_8 2 rfl rfl ?_
  refine J_iadd hE dd_X5_of_9 ?_
  refine J_ald hE (hv.arr 1 (n := 62) (ty := .int) (by decide) _) dd_X5_of_10 ?_
  exact J_iret hE dd_X5_of_11 rfl rfl
theorem dd_X5_becomesOf_0 : jd cX5_becomesOf 0 (.aload_n 0) 1 1 := ⟨by decide +kernel, rfl⟩
theorem dd_X5_becomesOf_1 : jd cX5_becomesOf 1 (.getfield 13) 3 4 := ⟨by decide +kernel, rfl⟩
theorem dd_X5_becomesOf_4 : jd cX5_becomesOf 4 (.bipush 6) 2 6 := ⟨by decide +kernel, rfl⟩
theorem dd_X5_becomesOf_6 : jd cX5_becomesOf 6 (.iload_n 1) 1 7 := ⟨by decide +kernel, rfl⟩
theorem dd_X5_becomesOf_7 : jd cX5_becomesOf 7 (.imul) 1 8 := ⟨by decide +kernel, rfl⟩
theorem dd_X5_becomesOf_8 : jd cX5_becomesOf 8 (.iload_n 2) 1 9 := ⟨by decide +kernel, rfl⟩
theorem dd_X5_becomesOf_9 : jd cX5_becomesOf 9 (.iadd) 1 10 := ⟨by decide +kernel, rfl⟩
theorem dd_X5_becomesOf_10 : jd cX5_becomesOf 10 (.iload_n 3) 1 11 := ⟨by decide +kernel, rfl⟩
theorem dd_X5_becomesOf_11 : jd cX5_becomesOf 11 (.iastore) 1 12 := ⟨by decide +kernel, rfl⟩
theorem dd_X5_becomesOf_12 : jd cX5_becomesOf 12 (.return_) 1 13 := ⟨by decide +kernel, rfl⟩
theorem m_X5_becomesOf : jmV yX5_becomesOf cX5_becomesOf 4 none 3 := ⟨⟨(jj_m (w := Cond.code yX5_becomesOf cX5_becomesOf 4 none) (List.mem_of_getElem? (i := 1047) (by decide +kernel)) rfl), (jj_m (w := Cond.initialized yX5_becomesOf.cls) (List.mem_of_getElem? (i := 69) (by decide +kernel)) rfl), ⟨by decide, by decide⟩, by decide +kernel⟩, (jj_m (w := Cond.instanceMethod yX5_becomesOf) (List.mem_of_getElem? (i := 1046) (by decide +kernel)) rfl), (jj_m (w := Cond.selects yX5_becomesOf.cls yX5_becomesOf yX5_becomesOf) (List.mem_of_getElem? (i := 43) (by decide +kernel)) rfl)⟩
def fX5_becomesOf (i1 : Int32) (i2 : Int32) (i3 : Int32) (S : M2) : Option (M2) :=
  bnd (((6 : Int32) * i1) + i2) 62 <|
  lt (va_up S 1 (upd (S 1) (((6 : Int32) * i1) + i2).toNatClampNeg i3)) fun S1 =>
  some S1

set_option maxHeartbeats 4000000 in
set_option maxRecDepth 100000 in
theorem tX5_becomesOf (l : Launch) {V : JV M2} {b : Nat} {a : Nat → Nat} (hv : vX5 V b a) (S : M2) (i1 : Int32) (i2 : Int32) (i3 : Int32) : JC l V yX5_becomesOf cX5_becomesOf 4 none jj_v 0 [.ref b, .int i1, .int i2, .int i3] S ((fX5_becomesOf i1 i2 i3 S).map (fun q => ((), q))) := by
  refine jj_of (by decide) (Nat.le_of_ble_eq_true rfl) (fun E hlE hE => ?_)
  unfold fX5_becomesOf
  refine J_sub (L' := [(0, .ref b), (1, .int i1), (2, .int i2), (3, .int i3)]) [0, 1, 2, 3] rfl ?_
  refine J_aload_n hE dd_X5_becomesOf_0 0 rfl rfl ?_
  refine J_get hE (hv.ob _) jc_X5 1 (by decide) fl_RX5_13 (v := .ref (a 1)) rfl dd_X5_becomesOf_1 ?_
  refine J_bipush hE (v := (6 : Int32)) dd_X5_becomesOf_4 (by decide) ?_
  refine J_iload_n hE dd_X5_becomesOf_6 1 rfl rfl ?_
  refine J_imul hE dd_X5_becomesOf_7 ?_
  refine J_iload_n hE dd_X5_becomesOf_8 2 rfl rfl ?_
  refine J_iadd hE dd_X5_becomesOf_9 ?_
  refine J_iload_n hE dd_X5_becomesOf_10 3 rfl rfl ?_
  refine J_ast hE hv 1 (N := 62) (by decide) dd_X5_becomesOf_11 ?_
  refine J_letS (fun S1 => ?_)
  exact J_vret hE dd_X5_becomesOf_12 rfl rfl
theorem dd_X5_mothOf_0 : jd cX5_mothOf 0 (.aload_n 0) 1 1 := ⟨by decide +kernel, rfl⟩
theorem dd_X5_mothOf_1 : jd cX5_mothOf 1 (.getfield 13) 3 4 := ⟨by decide +kernel, rfl⟩
theorem dd_X5_mothOf_4 : jd cX5_mothOf 4 (.bipush 30) 2 6 := ⟨by decide +kernel, rfl⟩
theorem dd_X5_mothOf_6 : jd cX5_mothOf 6 (.iconst 4) 1 7 := ⟨by decide +kernel, rfl⟩
theorem dd_X5_mothOf_7 : jd cX5_mothOf 7 (.iload_n 1) 1 8 := ⟨by decide +kernel, rfl⟩
theorem dd_X5_mothOf_8 : jd cX5_mothOf 8 (.imul) 1 9 := ⟨by decide +kernel, rfl⟩
theorem dd_X5_mothOf_9 : jd cX5_mothOf 9 (.iadd) 1 10 := ⟨by decide +kernel, rfl⟩
theorem dd_X5_mothOf_10 : jd cX5_mothOf 10 (.iload_n 2) 1 11 := ⟨by decide +kernel, rfl⟩
theorem dd_X5_mothOf_11 : jd cX5_mothOf 11 (.iadd) 1 12 := ⟨by decide +kernel, rfl⟩
theorem dd_X5_mothOf_12 : jd cX5_mothOf 12 (.iaload) 1 13 := ⟨by decide +kernel, rfl⟩
theorem dd_X5_mothOf_13 : jd cX5_mothOf 13 (.ireturn) 1 14 := ⟨by decide +kernel, rfl⟩
theorem m_X5_mothOf : jmV yX5_mothOf cX5_mothOf 3 (some .int) 2 := ⟨⟨(jj_m (w := Cond.code yX5_mothOf cX5_mothOf 3 (some .int)) (List.mem_of_getElem? (i := 1005) (by decide +kernel)) rfl), (jj_m (w := Cond.initialized yX5_mothOf.cls) (List.mem_of_getElem? (i := 69) (by decide +kernel)) rfl), ⟨by decide, by decide⟩, by decide +kernel⟩, (jj_m (w := Cond.instanceMethod yX5_mothOf) (List.mem_of_getElem? (i := 1004) (by decide +kernel)) rfl), (jj_m (w := Cond.selects yX5_mothOf.cls yX5_mothOf yX5_mothOf) (List.mem_of_getElem? (i := 36) (by decide +kernel)) rfl)⟩
def fX5_mothOf (i1 : Int32) (i2 : Int32) (S : M2) : Option (Int32) :=
  bnd (((30 : Int32) + ((4 : Int32) * i1)) + i2) 62 <|
  some (S 1 (((30 : Int32) + ((4 : Int32) * i1)) + i2).toNatClampNeg)

set_option maxHeartbeats 4000000 in
set_option maxRecDepth 100000 in
theorem tX5_mothOf (l : Launch) {V : JV M2} {b : Nat} {a : Nat → Nat} (hv : vX5 V b a) (S : M2) (i1 : Int32) (i2 : Int32) : JC l V yX5_mothOf cX5_mothOf 3 (some .int) jj_i 0 [.ref b, .int i1, .int i2] S ((fX5_mothOf i1 i2 S).map (fun r => (r, S))) := by
  refine jj_of (by decide) (Nat.le_of_ble_eq_true rfl) (fun E hlE hE => ?_)
  unfold fX5_mothOf
  refine J_sub (L' := [(0, .ref b), (1, .int i1), (2, .int i2)]) [0, 1, 2] rfl ?_
  refine J_aload_n hE dd_X5_mothOf_0 0 rfl rfl ?_
  refine J_get hE (hv.ob _) jc_X5 1 (by decide) fl_RX5_13 (v := .ref (a 1)) rfl dd_X5_mothOf_1 ?_
  refine J_bipush hE (v := (30 : Int32)) dd_X5_mothOf_4 (by decide) ?_
  refine J_iconst hE (v := (4 : Int32)) dd_X5_mothOf_6 (by decide) ?_
  refine J_iload_n hE dd_X5_mothOf_7 1 rfl rfl ?_
  refine J_imul hE dd_X5_mothOf_8 ?_
  refine J_iadd hE dd_X5_mothOf_9 ?_
  refine J_iload_n hE dd_X5_mothOf_10 2 rfl rfl ?_
  refine J_iadd hE dd_X5_mothOf_11 ?_
  refine J_ald hE (hv.arr 1 (n := 62) (ty := .int) (by decide) _) dd_X5_mothOf_12 ?_
  exact J_iret hE dd_X5_mothOf_13 rfl rfl
theorem dd_X5_liesIn_0 : jd cX5_liesIn 0 (.iconst 0) 1 1 := ⟨by decide +kernel, rfl⟩
theorem dd_X5_liesIn_1 : jd cX5_liesIn 1 (.istore_n 2) 1 2 := ⟨by decide +kernel, rfl⟩
theorem dd_X5_liesIn_2 : jd cX5_liesIn 2 (.iconst 0) 1 3 := ⟨by decide +kernel, rfl⟩
theorem dd_X5_liesIn_3 : jd cX5_liesIn 3 (.istore_n 3) 1 4 := ⟨by decide +kernel, rfl⟩
theorem dd_X5_liesIn_4 : jd cX5_liesIn 4 (.iload_n 3) 1 5 := ⟨by decide +kernel, rfl⟩
theorem dd_X5_liesIn_5 : jd cX5_liesIn 5 (.aload_n 0) 1 6 := ⟨by decide +kernel, rfl⟩
theorem dd_X5_liesIn_6 : jd cX5_liesIn 6 (.getfield 63) 3 9 := ⟨by decide +kernel, rfl⟩
theorem dd_X5_liesIn_12 : jd cX5_liesIn 12 (.iload_n 2) 1 13 := ⟨by decide +kernel, rfl⟩
theorem dd_X5_liesIn_13 : jd cX5_liesIn 13 (.aload_n 0) 1 14 := ⟨by decide +kernel, rfl⟩
theorem dd_X5_liesIn_14 : jd cX5_liesIn 14 (.iload_n 3) 1 15 := ⟨by decide +kernel, rfl⟩
theorem dd_X5_liesIn_15 : jd cX5_liesIn 15 (.iconst 4) 1 16 := ⟨by decide +kernel, rfl⟩
theorem ml_RX5_155 : (Cond.methodLink "MothCustomsModel" 155 yX5_of : Cond) ∈ jj_tb := jj_m (List.mem_of_getElem? (i := 969) (by decide +kernel)) rfl
theorem dd_X5_liesIn_16 : jd cX5_liesIn 16 (.invokevirtual 155) 3 19 := ⟨by decide +kernel, rfl⟩
theorem dd_X5_liesIn_19 : jd cX5_liesIn 19 (.iload_n 1) 1 20 := ⟨by decide +kernel, rfl⟩
theorem dd_X5_liesIn_27 : jd cX5_liesIn 27 (.iconst 0) 1 28 := ⟨by decide +kernel, rfl⟩
theorem dd_X5_liesIn_23 : jd cX5_liesIn 23 (.iconst 1) 1 24 := ⟨by decide +kernel, rfl⟩
theorem dd_X5_liesIn_24 : jd cX5_liesIn 24 (.goto 4) 3 27 := ⟨by decide +kernel, rfl⟩
theorem dd_X5_liesIn_20 : jd cX5_liesIn 20 (.if_icmp .ne 7) 3 23 := ⟨by decide +kernel, rfl⟩
theorem dd_X5_liesIn_28 : jd cX5_liesIn 28 (.invokestatic 129) 3 31 := ⟨by decide +kernel, rfl⟩
theorem dd_X5_liesIn_31 : jd cX5_liesIn 31 (.iadd) 1 32 := ⟨by decide +kernel, rfl⟩
theorem dd_X5_liesIn_32 : jd cX5_liesIn 32 (.istore_n 2) 1 33 := ⟨by decide +kernel, rfl⟩
theorem dd_X5_liesIn_33 : jd cX5_liesIn 33 (.iinc 3 1) 3 36 := ⟨by decide +kernel, rfl⟩
theorem dd_X5_liesIn_36 : jd cX5_liesIn 36 (.goto (-32)) 3 39 := ⟨by decide +kernel, rfl⟩
theorem dd_X5_liesIn_9 : jd cX5_liesIn 9 (.if_icmp .ge 30) 3 12 := ⟨by decide +kernel, rfl⟩
theorem dd_X5_liesIn_39 : jd cX5_liesIn 39 (.iload_n 2) 1 40 := ⟨by decide +kernel, rfl⟩
theorem dd_X5_liesIn_40 : jd cX5_liesIn 40 (.ireturn) 1 41 := ⟨by decide +kernel, rfl⟩
theorem m_X5_liesIn : jmV yX5_liesIn cX5_liesIn 4 (some .int) 1 := ⟨⟨(jj_m (w := Cond.code yX5_liesIn cX5_liesIn 4 (some .int)) (List.mem_of_getElem? (i := 1022) (by decide +kernel)) rfl), (jj_m (w := Cond.initialized yX5_liesIn.cls) (List.mem_of_getElem? (i := 69) (by decide +kernel)) rfl), ⟨by decide, by decide⟩, by decide +kernel⟩, (jj_m (w := Cond.instanceMethod yX5_liesIn) (List.mem_of_getElem? (i := 1021) (by decide +kernel)) rfl), (jj_m (w := Cond.selects yX5_liesIn.cls yX5_liesIn yX5_liesIn) (List.mem_of_getElem? (i := 38) (by decide +kernel)) rfl)⟩
def fX5_liesIn_L4 (S : M2) (i1 : Int32) (k39 : Int32 → Option (Int32)) : Nat → Int32 → Int32 → Option (Int32)
  | 0, _, _ => none
  | n_ + 1, v1, v2 =>
    if (S 3 0) ≤ v2 then
      k39 v1
    else
      (fX5_of v2 (4 : Int32) S).bind fun r3 =>
      jn (α := Option (Int32)) (β := Int32) (fun j4 =>
        if r3 = i1 then
          j4 (1 : Int32)
        else
          j4 (0 : Int32)) (fun p6 => 
        (fX5_flag p6).bind fun r7 =>
        lt ((v1 + r7)) fun x8 =>
        lt (v2 + (1 : Int32)) fun x9 =>
        fX5_liesIn_L4 S i1 k39 n_ x8 x9)

def fX5_liesIn (i1 : Int32) (S : M2) : Option (Int32) :=
  fX5_liesIn_L4 S i1
    (fun p11 =>
      some p11)
    400 (0 : Int32) (0 : Int32)

set_option maxHeartbeats 4000000 in
set_option maxRecDepth 100000 in
theorem tX5_liesIn_L4 {V : JV M2} {b : Nat} {a : Nat → Nat} (hv : vX5 V b a) (S : M2) (i1 : Int32) {E : JE (M2) Int32} (hE : JOk V E cX5_liesIn yX5_liesIn.cls 4 1 (some .int) jj_i) {k39 : Int32 → Option (Int32)} (hk39 : ∀ p, J V E (fun r => (r, S)) (k39 p) 39 [(2, .int p)] [] S) : ∀ (n_ : Nat) (v1 : Int32) (v2 : Int32), J V E (fun r => (r, S)) (fX5_liesIn_L4 S i1 k39 n_ v1 v2) 4 [(0, .ref b), (1, .int i1), (2, .int v1), (3, .int v2)] [] S := by
  intro n_
  induction n_ with
  | zero =>
    intros
    exact J_none
  | succ n_ ih =>
    intros v1 v2
    rw [fX5_liesIn_L4]
    refine J_iload_n hE dd_X5_liesIn_4 3 rfl rfl ?_
    refine J_aload_n hE dd_X5_liesIn_5 0 rfl rfl ?_
    refine J_get hE (hv.ob _) jc_X5 3 (by decide) fl_RX5_63 (v := .int (S 3 0)) rfl dd_X5_liesIn_6 ?_
    refine J_icmp_ge hE (tgt := 39) dd_X5_liesIn_9 (by decide) (fun c10 => ?_) (fun c10 => ?_)
    · refine J_sub [2] rfl ?_
      exact hk39 v1
    · refine J_iload_n hE dd_X5_liesIn_12 2 rfl rfl ?_
      refine J_aload_n hE dd_X5_liesIn_13 0 rfl rfl ?_
      refine J_iload_n hE dd_X5_liesIn_14 3 rfl rfl ?_
      refine J_iconst hE (v := (4 : Int32)) dd_X5_liesIn_15 (by decide) ?_
      refine J_invVri hE (As := [.int v2, .int (4 : Int32)]) (st := [.int v1]) (tX5_of E.2.1 hv S v2 (4 : Int32)) (hv.ob _) m_X5_of rfl ml_RX5_155 (Nat.le_of_ble_eq_true rfl) (Nat.le_of_ble_eq_true rfl) rfl (Nat.le_of_ble_eq_true rfl) dd_X5_liesIn_16 (fun r3 => ?_)
      refine J_iload_n hE dd_X5_liesIn_19 1 rfl rfl ?_
      refine J_jn (m := 28) (Lf := fun p6 => [(0, .ref b), (1, .int i1), (3, .int v2)]) (sf := fun p6 => [.int p6, .int v1]) (Xf := fun p6 => S) (fun p6 => ?_) (fun hj4 => ?_)
      · show J V E _ _ 28 [(0, .ref b), (1, .int i1), (3, .int v2)] [.int p6, .int v1] S
        refine J_invSri hE (As := [.int p6]) (st := [.int v1]) (tX5_flag E.2.1 V S p6) m_X5_flag s_X5_flag rfl ml_RX5_129 (Nat.le_of_ble_eq_true rfl) (Nat.le_of_ble_eq_true rfl) rfl (Nat.le_of_ble_eq_true rfl) dd_X5_liesIn_28 (fun r7 => ?_)
        refine J_iadd hE dd_X5_liesIn_31 ?_
        refine J_leti (fun x8 => ?_)
        refine J_istore_n hE (L' := [(2, .int x8), (0, .ref b), (1, .int i1), (3, .int v2)]) dd_X5_liesIn_32 (Nat.le_of_ble_eq_true rfl) rfl rfl ?_
        refine J_iincL hE (v := (v2 + (1 : Int32))) (Lf := fun x9 => [(3, .int x9), (2, .int x8), (0, .ref b), (1, .int i1)]) dd_X5_liesIn_33 (j := 3) rfl (congrArg (v2 + ·) (by decide)) (Nat.le_of_ble_eq_true rfl) (fun _ => rfl) (fun x9 => ?_)
        refine J_goto hE (tgt := 4) dd_X5_liesIn_36 (by decide) ?_
        refine J_sub [2, 3, 1, 0] rfl ?_
        exact ih x8 x9
      · refine J_icmp_ne hE (tgt := 27) dd_X5_liesIn_20 (by decide) (fun c5 => ?_) (fun c5 => ?_)
        · refine J_iconst hE (v := (0 : Int32)) dd_X5_liesIn_27 (by decide) ?_
          refine J_sub [0, 1, 3] rfl ?_
          exact hj4 (0 : Int32)
        · refine J_iconst hE (v := (1 : Int32)) dd_X5_liesIn_23 (by decide) ?_
          refine J_goto hE (tgt := 28) dd_X5_liesIn_24 (by decide) ?_
          refine J_sub [0, 1, 3] rfl ?_
          exact hj4 (1 : Int32)
set_option maxHeartbeats 4000000 in
set_option maxRecDepth 100000 in
theorem tX5_liesIn (l : Launch) {V : JV M2} {b : Nat} {a : Nat → Nat} (hv : vX5 V b a) (S : M2) (i1 : Int32) : JC l V yX5_liesIn cX5_liesIn 4 (some .int) jj_i 1 [.ref b, .int i1] S ((fX5_liesIn i1 S).map (fun r => (r, S))) := by
  refine jj_of (by decide) (Nat.le_of_ble_eq_true rfl) (fun E hlE hE => ?_)
  unfold fX5_liesIn
  refine J_sub (L' := [(0, .ref b), (1, .int i1)]) [0, 1] rfl ?_
  refine J_iconst hE (v := (0 : Int32)) dd_X5_liesIn_0 (by decide) ?_
  refine J_istore_n hE (L' := [(2, .int (0 : Int32)), (0, .ref b), (1, .int i1)]) dd_X5_liesIn_1 (Nat.le_of_ble_eq_true rfl) rfl rfl ?_
  refine J_iconst hE (v := (0 : Int32)) dd_X5_liesIn_2 (by decide) ?_
  refine J_istore_n hE (L' := [(3, .int (0 : Int32)), (2, .int (0 : Int32)), (0, .ref b), (1, .int i1)]) dd_X5_liesIn_3 (Nat.le_of_ble_eq_true rfl) rfl rfl ?_
  refine J_sub [2, 3, 1, 0] rfl ?_
  refine tX5_liesIn_L4 hv S i1 hE (fun p11 => ?_) 400 (0 : Int32) (0 : Int32)
  show J V E _ _ 39 [(2, .int p11)] [] S
  refine J_iload_n hE dd_X5_liesIn_39 0 rfl rfl ?_
  exact J_iret hE dd_X5_liesIn_40 rfl rfl
theorem dd_X5_boltAt_0 : jd cX5_boltAt 0 (.bipush (-4)) 2 2 := ⟨by decide +kernel, rfl⟩
theorem dd_X5_boltAt_2 : jd cX5_boltAt 2 (.istore_n 3) 1 3 := ⟨by decide +kernel, rfl⟩
theorem dd_X5_boltAt_3 : jd cX5_boltAt 3 (.iconst 0) 1 4 := ⟨by decide +kernel, rfl⟩
theorem dd_X5_boltAt_4 : jd cX5_boltAt 4 (.istore 4) 2 6 := ⟨by decide +kernel, rfl⟩
theorem dd_X5_boltAt_6 : jd cX5_boltAt 6 (.iload 4) 2 8 := ⟨by decide +kernel, rfl⟩
theorem dd_X5_boltAt_8 : jd cX5_boltAt 8 (.aload_n 0) 1 9 := ⟨by decide +kernel, rfl⟩
theorem dd_X5_boltAt_9 : jd cX5_boltAt 9 (.getfield 63) 3 12 := ⟨by decide +kernel, rfl⟩
theorem dd_X5_boltAt_15 : jd cX5_boltAt 15 (.aload_n 0) 1 16 := ⟨by decide +kernel, rfl⟩
theorem dd_X5_boltAt_16 : jd cX5_boltAt 16 (.iload 4) 2 18 := ⟨by decide +kernel, rfl⟩
theorem dd_X5_boltAt_18 : jd cX5_boltAt 18 (.iconst 4) 1 19 := ⟨by decide +kernel, rfl⟩
theorem dd_X5_boltAt_19 : jd cX5_boltAt 19 (.invokevirtual 155) 3 22 := ⟨by decide +kernel, rfl⟩
theorem dd_X5_boltAt_22 : jd cX5_boltAt 22 (.iload_n 1) 1 23 := ⟨by decide +kernel, rfl⟩
theorem dd_X5_boltAt_26 : jd cX5_boltAt 26 (.aload_n 0) 1 27 := ⟨by decide +kernel, rfl⟩
theorem dd_X5_boltAt_27 : jd cX5_boltAt 27 (.iload 4) 2 29 := ⟨by decide +kernel, rfl⟩
theorem dd_X5_boltAt_29 : jd cX5_boltAt 29 (.iconst 5) 1 30 := ⟨by decide +kernel, rfl⟩
theorem dd_X5_boltAt_30 : jd cX5_boltAt 30 (.invokevirtual 155) 3 33 := ⟨by decide +kernel, rfl⟩
theorem dd_X5_boltAt_33 : jd cX5_boltAt 33 (.iload_n 2) 1 34 := ⟨by decide +kernel, rfl⟩
theorem dd_X5_boltAt_37 : jd cX5_boltAt 37 (.iload 4) 2 39 := ⟨by decide +kernel, rfl⟩
theorem dd_X5_boltAt_39 : jd cX5_boltAt 39 (.goto 4) 3 42 := ⟨by decide +kernel, rfl⟩
theorem dd_X5_boltAt_34 : jd cX5_boltAt 34 (.if_icmp .ne 8) 3 37 := ⟨by decide +kernel, rfl⟩
theorem dd_X5_boltAt_23 : jd cX5_boltAt 23 (.if_icmp .ne 19) 3 26 := ⟨by decide +kernel, rfl⟩
theorem dd_X5_boltAt_42 : jd cX5_boltAt 42 (.iload_n 3) 1 43 := ⟨by decide +kernel, rfl⟩
theorem dd_X5_boltAt_43 : jd cX5_boltAt 43 (.istore_n 3) 1 44 := ⟨by decide +kernel, rfl⟩
theorem dd_X5_boltAt_44 : jd cX5_boltAt 44 (.iinc 4 1) 3 47 := ⟨by decide +kernel, rfl⟩
theorem dd_X5_boltAt_47 : jd cX5_boltAt 47 (.goto (-41)) 3 50 := ⟨by decide +kernel, rfl⟩
theorem dd_X5_boltAt_12 : jd cX5_boltAt 12 (.if_icmp .ge 38) 3 15 := ⟨by decide +kernel, rfl⟩
theorem dd_X5_boltAt_50 : jd cX5_boltAt 50 (.iload_n 3) 1 51 := ⟨by decide +kernel, rfl⟩
theorem dd_X5_boltAt_51 : jd cX5_boltAt 51 (.ireturn) 1 52 := ⟨by decide +kernel, rfl⟩
theorem m_X5_boltAt : jmV yX5_boltAt cX5_boltAt 5 (some .int) 2 := ⟨⟨(jj_m (w := Cond.code yX5_boltAt cX5_boltAt 5 (some .int)) (List.mem_of_getElem? (i := 1030) (by decide +kernel)) rfl), (jj_m (w := Cond.initialized yX5_boltAt.cls) (List.mem_of_getElem? (i := 69) (by decide +kernel)) rfl), ⟨by decide, by decide⟩, by decide +kernel⟩, (jj_m (w := Cond.instanceMethod yX5_boltAt) (List.mem_of_getElem? (i := 1029) (by decide +kernel)) rfl), (jj_m (w := Cond.selects yX5_boltAt.cls yX5_boltAt yX5_boltAt) (List.mem_of_getElem? (i := 40) (by decide +kernel)) rfl)⟩
def fX5_boltAt_L6 (S : M2) (i1 : Int32) (i2 : Int32) (k50 : Int32 → Option (Int32)) : Nat → Int32 → Int32 → Option (Int32)
  | 0, _, _ => none
  | n_ + 1, v1, v2 =>
    if (S 3 0) ≤ v2 then
      k50 v1
    else
      (fX5_of v2 (4 : Int32) S).bind fun r3 =>
      jn (α := Option (Int32)) (β := Int32) (fun j5 =>
        jn (α := Option (Int32)) (β := Unit) (fun j4 =>
          if r3 = i1 then
            (fX5_of v2 (5 : Int32) S).bind fun r6 =>
            if r6 = i2 then
              j5 v2
            else
              j4 ()
          else
            j4 ()) (fun _ => 
          j5 v1)) (fun p10 => 
        lt (v2 + (1 : Int32)) fun x11 =>
        fX5_boltAt_L6 S i1 i2 k50 n_ p10 x11)

def fX5_boltAt (i1 : Int32) (i2 : Int32) (S : M2) : Option (Int32) :=
  fX5_boltAt_L6 S i1 i2
    (fun p13 =>
      some p13)
    400 (-4 : Int32) (0 : Int32)

set_option maxHeartbeats 4000000 in
set_option maxRecDepth 100000 in
theorem tX5_boltAt_L6 {V : JV M2} {b : Nat} {a : Nat → Nat} (hv : vX5 V b a) (S : M2) (i1 : Int32) (i2 : Int32) {E : JE (M2) Int32} (hE : JOk V E cX5_boltAt yX5_boltAt.cls 5 1 (some .int) jj_i) {k50 : Int32 → Option (Int32)} (hk50 : ∀ p, J V E (fun r => (r, S)) (k50 p) 50 [(3, .int p)] [] S) : ∀ (n_ : Nat) (v1 : Int32) (v2 : Int32), J V E (fun r => (r, S)) (fX5_boltAt_L6 S i1 i2 k50 n_ v1 v2) 6 [(0, .ref b), (1, .int i1), (2, .int i2), (3, .int v1), (4, .int v2)] [] S := by
  intro n_
  induction n_ with
  | zero =>
    intros
    exact J_none
  | succ n_ ih =>
    intros v1 v2
    rw [fX5_boltAt_L6]
    refine J_iload hE dd_X5_boltAt_6 4 rfl ?_
    refine J_aload_n hE dd_X5_boltAt_8 0 rfl rfl ?_
    refine J_get hE (hv.ob _) jc_X5 3 (by decide) fl_RX5_63 (v := .int (S 3 0)) rfl dd_X5_boltAt_9 ?_
    refine J_icmp_ge hE (tgt := 50) dd_X5_boltAt_12 (by decide) (fun c12 => ?_) (fun c12 => ?_)
    · refine J_sub [3] rfl ?_
      exact hk50 v1
    · refine J_aload_n hE dd_X5_boltAt_15 0 rfl rfl ?_
      refine J_iload hE dd_X5_boltAt_16 4 rfl ?_
      refine J_iconst hE (v := (4 : Int32)) dd_X5_boltAt_18 (by decide) ?_
      refine J_invVri hE (As := [.int v2, .int (4 : Int32)]) (st := []) (tX5_of E.2.1 hv S v2 (4 : Int32)) (hv.ob _) m_X5_of rfl ml_RX5_155 (Nat.le_of_ble_eq_true rfl) (Nat.le_of_ble_eq_true rfl) rfl (Nat.le_of_ble_eq_true rfl) dd_X5_boltAt_19 (fun r3 => ?_)
      refine J_iload_n hE dd_X5_boltAt_22 1 rfl rfl ?_
      refine J_jn (m := 43) (Lf := fun p10 => [(0, .ref b), (1, .int i1), (2, .int i2), (4, .int v2)]) (sf := fun p10 => [.int p10]) (Xf := fun p10 => S) (fun p10 => ?_) (fun hj5 => ?_)
      · show J V E _ _ 43 [(0, .ref b), (1, .int i1), (2, .int i2), (4, .int v2)] [.int p10] S
        refine J_istore_n hE (L' := [(3, .int p10), (0, .ref b), (1, .int i1), (2, .int i2), (4, .int v2)]) dd_X5_boltAt_43 (Nat.le_of_ble_eq_true rfl) rfl rfl ?_
        refine J_iincL hE (v := (v2 + (1 : Int32))) (Lf := fun x11 => [(4, .int x11), (3, .int p10), (0, .ref b), (1, .int i1), (2, .int i2)]) dd_X5_boltAt_44 (j := 4) rfl (congrArg (v2 + ·) (by decide)) (Nat.le_of_ble_eq_true rfl) (fun _ => rfl) (fun x11 => ?_)
        refine J_goto hE (tgt := 6) dd_X5_boltAt_47 (by decide) ?_
        refine J_sub [2, 3, 4, 1, 0] rfl ?_
        exact ih p10 x11
      · refine J_jn (m := 42) (Lf := fun _ => [(0, .ref b), (1, .int i1), (2, .int i2), (3, .int v1), (4, .int v2)]) (sf := fun _ => []) (Xf := fun _ => S) (fun _ => ?_) (fun hj4 => ?_)
        · show J V E _ _ 42 [(0, .ref b), (1, .int i1), (2, .int i2), (3, .int v1), (4, .int v2)] [] S
          refine J_iload_n hE dd_X5_boltAt_42 3 rfl rfl ?_
          refine J_sub [0, 1, 2, 4] rfl ?_
          exact hj5 v1
        · refine J_icmp_ne hE (tgt := 42) dd_X5_boltAt_23 (by decide) (fun c8 => ?_) (fun c8 => ?_)
          · refine J_sub [0, 1, 2, 3, 4] rfl ?_
            exact hj4 ()
          · refine J_aload_n hE dd_X5_boltAt_26 0 rfl rfl ?_
            refine J_iload hE dd_X5_boltAt_27 4 rfl ?_
            refine J_iconst hE (v := (5 : Int32)) dd_X5_boltAt_29 (by decide) ?_
            refine J_invVri hE (As := [.int v2, .int (5 : Int32)]) (st := []) (tX5_of E.2.1 hv S v2 (5 : Int32)) (hv.ob _) m_X5_of rfl ml_RX5_155 (Nat.le_of_ble_eq_true rfl) (Nat.le_of_ble_eq_true rfl) rfl (Nat.le_of_ble_eq_true rfl) dd_X5_boltAt_30 (fun r6 => ?_)
            refine J_iload_n hE dd_X5_boltAt_33 2 rfl rfl ?_
            refine J_icmp_ne hE (tgt := 42) dd_X5_boltAt_34 (by decide) (fun c7 => ?_) (fun c7 => ?_)
            · refine J_sub [0, 1, 2, 3, 4] rfl ?_
              exact hj4 ()
            · refine J_iload hE dd_X5_boltAt_37 4 rfl ?_
              refine J_goto hE (tgt := 43) dd_X5_boltAt_39 (by decide) ?_
              refine J_sub [0, 1, 2, 4] rfl ?_
              exact hj5 v2
set_option maxHeartbeats 4000000 in
set_option maxRecDepth 100000 in
theorem tX5_boltAt (l : Launch) {V : JV M2} {b : Nat} {a : Nat → Nat} (hv : vX5 V b a) (S : M2) (i1 : Int32) (i2 : Int32) : JC l V yX5_boltAt cX5_boltAt 5 (some .int) jj_i 1 [.ref b, .int i1, .int i2] S ((fX5_boltAt i1 i2 S).map (fun r => (r, S))) := by
  refine jj_of (by decide) (Nat.le_of_ble_eq_true rfl) (fun E hlE hE => ?_)
  unfold fX5_boltAt
  refine J_sub (L' := [(0, .ref b), (1, .int i1), (2, .int i2)]) [0, 1, 2] rfl ?_
  refine J_bipush hE (v := (-4 : Int32)) dd_X5_boltAt_0 (by decide) ?_
  refine J_istore_n hE (L' := [(3, .int (-4 : Int32)), (0, .ref b), (1, .int i1), (2, .int i2)]) dd_X5_boltAt_2 (Nat.le_of_ble_eq_true rfl) rfl rfl ?_
  refine J_iconst hE (v := (0 : Int32)) dd_X5_boltAt_3 (by decide) ?_
  refine J_istore hE (L' := [(4, .int (0 : Int32)), (3, .int (-4 : Int32)), (0, .ref b), (1, .int i1), (2, .int i2)]) dd_X5_boltAt_4 (Nat.le_of_ble_eq_true rfl) rfl ?_
  refine J_sub [2, 3, 4, 1, 0] rfl ?_
  refine tX5_boltAt_L6 hv S i1 i2 hE (fun p13 => ?_) 400 (-4 : Int32) (0 : Int32)
  show J V E _ _ 50 [(3, .int p13)] [] S
  refine J_iload_n hE dd_X5_boltAt_50 0 rfl rfl ?_
  exact J_iret hE dd_X5_boltAt_51 rfl rfl
theorem dd_X5_appetite_0 : jd cX5_appetite 0 (.aload_n 0) 1 1 := ⟨by decide +kernel, rfl⟩
theorem dd_X5_appetite_1 : jd cX5_appetite 1 (.iload_n 1) 1 2 := ⟨by decide +kernel, rfl⟩
theorem dd_X5_appetite_2 : jd cX5_appetite 2 (.iconst 2) 1 3 := ⟨by decide +kernel, rfl⟩
theorem ml_RX5_158 : (Cond.methodLink "MothCustomsModel" 158 yX5_mothOf : Cond) ∈ jj_tb := jj_m (List.mem_of_getElem? (i := 1002) (by decide +kernel)) rfl
theorem dd_X5_appetite_3 : jd cX5_appetite 3 (.invokevirtual 158) 3 6 := ⟨by decide +kernel, rfl⟩
theorem dd_X5_appetite_6 : jd cX5_appetite 6 (.aload_n 0) 1 7 := ⟨by decide +kernel, rfl⟩
theorem dd_X5_appetite_7 : jd cX5_appetite 7 (.getfield 13) 3 10 := ⟨by decide +kernel, rfl⟩
theorem dd_X5_appetite_10 : jd cX5_appetite 10 (.bipush 46) 2 12 := ⟨by decide +kernel, rfl⟩
theorem dd_X5_appetite_12 : jd cX5_appetite 12 (.iaload) 1 13 := ⟨by decide +kernel, rfl⟩
theorem dd_X5_appetite_13 : jd cX5_appetite 13 (.iadd) 1 14 := ⟨by decide +kernel, rfl⟩
theorem dd_X5_appetite_14 : jd cX5_appetite 14 (.istore_n 2) 1 15 := ⟨by decide +kernel, rfl⟩
theorem dd_X5_appetite_15 : jd cX5_appetite 15 (.aload_n 0) 1 16 := ⟨by decide +kernel, rfl⟩
theorem dd_X5_appetite_16 : jd cX5_appetite 16 (.iload_n 1) 1 17 := ⟨by decide +kernel, rfl⟩
theorem dd_X5_appetite_17 : jd cX5_appetite 17 (.iconst 0) 1 18 := ⟨by decide +kernel, rfl⟩
theorem dd_X5_appetite_18 : jd cX5_appetite 18 (.invokevirtual 158) 3 21 := ⟨by decide +kernel, rfl⟩
theorem dd_X5_appetite_48 : jd cX5_appetite 48 (.iload_n 2) 1 49 := ⟨by decide +kernel, rfl⟩
theorem dd_X5_appetite_58 : jd cX5_appetite 58 (.iconst 0) 1 59 := ⟨by decide +kernel, rfl⟩
theorem dd_X5_appetite_59 : jd cX5_appetite 59 (.ireturn) 1 60 := ⟨by decide +kernel, rfl⟩
theorem dd_X5_appetite_52 : jd cX5_appetite 52 (.iload_n 2) 1 53 := ⟨by decide +kernel, rfl⟩
theorem dd_X5_appetite_53 : jd cX5_appetite 53 (.iconst 1) 1 54 := ⟨by decide +kernel, rfl⟩
theorem dd_X5_appetite_54 : jd cX5_appetite 54 (.isub) 1 55 := ⟨by decide +kernel, rfl⟩
theorem dd_X5_appetite_55 : jd cX5_appetite 55 (.goto 4) 3 58 := ⟨by decide +kernel, rfl⟩
theorem dd_X5_appetite_49 : jd cX5_appetite 49 (.ifCond .le 9) 3 52 := ⟨by decide +kernel, rfl⟩
theorem dd_X5_appetite_60 : jd cX5_appetite 60 (.iconst 2) 1 61 := ⟨by decide +kernel, rfl⟩
theorem dd_X5_appetite_61 : jd cX5_appetite 61 (.iload_n 2) 1 62 := ⟨by decide +kernel, rfl⟩
theorem dd_X5_appetite_62 : jd cX5_appetite 62 (.imul) 1 63 := ⟨by decide +kernel, rfl⟩
theorem dd_X5_appetite_63 : jd cX5_appetite 63 (.ireturn) 1 64 := ⟨by decide +kernel, rfl⟩
theorem dd_X5_appetite_64 : jd cX5_appetite 64 (.iload_n 2) 1 65 := ⟨by decide +kernel, rfl⟩
theorem dd_X5_appetite_65 : jd cX5_appetite 65 (.iconst 2) 1 66 := ⟨by decide +kernel, rfl⟩
theorem dd_X5_appetite_66 : jd cX5_appetite 66 (.idiv) 1 67 := ⟨by decide +kernel, rfl⟩
theorem dd_X5_appetite_67 : jd cX5_appetite 67 (.ireturn) 1 68 := ⟨by decide +kernel, rfl⟩
theorem dd_X5_appetite_68 : jd cX5_appetite 68 (.iload_n 2) 1 69 := ⟨by decide +kernel, rfl⟩
theorem dd_X5_appetite_69 : jd cX5_appetite 69 (.ireturn) 1 70 := ⟨by decide +kernel, rfl⟩
theorem dd_X5_appetite_21 : jd cX5_appetite 21 (.tableswitch 47 1 3 #[27, 39, 43]) 27 48 := ⟨by decide +kernel, rfl⟩
theorem m_X5_appetite : jmV yX5_appetite cX5_appetite 3 (some .int) 1 := ⟨⟨(jj_m (w := Cond.code yX5_appetite cX5_appetite 3 (some .int)) (List.mem_of_getElem? (i := 1010) (by decide +kernel)) rfl), (jj_m (w := Cond.initialized yX5_appetite.cls) (List.mem_of_getElem? (i := 69) (by decide +kernel)) rfl), ⟨by decide, by decide⟩, by decide +kernel⟩, (jj_m (w := Cond.instanceMethod yX5_appetite) (List.mem_of_getElem? (i := 1009) (by decide +kernel)) rfl), (jj_m (w := Cond.selects yX5_appetite.cls yX5_appetite yX5_appetite) (List.mem_of_getElem? (i := 37) (by decide +kernel)) rfl)⟩
def fX5_appetite (i1 : Int32) (S : M2) : Option (Int32) :=
  (fX5_mothOf i1 (2 : Int32) S).bind fun r1 =>
  bnd (46 : Int32) 62 <|
  lt ((r1 + (S 1 (46 : Int32).toNatClampNeg))) fun x2 =>
  (fX5_mothOf i1 (0 : Int32) S).bind fun r3 =>
  if r3 = 1 then
    if x2 ≤ 0 then
      some (0 : Int32)
    else
      some (x2 - (1 : Int32))
  else
    if r3 = 2 then
      some ((2 : Int32) * x2)
    else
      if r3 = 3 then
        if (2 : Int32) = 0 then none else
        some (x2 / (2 : Int32))
      else
        some x2

set_option maxHeartbeats 4000000 in
set_option maxRecDepth 100000 in
theorem tX5_appetite (l : Launch) {V : JV M2} {b : Nat} {a : Nat → Nat} (hv : vX5 V b a) (S : M2) (i1 : Int32) : JC l V yX5_appetite cX5_appetite 3 (some .int) jj_i 1 [.ref b, .int i1] S ((fX5_appetite i1 S).map (fun r => (r, S))) := by
  refine jj_of (by decide) (Nat.le_of_ble_eq_true rfl) (fun E hlE hE => ?_)
  unfold fX5_appetite
  refine J_sub (L' := [(0, .ref b), (1, .int i1)]) [0, 1] rfl ?_
  refine J_aload_n hE dd_X5_appetite_0 0 rfl rfl ?_
  refine J_iload_n hE dd_X5_appetite_1 1 rfl rfl ?_
  refine J_iconst hE (v := (2 : Int32)) dd_X5_appetite_2 (by decide) ?_
  refine J_invVri hE (As := [.int i1, .int (2 : Int32)]) (st := []) (tX5_mothOf E.2.1 hv S i1 (2 : Int32)) (hv.ob _) m_X5_mothOf rfl ml_RX5_158 (Nat.le_of_ble_eq_true rfl) (Nat.le_of_ble_eq_true rfl) rfl (Nat.le_of_ble_eq_true rfl) dd_X5_appetite_3 (fun r1 => ?_)
  refine J_aload_n hE dd_X5_appetite_6 0 rfl rfl ?_
  refine J_get hE (hv.ob _) jc_X5 1 (by decide) fl_RX5_13 (v := .ref (a 1)) rfl dd_X5_appetite_7 ?_
  refine J_bipush hE (v := (46 : Int32)) dd_X5_appetite_10 (by decide) ?_
  refine J_ald hE (hv.arr 1 (n := 62) (ty := .int) (by decide) _) dd_X5_appetite_12 ?_
  refine J_iadd hE dd_X5_appetite_13 ?_
  refine J_leti (fun x2 => ?_)
  refine J_istore_n hE (L' := [(2, .int x2), (0, .ref b), (1, .int i1)]) dd_X5_appetite_14 (Nat.le_of_ble_eq_true rfl) rfl rfl ?_
  refine J_aload_n hE dd_X5_appetite_15 1 rfl rfl ?_
  refine J_iload_n hE dd_X5_appetite_16 2 rfl rfl ?_
  refine J_iconst hE (v := (0 : Int32)) dd_X5_appetite_17 (by decide) ?_
  refine J_invVri hE (As := [.int i1, .int (0 : Int32)]) (st := []) (tX5_mothOf E.2.1 hv S i1 (0 : Int32)) (hv.ob _) m_X5_mothOf rfl ml_RX5_158 (Nat.le_of_ble_eq_true rfl) (Nat.le_of_ble_eq_true rfl) rfl (Nat.le_of_ble_eq_true rfl) dd_X5_appetite_18 (fun r3 => ?_)
  refine J_ite (fun c4 => ?_) (fun c4 => ?_)
  · refine J_tsAt hE c4 (off := 27) (tgt := 48) dd_X5_appetite_21 (by decide) (by decide) (by decide) (by decide) ?_
    refine J_iload_n hE dd_X5_appetite_48 0 rfl rfl ?_
    refine J_if_le hE (tgt := 58) dd_X5_appetite_49 (by decide) (fun c5 => ?_) (fun c5 => ?_)
    · refine J_iconst hE (v := (0 : Int32)) dd_X5_appetite_58 (by decide) ?_
      exact J_iret hE dd_X5_appetite_59 rfl rfl
    · refine J_iload_n hE dd_X5_appetite_52 0 rfl rfl ?_
      refine J_iconst hE (v := (1 : Int32)) dd_X5_appetite_53 (by decide) ?_
      refine J_isub hE dd_X5_appetite_54 ?_
      refine J_goto hE (tgt := 59) dd_X5_appetite_55 (by decide) ?_
      exact J_iret hE dd_X5_appetite_59 rfl rfl
  · refine J_ite (fun c6 => ?_) (fun c6 => ?_)
    · refine J_tsAt hE c6 (off := 39) (tgt := 60) dd_X5_appetite_21 (by decide) (by decide) (by decide) (by decide) ?_
      refine J_iconst hE (v := (2 : Int32)) dd_X5_appetite_60 (by decide) ?_
      refine J_iload_n hE dd_X5_appetite_61 0 rfl rfl ?_
      refine J_imul hE dd_X5_appetite_62 ?_
      exact J_iret hE dd_X5_appetite_63 rfl rfl
    · refine J_ite (fun c7 => ?_) (fun c7 => ?_)
      · refine J_tsAt hE c7 (off := 43) (tgt := 64) dd_X5_appetite_21 (by decide) (by decide) (by decide) (by decide) ?_
        refine J_iload_n hE dd_X5_appetite_64 0 rfl rfl ?_
        refine J_iconst hE (v := (2 : Int32)) dd_X5_appetite_65 (by decide) ?_
        refine J_idiv hE dd_X5_appetite_66 (fun _ => ?_)
        exact J_iret hE dd_X5_appetite_67 rfl rfl
      · refine J_tsOut hE (tgt := 68) dd_X5_appetite_21 (by have e0 : ¬ (r3).toInt = 1 := fun q => c4 (Int32.toInt_inj.mp (q.trans (by decide))); have e1 : ¬ (r3).toInt = 2 := fun q => c6 (Int32.toInt_inj.mp (q.trans (by decide))); have e2 : ¬ (r3).toInt = 3 := fun q => c7 (Int32.toInt_inj.mp (q.trans (by decide))); omega) (by decide) ?_
        refine J_iload_n hE dd_X5_appetite_68 0 rfl rfl ?_
        exact J_iret hE dd_X5_appetite_69 rfl rfl
theorem dd_X5_doesLike_0 : jd cX5_doesLike 0 (.aload_n 0) 1 1 := ⟨by decide +kernel, rfl⟩
theorem dd_X5_doesLike_1 : jd cX5_doesLike 1 (.iload_n 2) 1 2 := ⟨by decide +kernel, rfl⟩
theorem dd_X5_doesLike_2 : jd cX5_doesLike 2 (.iconst 0) 1 3 := ⟨by decide +kernel, rfl⟩
theorem dd_X5_doesLike_3 : jd cX5_doesLike 3 (.invokevirtual 155) 3 6 := ⟨by decide +kernel, rfl⟩
theorem dd_X5_doesLike_6 : jd cX5_doesLike 6 (.aload_n 0) 1 7 := ⟨by decide +kernel, rfl⟩
theorem dd_X5_doesLike_7 : jd cX5_doesLike 7 (.iload_n 1) 1 8 := ⟨by decide +kernel, rfl⟩
theorem dd_X5_doesLike_8 : jd cX5_doesLike 8 (.iconst 1) 1 9 := ⟨by decide +kernel, rfl⟩
theorem dd_X5_doesLike_9 : jd cX5_doesLike 9 (.invokevirtual 158) 3 12 := ⟨by decide +kernel, rfl⟩
theorem dd_X5_doesLike_12 : jd cX5_doesLike 12 (.isub) 1 13 := ⟨by decide +kernel, rfl⟩
theorem dd_X5_doesLike_13 : jd cX5_doesLike 13 (.istore_n 3) 1 14 := ⟨by decide +kernel, rfl⟩
theorem dd_X5_doesLike_14 : jd cX5_doesLike 14 (.aload_n 0) 1 15 := ⟨by decide +kernel, rfl⟩
theorem dd_X5_doesLike_15 : jd cX5_doesLike 15 (.iload_n 1) 1 16 := ⟨by decide +kernel, rfl⟩
theorem dd_X5_doesLike_16 : jd cX5_doesLike 16 (.iconst 0) 1 17 := ⟨by decide +kernel, rfl⟩
theorem dd_X5_doesLike_17 : jd cX5_doesLike 17 (.invokevirtual 158) 3 20 := ⟨by decide +kernel, rfl⟩
theorem dd_X5_doesLike_20 : jd cX5_doesLike 20 (.istore 4) 2 22 := ⟨by decide +kernel, rfl⟩
theorem dd_X5_doesLike_22 : jd cX5_doesLike 22 (.iload 4) 2 24 := ⟨by decide +kernel, rfl⟩
theorem dd_X5_doesLike_24 : jd cX5_doesLike 24 (.iconst 2) 1 25 := ⟨by decide +kernel, rfl⟩
theorem dd_X5_doesLike_53 : jd cX5_doesLike 53 (.iconst 1) 1 54 := ⟨by decide +kernel, rfl⟩
theorem dd_X5_doesLike_58 : jd cX5_doesLike 58 (.ireturn) 1 59 := ⟨by decide +kernel, rfl⟩
theorem dd_X5_doesLike_54 : jd cX5_doesLike 54 (.goto 4) 3 57 := ⟨by decide +kernel, rfl⟩
theorem dd_X5_doesLike_28 : jd cX5_doesLike 28 (.iload 4) 2 30 := ⟨by decide +kernel, rfl⟩
theorem dd_X5_doesLike_30 : jd cX5_doesLike 30 (.iconst 1) 1 31 := ⟨by decide +kernel, rfl⟩
theorem dd_X5_doesLike_41 : jd cX5_doesLike 41 (.iload_n 3) 1 42 := ⟨by decide +kernel, rfl⟩
theorem dd_X5_doesLike_42 : jd cX5_doesLike 42 (.i2l) 1 43 := ⟨by decide +kernel, rfl⟩
theorem cl_RX5_161 : (Cond.constantLong "MothCustomsModel" 161 (-1 : Int64) : Cond) ∈ jj_tb := jj_m (List.mem_of_getElem? (i := 1006) (by decide +kernel)) rfl
theorem dd_X5_doesLike_43 : jd cX5_doesLike 43 (.ldc2_w 161) 3 46 := ⟨by decide +kernel, rfl⟩
theorem dd_X5_doesLike_46 : jd cX5_doesLike 46 (.lconst 1) 1 47 := ⟨by decide +kernel, rfl⟩
theorem dd_X5_doesLike_47 : jd cX5_doesLike 47 (.invokestatic 71) 3 50 := ⟨by decide +kernel, rfl⟩
theorem dd_X5_doesLike_57 : jd cX5_doesLike 57 (.iconst 0) 1 58 := ⟨by decide +kernel, rfl⟩
theorem dd_X5_doesLike_50 : jd cX5_doesLike 50 (.ifCond .eq 7) 3 53 := ⟨by decide +kernel, rfl⟩
theorem dd_X5_doesLike_34 : jd cX5_doesLike 34 (.iload_n 3) 1 35 := ⟨by decide +kernel, rfl⟩
theorem dd_X5_doesLike_38 : jd cX5_doesLike 38 (.goto 15) 3 41 := ⟨by decide +kernel, rfl⟩
theorem dd_X5_doesLike_35 : jd cX5_doesLike 35 (.ifCond .ne 22) 3 38 := ⟨by decide +kernel, rfl⟩
theorem dd_X5_doesLike_31 : jd cX5_doesLike 31 (.if_icmp .ne 10) 3 34 := ⟨by decide +kernel, rfl⟩
theorem dd_X5_doesLike_25 : jd cX5_doesLike 25 (.if_icmp .eq 28) 3 28 := ⟨by decide +kernel, rfl⟩
theorem m_X5_doesLike : jmV yX5_doesLike cX5_doesLike 5 (some .boolean) 2 := ⟨⟨(jj_m (w := Cond.code yX5_doesLike cX5_doesLike 5 (some .boolean)) (List.mem_of_getElem? (i := 1001) (by decide +kernel)) rfl), (jj_m (w := Cond.initialized yX5_doesLike.cls) (List.mem_of_getElem? (i := 69) (by decide +kernel)) rfl), ⟨by decide, by decide⟩, by decide +kernel⟩, (jj_m (w := Cond.instanceMethod yX5_doesLike) (List.mem_of_getElem? (i := 1000) (by decide +kernel)) rfl), (jj_m (w := Cond.selects yX5_doesLike.cls yX5_doesLike yX5_doesLike) (List.mem_of_getElem? (i := 35) (by decide +kernel)) rfl)⟩
def fX5_doesLike (i1 : Int32) (i2 : Int32) (S : M2) : Option (Int32) :=
  (fX5_of i2 (0 : Int32) S).bind fun r1 =>
  (fX5_mothOf i1 (1 : Int32) S).bind fun r2 =>
  lt ((r1 - r2)) fun x3 =>
  (fX5_mothOf i1 (0 : Int32) S).bind fun r4 =>
  if r4 = (2 : Int32) then
    some (1 : Int32)
  else
    if r4 = (1 : Int32) then
      if x3 = 0 then
        some (1 : Int32)
      else
        some (0 : Int32)
    else
      (fX5_in (x3.toInt64) (-1 : Int64) (1 : Int64)).bind fun r5 =>
      if r5 = 0 then
        some (0 : Int32)
      else
        some (1 : Int32)

set_option maxHeartbeats 4000000 in
set_option maxRecDepth 100000 in
theorem tX5_doesLike (l : Launch) {V : JV M2} {b : Nat} {a : Nat → Nat} (hv : vX5 V b a) (S : M2) (i1 : Int32) (i2 : Int32) : JC l V yX5_doesLike cX5_doesLike 5 (some .boolean) jj_i 1 [.ref b, .int i1, .int i2] S ((fX5_doesLike i1 i2 S).map (fun r => (r, S))) := by
  refine jj_of (by decide) (Nat.le_of_ble_eq_true rfl) (fun E hlE hE => ?_)
  unfold fX5_doesLike
  refine J_sub (L' := [(0, .ref b), (1, .int i1), (2, .int i2)]) [0, 1, 2] rfl ?_
  refine J_aload_n hE dd_X5_doesLike_0 0 rfl rfl ?_
  refine J_iload_n hE dd_X5_doesLike_1 2 rfl rfl ?_
  refine J_iconst hE (v := (0 : Int32)) dd_X5_doesLike_2 (by decide) ?_
  refine J_invVri hE (As := [.int i2, .int (0 : Int32)]) (st := []) (tX5_of E.2.1 hv S i2 (0 : Int32)) (hv.ob _) m_X5_of rfl ml_RX5_155 (Nat.le_of_ble_eq_true rfl) (Nat.le_of_ble_eq_true rfl) rfl (Nat.le_of_ble_eq_true rfl) dd_X5_doesLike_3 (fun r1 => ?_)
  refine J_aload_n hE dd_X5_doesLike_6 0 rfl rfl ?_
  refine J_iload_n hE dd_X5_doesLike_7 1 rfl rfl ?_
  refine J_iconst hE (v := (1 : Int32)) dd_X5_doesLike_8 (by decide) ?_
  refine J_invVri hE (As := [.int i1, .int (1 : Int32)]) (st := [.int r1]) (tX5_mothOf E.2.1 hv S i1 (1 : Int32)) (hv.ob _) m_X5_mothOf rfl ml_RX5_158 (Nat.le_of_ble_eq_true rfl) (Nat.le_of_ble_eq_true rfl) rfl (Nat.le_of_ble_eq_true rfl) dd_X5_doesLike_9 (fun r2 => ?_)
  refine J_isub hE dd_X5_doesLike_12 ?_
  refine J_leti (fun x3 => ?_)
  refine J_istore_n hE (L' := [(3, .int x3), (0, .ref b), (1, .int i1), (2, .int i2)]) dd_X5_doesLike_13 (Nat.le_of_ble_eq_true rfl) rfl rfl ?_
  refine J_aload_n hE dd_X5_doesLike_14 1 rfl rfl ?_
  refine J_iload_n hE dd_X5_doesLike_15 2 rfl rfl ?_
  refine J_iconst hE (v := (0 : Int32)) dd_X5_doesLike_16 (by decide) ?_
  refine J_invVri hE (As := [.int i1, .int (0 : Int32)]) (st := []) (tX5_mothOf E.2.1 hv S i1 (0 : Int32)) (hv.ob _) m_X5_mothOf rfl ml_RX5_158 (Nat.le_of_ble_eq_true rfl) (Nat.le_of_ble_eq_true rfl) rfl (Nat.le_of_ble_eq_true rfl) dd_X5_doesLike_17 (fun r4 => ?_)
  refine J_istore hE (L' := [(4, .int r4), (3, .int x3), (0, .ref b), (1, .int i1), (2, .int i2)]) dd_X5_doesLike_20 (Nat.le_of_ble_eq_true rfl) rfl ?_
  refine J_iload hE dd_X5_doesLike_22 0 rfl ?_
  refine J_iconst hE (v := (2 : Int32)) dd_X5_doesLike_24 (by decide) ?_
  refine J_icmp_eq hE (tgt := 53) dd_X5_doesLike_25 (by decide) (fun c9 => ?_) (fun c9 => ?_)
  · refine J_iconst hE (v := (1 : Int32)) dd_X5_doesLike_53 (by decide) ?_
    refine J_goto hE (tgt := 58) dd_X5_doesLike_54 (by decide) ?_
    exact J_zret hE (Or.inr rfl) dd_X5_doesLike_58 rfl rfl
  · refine J_iload hE dd_X5_doesLike_28 0 rfl ?_
    refine J_iconst hE (v := (1 : Int32)) dd_X5_doesLike_30 (by decide) ?_
    refine J_icmp_ne hE (tgt := 41) dd_X5_doesLike_31 (by decide) (fun c8 => ?_) (fun c8 => ?_)
    · refine J_iload_n hE dd_X5_doesLike_41 1 rfl rfl ?_
      refine J_i2l hE dd_X5_doesLike_42 ?_
      refine J_ldc2 hE (v := (-1 : Int64)) dd_X5_doesLike_43 cl_RX5_161 ?_
      refine J_lconst hE (v := (1 : Int64)) dd_X5_doesLike_46 (by decide) ?_
      refine J_invSri hE (As := [.long (x3.toInt64), .long (-1 : Int64), .long (1 : Int64)]) (st := []) (tX5_in E.2.1 V S (x3.toInt64) (-1 : Int64) (1 : Int64)) m_X5_in s_X5_in rfl ml_RX5_71 (Nat.le_of_ble_eq_true rfl) (Nat.le_of_ble_eq_true rfl) rfl (Nat.le_of_ble_eq_true rfl) dd_X5_doesLike_47 (fun r5 => ?_)
      refine J_if_eq hE (tgt := 57) dd_X5_doesLike_50 (by decide) (fun c6 => ?_) (fun c6 => ?_)
      · refine J_iconst hE (v := (0 : Int32)) dd_X5_doesLike_57 (by decide) ?_
        exact J_zret hE (Or.inl rfl) dd_X5_doesLike_58 rfl rfl
      · refine J_iconst hE (v := (1 : Int32)) dd_X5_doesLike_53 (by decide) ?_
        refine J_goto hE (tgt := 58) dd_X5_doesLike_54 (by decide) ?_
        exact J_zret hE (Or.inr rfl) dd_X5_doesLike_58 rfl rfl
    · refine J_iload_n hE dd_X5_doesLike_34 1 rfl rfl ?_
      refine J_if_ne hE (tgt := 57) dd_X5_doesLike_35 (by decide) (fun c7 => ?_) (fun c7 => ?_)
      · refine J_iconst hE (v := (0 : Int32)) dd_X5_doesLike_57 (by decide) ?_
        exact J_zret hE (Or.inl rfl) dd_X5_doesLike_58 rfl rfl
      · refine J_goto hE (tgt := 53) dd_X5_doesLike_38 (by decide) ?_
        refine J_iconst hE (v := (1 : Int32)) dd_X5_doesLike_53 (by decide) ?_
        refine J_goto hE (tgt := 58) dd_X5_doesLike_54 (by decide) ?_
        exact J_zret hE (Or.inr rfl) dd_X5_doesLike_58 rfl rfl
theorem dd_X5_eatsNow_0 : jd cX5_eatsNow 0 (.aload_n 0) 1 1 := ⟨by decide +kernel, rfl⟩
theorem dd_X5_eatsNow_1 : jd cX5_eatsNow 1 (.iload_n 1) 1 2 := ⟨by decide +kernel, rfl⟩
theorem ml_RX5_163 : (Cond.methodLink "MothCustomsModel" 163 yX5_appetite : Cond) ∈ jj_tb := jj_m (List.mem_of_getElem? (i := 1007) (by decide +kernel)) rfl
theorem dd_X5_eatsNow_2 : jd cX5_eatsNow 2 (.invokevirtual 163) 3 5 := ⟨by decide +kernel, rfl⟩
theorem dd_X5_eatsNow_5 : jd cX5_eatsNow 5 (.istore_n 2) 1 6 := ⟨by decide +kernel, rfl⟩
theorem dd_X5_eatsNow_6 : jd cX5_eatsNow 6 (.iconst 0) 1 7 := ⟨by decide +kernel, rfl⟩
theorem dd_X5_eatsNow_7 : jd cX5_eatsNow 7 (.istore_n 3) 1 8 := ⟨by decide +kernel, rfl⟩
theorem dd_X5_eatsNow_8 : jd cX5_eatsNow 8 (.aload_n 0) 1 9 := ⟨by decide +kernel, rfl⟩
theorem dd_X5_eatsNow_9 : jd cX5_eatsNow 9 (.aload_n 0) 1 10 := ⟨by decide +kernel, rfl⟩
theorem dd_X5_eatsNow_10 : jd cX5_eatsNow 10 (.iload_n 1) 1 11 := ⟨by decide +kernel, rfl⟩
theorem dd_X5_eatsNow_11 : jd cX5_eatsNow 11 (.iconst 3) 1 12 := ⟨by decide +kernel, rfl⟩
theorem dd_X5_eatsNow_12 : jd cX5_eatsNow 12 (.invokevirtual 158) 3 15 := ⟨by decide +kernel, rfl⟩
theorem ml_RX5_166 : (Cond.methodLink "MothCustomsModel" 166 yX5_liesIn : Cond) ∈ jj_tb := jj_m (List.mem_of_getElem? (i := 1019) (by decide +kernel)) rfl
theorem dd_X5_eatsNow_15 : jd cX5_eatsNow 15 (.invokevirtual 166) 3 18 := ⟨by decide +kernel, rfl⟩
theorem dd_X5_eatsNow_18 : jd cX5_eatsNow 18 (.istore 4) 2 20 := ⟨by decide +kernel, rfl⟩
theorem dd_X5_eatsNow_20 : jd cX5_eatsNow 20 (.iconst 0) 1 21 := ⟨by decide +kernel, rfl⟩
theorem dd_X5_eatsNow_21 : jd cX5_eatsNow 21 (.istore 5) 2 23 := ⟨by decide +kernel, rfl⟩
theorem dd_X5_eatsNow_23 : jd cX5_eatsNow 23 (.iload 5) 2 25 := ⟨by decide +kernel, rfl⟩
theorem dd_X5_eatsNow_25 : jd cX5_eatsNow 25 (.iload 4) 2 27 := ⟨by decide +kernel, rfl⟩
theorem dd_X5_eatsNow_30 : jd cX5_eatsNow 30 (.aload_n 0) 1 31 := ⟨by decide +kernel, rfl⟩
theorem dd_X5_eatsNow_31 : jd cX5_eatsNow 31 (.aload_n 0) 1 32 := ⟨by decide +kernel, rfl⟩
theorem dd_X5_eatsNow_32 : jd cX5_eatsNow 32 (.iload_n 1) 1 33 := ⟨by decide +kernel, rfl⟩
theorem dd_X5_eatsNow_33 : jd cX5_eatsNow 33 (.iconst 3) 1 34 := ⟨by decide +kernel, rfl⟩
theorem dd_X5_eatsNow_34 : jd cX5_eatsNow 34 (.invokevirtual 158) 3 37 := ⟨by decide +kernel, rfl⟩
theorem dd_X5_eatsNow_37 : jd cX5_eatsNow 37 (.iload 5) 2 39 := ⟨by decide +kernel, rfl⟩
theorem ml_RX5_169 : (Cond.methodLink "MothCustomsModel" 169 yX5_boltAt : Cond) ∈ jj_tb := jj_m (List.mem_of_getElem? (i := 1027) (by decide +kernel)) rfl
theorem dd_X5_eatsNow_39 : jd cX5_eatsNow 39 (.invokevirtual 169) 3 42 := ⟨by decide +kernel, rfl⟩
theorem dd_X5_eatsNow_42 : jd cX5_eatsNow 42 (.istore 6) 2 44 := ⟨by decide +kernel, rfl⟩
theorem dd_X5_eatsNow_44 : jd cX5_eatsNow 44 (.aload_n 0) 1 45 := ⟨by decide +kernel, rfl⟩
theorem dd_X5_eatsNow_45 : jd cX5_eatsNow 45 (.iload 6) 2 47 := ⟨by decide +kernel, rfl⟩
theorem dd_X5_eatsNow_47 : jd cX5_eatsNow 47 (.iconst 3) 1 48 := ⟨by decide +kernel, rfl⟩
theorem dd_X5_eatsNow_48 : jd cX5_eatsNow 48 (.invokevirtual 155) 3 51 := ⟨by decide +kernel, rfl⟩
theorem dd_X5_eatsNow_51 : jd cX5_eatsNow 51 (.iconst 1) 1 52 := ⟨by decide +kernel, rfl⟩
theorem dd_X5_eatsNow_57 : jd cX5_eatsNow 57 (.aload_n 0) 1 58 := ⟨by decide +kernel, rfl⟩
theorem dd_X5_eatsNow_58 : jd cX5_eatsNow 58 (.iload_n 1) 1 59 := ⟨by decide +kernel, rfl⟩
theorem dd_X5_eatsNow_59 : jd cX5_eatsNow 59 (.iload 6) 2 61 := ⟨by decide +kernel, rfl⟩
theorem ml_RX5_172 : (Cond.methodLink "MothCustomsModel" 172 yX5_doesLike : Cond) ∈ jj_tb := jj_m (List.mem_of_getElem? (i := 998) (by decide +kernel)) rfl
theorem dd_X5_eatsNow_61 : jd cX5_eatsNow 61 (.invokevirtual 172) 3 64 := ⟨by decide +kernel, rfl⟩
theorem dd_X5_eatsNow_67 : jd cX5_eatsNow 67 (.aload_n 0) 1 68 := ⟨by decide +kernel, rfl⟩
theorem dd_X5_eatsNow_68 : jd cX5_eatsNow 68 (.iload 6) 2 70 := ⟨by decide +kernel, rfl⟩
theorem dd_X5_eatsNow_70 : jd cX5_eatsNow 70 (.iconst 1) 1 71 := ⟨by decide +kernel, rfl⟩
theorem dd_X5_eatsNow_71 : jd cX5_eatsNow 71 (.invokevirtual 155) 3 74 := ⟨by decide +kernel, rfl⟩
theorem dd_X5_eatsNow_74 : jd cX5_eatsNow 74 (.aload_n 0) 1 75 := ⟨by decide +kernel, rfl⟩
theorem dd_X5_eatsNow_75 : jd cX5_eatsNow 75 (.iload 6) 2 77 := ⟨by decide +kernel, rfl⟩
theorem dd_X5_eatsNow_77 : jd cX5_eatsNow 77 (.iconst 2) 1 78 := ⟨by decide +kernel, rfl⟩
theorem dd_X5_eatsNow_78 : jd cX5_eatsNow 78 (.invokevirtual 155) 3 81 := ⟨by decide +kernel, rfl⟩
theorem dd_X5_eatsNow_81 : jd cX5_eatsNow 81 (.isub) 1 82 := ⟨by decide +kernel, rfl⟩
theorem dd_X5_eatsNow_82 : jd cX5_eatsNow 82 (.istore 7) 2 84 := ⟨by decide +kernel, rfl⟩
theorem dd_X5_eatsNow_84 : jd cX5_eatsNow 84 (.iload_n 2) 1 85 := ⟨by decide +kernel, rfl⟩
theorem dd_X5_eatsNow_85 : jd cX5_eatsNow 85 (.iload 7) 2 87 := ⟨by decide +kernel, rfl⟩
theorem dd_X5_eatsNow_94 : jd cX5_eatsNow 94 (.iload 7) 2 96 := ⟨by decide +kernel, rfl⟩
theorem dd_X5_eatsNow_90 : jd cX5_eatsNow 90 (.iload_n 2) 1 91 := ⟨by decide +kernel, rfl⟩
theorem dd_X5_eatsNow_91 : jd cX5_eatsNow 91 (.goto 5) 3 94 := ⟨by decide +kernel, rfl⟩
theorem dd_X5_eatsNow_87 : jd cX5_eatsNow 87 (.if_icmp .ge 7) 3 90 := ⟨by decide +kernel, rfl⟩
theorem dd_X5_eatsNow_96 : jd cX5_eatsNow 96 (.istore 8) 2 98 := ⟨by decide +kernel, rfl⟩
theorem dd_X5_eatsNow_98 : jd cX5_eatsNow 98 (.aload_n 0) 1 99 := ⟨by decide +kernel, rfl⟩
theorem dd_X5_eatsNow_99 : jd cX5_eatsNow 99 (.iload 6) 2 101 := ⟨by decide +kernel, rfl⟩
theorem dd_X5_eatsNow_101 : jd cX5_eatsNow 101 (.iconst 2) 1 102 := ⟨by decide +kernel, rfl⟩
theorem dd_X5_eatsNow_102 : jd cX5_eatsNow 102 (.aload_n 0) 1 103 := ⟨by decide +kernel, rfl⟩
theorem dd_X5_eatsNow_103 : jd cX5_eatsNow 103 (.iload 6) 2 105 := ⟨by decide +kernel, rfl⟩
theorem dd_X5_eatsNow_105 : jd cX5_eatsNow 105 (.iconst 2) 1 106 := ⟨by decide +kernel, rfl⟩
theorem dd_X5_eatsNow_106 : jd cX5_eatsNow 106 (.invokevirtual 155) 3 109 := ⟨by decide +kernel, rfl⟩
theorem dd_X5_eatsNow_109 : jd cX5_eatsNow 109 (.iload 8) 2 111 := ⟨by decide +kernel, rfl⟩
theorem dd_X5_eatsNow_111 : jd cX5_eatsNow 111 (.iadd) 1 112 := ⟨by decide +kernel, rfl⟩
theorem ml_RX5_176 : (Cond.methodLink "MothCustomsModel" 176 yX5_becomesOf : Cond) ∈ jj_tb := jj_m (List.mem_of_getElem? (i := 1044) (by decide +kernel)) rfl
theorem dd_X5_eatsNow_112 : jd cX5_eatsNow 112 (.invokevirtual 176) 3 115 := ⟨by decide +kernel, rfl⟩
theorem dd_X5_eatsNow_115 : jd cX5_eatsNow 115 (.iload_n 2) 1 116 := ⟨by decide +kernel, rfl⟩
theorem dd_X5_eatsNow_116 : jd cX5_eatsNow 116 (.iload 8) 2 118 := ⟨by decide +kernel, rfl⟩
theorem dd_X5_eatsNow_118 : jd cX5_eatsNow 118 (.isub) 1 119 := ⟨by decide +kernel, rfl⟩
theorem dd_X5_eatsNow_119 : jd cX5_eatsNow 119 (.istore_n 2) 1 120 := ⟨by decide +kernel, rfl⟩
theorem dd_X5_eatsNow_120 : jd cX5_eatsNow 120 (.iload_n 3) 1 121 := ⟨by decide +kernel, rfl⟩
theorem dd_X5_eatsNow_121 : jd cX5_eatsNow 121 (.iload 8) 2 123 := ⟨by decide +kernel, rfl⟩
theorem dd_X5_eatsNow_123 : jd cX5_eatsNow 123 (.iadd) 1 124 := ⟨by decide +kernel, rfl⟩
theorem dd_X5_eatsNow_124 : jd cX5_eatsNow 124 (.istore_n 3) 1 125 := ⟨by decide +kernel, rfl⟩
theorem dd_X5_eatsNow_64 : jd cX5_eatsNow 64 (.ifCond .eq 61) 3 67 := ⟨by decide +kernel, rfl⟩
theorem dd_X5_eatsNow_125 : jd cX5_eatsNow 125 (.iinc 5 1) 3 128 := ⟨by decide +kernel, rfl⟩
theorem dd_X5_eatsNow_128 : jd cX5_eatsNow 128 (.goto (-105)) 3 131 := ⟨by decide +kernel, rfl⟩
theorem dd_X5_eatsNow_55 : jd cX5_eatsNow 55 (.iload_n 3) 1 56 := ⟨by decide +kernel, rfl⟩
theorem dd_X5_eatsNow_56 : jd cX5_eatsNow 56 (.ireturn) 1 57 := ⟨by decide +kernel, rfl⟩
theorem dd_X5_eatsNow_52 : jd cX5_eatsNow 52 (.if_icmp .ne 5) 3 55 := ⟨by decide +kernel, rfl⟩
theorem dd_X5_eatsNow_27 : jd cX5_eatsNow 27 (.if_icmp .ge 104) 3 30 := ⟨by decide +kernel, rfl⟩
theorem dd_X5_eatsNow_131 : jd cX5_eatsNow 131 (.iload_n 3) 1 132 := ⟨by decide +kernel, rfl⟩
theorem dd_X5_eatsNow_132 : jd cX5_eatsNow 132 (.ireturn) 1 133 := ⟨by decide +kernel, rfl⟩
theorem m_X5_eatsNow : jmV yX5_eatsNow cX5_eatsNow 9 (some .int) 1 := ⟨⟨(jj_m (w := Cond.code yX5_eatsNow cX5_eatsNow 9 (some .int)) (List.mem_of_getElem? (i := 1112) (by decide +kernel)) rfl), (jj_m (w := Cond.initialized yX5_eatsNow.cls) (List.mem_of_getElem? (i := 69) (by decide +kernel)) rfl), ⟨by decide, by decide⟩, by decide +kernel⟩, (jj_m (w := Cond.instanceMethod yX5_eatsNow) (List.mem_of_getElem? (i := 1111) (by decide +kernel)) rfl), (jj_m (w := Cond.selects yX5_eatsNow.cls yX5_eatsNow yX5_eatsNow) (List.mem_of_getElem? (i := 49) (by decide +kernel)) rfl)⟩
def fX5_eatsNow_L23 (i1 : Int32) (r3 : Int32) (k131 : (Int32 × M2) → Option (Int32 × M2)) : Nat → Int32 → Int32 → Int32 → M2 → Option (Int32 × M2)
  | 0, _, _, _, _ => none
  | n_ + 1, v4, v5, v6, S7 =>
    if r3 ≤ v6 then
      k131 (v5, S7)
    else
      (fX5_mothOf i1 (3 : Int32) S7).bind fun r8 =>
      (fX5_boltAt r8 v6 S7).bind fun r9 =>
      (fX5_of r9 (3 : Int32) S7).bind fun r10 =>
      if r10 = (1 : Int32) then
        some (v5, S7)
      else
        (fX5_doesLike i1 r9 S7).bind fun r11 =>
        jn (α := Option (Int32 × M2)) (β := Int32 × Int32 × M2) (fun j12 =>
          if r11 = 0 then
            j12 (v4, v5, S7)
          else
            (fX5_of r9 (1 : Int32) S7).bind fun r13 =>
            (fX5_of r9 (2 : Int32) S7).bind fun r14 =>
            lt ((r13 - r14)) fun x15 =>
            jn (α := Option (Int32 × M2)) (β := Int32) (fun j16 =>
              if x15 ≤ v4 then
                j16 x15
              else
                j16 v4) (fun p18 => 
              (fX5_of r9 (2 : Int32) S7).bind fun r19 =>
              (fX5_becomesOf r9 (2 : Int32) (r19 + p18) S7).bind fun q20 =>
              lt (q20) fun S21 =>
              lt ((v4 - p18)) fun x22 =>
              lt ((v5 + p18)) fun x23 =>
              j12 (x22, x23, S21))) (fun p25 => 
          lt (v6 + (1 : Int32)) fun x26 =>
          fX5_eatsNow_L23 i1 r3 k131 n_ p25.1 p25.2.1 x26 p25.2.2)

def fX5_eatsNow (i1 : Int32) (S : M2) : Option (Int32 × M2) :=
  (fX5_appetite i1 S).bind fun r1 =>
  (fX5_mothOf i1 (3 : Int32) S).bind fun r2 =>
  (fX5_liesIn r2 S).bind fun r3 =>
  fX5_eatsNow_L23 i1 r3
    (fun p29 =>
      some (p29.1, p29.2))
    400 r1 (0 : Int32) (0 : Int32) S

set_option maxHeartbeats 4000000 in
set_option maxRecDepth 100000 in
theorem tX5_eatsNow_L23 {V : JV M2} {b : Nat} {a : Nat → Nat} (hv : vX5 V b a) (i1 : Int32) (r3 : Int32) {E : JE (M2) Int32} (hE : JOk V E cX5_eatsNow yX5_eatsNow.cls 9 2 (some .int) jj_i) {k131 : (Int32 × M2) → Option (Int32 × M2)} (hk131 : ∀ p, J V E (fun q => (q.1, q.2)) (k131 p) 131 [(3, .int p.1)] [] p.2) : ∀ (n_ : Nat) (v4 : Int32) (v5 : Int32) (v6 : Int32) (S7 : M2), J V E (fun q => (q.1, q.2)) (fX5_eatsNow_L23 i1 r3 k131 n_ v4 v5 v6 S7) 23 [(0, .ref b), (1, .int i1), (2, .int v4), (3, .int v5), (4, .int r3), (5, .int v6)] [] S7 := by
  intro n_
  induction n_ with
  | zero =>
    intros
    exact J_none
  | succ n_ ih =>
    intros v4 v5 v6 S7
    rw [fX5_eatsNow_L23]
    refine J_iload hE dd_X5_eatsNow_23 5 rfl ?_
    refine J_iload hE dd_X5_eatsNow_25 4 rfl ?_
    refine J_icmp_ge hE (tgt := 131) dd_X5_eatsNow_27 (by decide) (fun c28 => ?_) (fun c28 => ?_)
    · refine J_sub [3] rfl ?_
      exact hk131 (v5, S7)
    · refine J_aload_n hE dd_X5_eatsNow_30 0 rfl rfl ?_
      refine J_aload_n hE dd_X5_eatsNow_31 0 rfl rfl ?_
      refine J_iload_n hE dd_X5_eatsNow_32 1 rfl rfl ?_
      refine J_iconst hE (v := (3 : Int32)) dd_X5_eatsNow_33 (by decide) ?_
      refine J_invVri hE (As := [.int i1, .int (3 : Int32)]) (st := [.ref b]) (tX5_mothOf E.2.1 hv S7 i1 (3 : Int32)) (hv.ob _) m_X5_mothOf rfl ml_RX5_158 (Nat.le_of_ble_eq_true rfl) (Nat.le_of_ble_eq_true rfl) rfl (Nat.le_of_ble_eq_true rfl) dd_X5_eatsNow_34 (fun r8 => ?_)
      refine J_iload hE dd_X5_eatsNow_37 5 rfl ?_
      refine J_invVri hE (As := [.int r8, .int v6]) (st := []) (tX5_boltAt E.2.1 hv S7 r8 v6) (hv.ob _) m_X5_boltAt rfl ml_RX5_169 (Nat.le_of_ble_eq_true rfl) (Nat.le_of_ble_eq_true rfl) rfl (Nat.le_of_ble_eq_true rfl) dd_X5_eatsNow_39 (fun r9 => ?_)
      refine J_istore hE (L' := [(6, .int r9), (0, .ref b), (1, .int i1), (2, .int v4), (3, .int v5), (4, .int r3), (5, .int v6)]) dd_X5_eatsNow_42 (Nat.le_of_ble_eq_true rfl) rfl ?_
      refine J_aload_n hE dd_X5_eatsNow_44 1 rfl rfl ?_
      refine J_iload hE dd_X5_eatsNow_45 0 rfl ?_
      refine J_iconst hE (v := (3 : Int32)) dd_X5_eatsNow_47 (by decide) ?_
      refine J_invVri hE (As := [.int r9, .int (3 : Int32)]) (st := []) (tX5_of E.2.1 hv S7 r9 (3 : Int32)) (hv.ob _) m_X5_of rfl ml_RX5_155 (Nat.le_of_ble_eq_true rfl) (Nat.le_of_ble_eq_true rfl) rfl (Nat.le_of_ble_eq_true rfl) dd_X5_eatsNow_48 (fun r10 => ?_)
      refine J_iconst hE (v := (1 : Int32)) dd_X5_eatsNow_51 (by decide) ?_
      refine J_icmp_ne hE (tgt := 57) dd_X5_eatsNow_52 (by decide) (fun c27 => ?_) (fun c27 => ?_)
      · refine J_aload_n hE dd_X5_eatsNow_57 1 rfl rfl ?_
        refine J_iload_n hE dd_X5_eatsNow_58 2 rfl rfl ?_
        refine J_iload hE dd_X5_eatsNow_59 0 rfl ?_
        refine J_invVri hE (As := [.int i1, .int r9]) (st := []) (tX5_doesLike E.2.1 hv S7 i1 r9) (hv.ob _) m_X5_doesLike rfl ml_RX5_172 (Nat.le_of_ble_eq_true rfl) (Nat.le_of_ble_eq_true rfl) rfl (Nat.le_of_ble_eq_true rfl) dd_X5_eatsNow_61 (fun r11 => ?_)
        refine J_jn (m := 125) (Lf := fun p25 => [(0, .ref b), (1, .int i1), (2, .int p25.1), (3, .int p25.2.1), (4, .int r3), (5, .int v6)]) (sf := fun p25 => []) (Xf := fun p25 => p25.2.2) (fun p25 => ?_) (fun hj12 => ?_)
        · show J V E _ _ 125 [(0, .ref b), (1, .int i1), (2, .int p25.1), (3, .int p25.2.1), (4, .int r3), (5, .int v6)] [] p25.2.2
          refine J_iincL hE (v := (v6 + (1 : Int32))) (Lf := fun x26 => [(5, .int x26), (0, .ref b), (1, .int i1), (2, .int p25.1), (3, .int p25.2.1), (4, .int r3)]) dd_X5_eatsNow_125 (j := 5) rfl (congrArg (v6 + ·) (by decide)) (Nat.le_of_ble_eq_true rfl) (fun _ => rfl) (fun x26 => ?_)
          refine J_goto hE (tgt := 23) dd_X5_eatsNow_128 (by decide) ?_
          refine J_sub [1, 2, 3, 4, 5, 0] rfl ?_
          exact ih p25.1 p25.2.1 x26 p25.2.2
        · refine J_if_eq hE (tgt := 125) dd_X5_eatsNow_64 (by decide) (fun c24 => ?_) (fun c24 => ?_)
          · refine J_sub [1, 2, 3, 4, 5, 6] rfl ?_
            exact hj12 (v4, v5, S7)
          · refine J_aload_n hE dd_X5_eatsNow_67 1 rfl rfl ?_
            refine J_iload hE dd_X5_eatsNow_68 0 rfl ?_
            refine J_iconst hE (v := (1 : Int32)) dd_X5_eatsNow_70 (by decide) ?_
            refine J_invVri hE (As := [.int r9, .int (1 : Int32)]) (st := []) (tX5_of E.2.1 hv S7 r9 (1 : Int32)) (hv.ob _) m_X5_of rfl ml_RX5_155 (Nat.le_of_ble_eq_true rfl) (Nat.le_of_ble_eq_true rfl) rfl (Nat.le_of_ble_eq_true rfl) dd_X5_eatsNow_71 (fun r13 => ?_)
            refine J_aload_n hE dd_X5_eatsNow_74 1 rfl rfl ?_
            refine J_iload hE dd_X5_eatsNow_75 0 rfl ?_
            refine J_iconst hE (v := (2 : Int32)) dd_X5_eatsNow_77 (by decide) ?_
            refine J_invVri hE (As := [.int r9, .int (2 : Int32)]) (st := [.int r13]) (tX5_of E.2.1 hv S7 r9 (2 : Int32)) (hv.ob _) m_X5_of rfl ml_RX5_155 (Nat.le_of_ble_eq_true rfl) (Nat.le_of_ble_eq_true rfl) rfl (Nat.le_of_ble_eq_true rfl) dd_X5_eatsNow_78 (fun r14 => ?_)
            refine J_isub hE dd_X5_eatsNow_81 ?_
            refine J_leti (fun x15 => ?_)
            refine J_istore hE (L' := [(7, .int x15), (6, .int r9), (0, .ref b), (1, .int i1), (2, .int v4), (3, .int v5), (4, .int r3), (5, .int v6)]) dd_X5_eatsNow_82 (Nat.le_of_ble_eq_true rfl) rfl ?_
            refine J_iload_n hE dd_X5_eatsNow_84 4 rfl rfl ?_
            refine J_iload hE dd_X5_eatsNow_85 0 rfl ?_
            refine J_jn (m := 96) (Lf := fun p18 => [(0, .ref b), (1, .int i1), (2, .int v4), (3, .int v5), (4, .int r3), (5, .int v6), (6, .int r9)]) (sf := fun p18 => [.int p18]) (Xf := fun p18 => S7) (fun p18 => ?_) (fun hj16 => ?_)
            · show J V E _ _ 96 [(0, .ref b), (1, .int i1), (2, .int v4), (3, .int v5), (4, .int r3), (5, .int v6), (6, .int r9)] [.int p18] S7
              refine J_istore hE (L' := [(8, .int p18), (0, .ref b), (1, .int i1), (2, .int v4), (3, .int v5), (4, .int r3), (5, .int v6), (6, .int r9)]) dd_X5_eatsNow_96 (Nat.le_of_ble_eq_true rfl) rfl ?_
              refine J_aload_n hE dd_X5_eatsNow_98 1 rfl rfl ?_
              refine J_iload hE dd_X5_eatsNow_99 7 rfl ?_
              refine J_iconst hE (v := (2 : Int32)) dd_X5_eatsNow_101 (by decide) ?_
              refine J_aload_n hE dd_X5_eatsNow_102 1 rfl rfl ?_
              refine J_iload hE dd_X5_eatsNow_103 7 rfl ?_
              refine J_iconst hE (v := (2 : Int32)) dd_X5_eatsNow_105 (by decide) ?_
              refine J_invVri hE (As := [.int r9, .int (2 : Int32)]) (st := [.int (2 : Int32), .int r9, .ref b]) (tX5_of E.2.1 hv S7 r9 (2 : Int32)) (hv.ob _) m_X5_of rfl ml_RX5_155 (Nat.le_of_ble_eq_true rfl) (Nat.le_of_ble_eq_true rfl) rfl (Nat.le_of_ble_eq_true rfl) dd_X5_eatsNow_106 (fun r19 => ?_)
              refine J_iload hE dd_X5_eatsNow_109 0 rfl ?_
              refine J_iadd hE dd_X5_eatsNow_111 ?_
              refine J_invVwv hE (e := fun x => x) (As := [.int r9, .int (2 : Int32), .int (r19 + p18)]) (st := []) (tX5_becomesOf E.2.1 hv S7 r9 (2 : Int32) (r19 + p18)) (hv.ob _) m_X5_becomesOf rfl ml_RX5_176 (Nat.le_of_ble_eq_true rfl) (Nat.le_of_ble_eq_true rfl) rfl (Nat.le_of_ble_eq_true rfl) dd_X5_eatsNow_112 (fun q20 => ?_)
              refine J_letS (fun S21 => ?_)
              refine J_iload_n hE dd_X5_eatsNow_115 3 rfl rfl ?_
              refine J_iload hE dd_X5_eatsNow_116 0 rfl ?_
              refine J_isub hE dd_X5_eatsNow_118 ?_
              refine J_leti (fun x22 => ?_)
              refine J_istore_n hE (L' := [(2, .int x22), (8, .int p18), (0, .ref b), (1, .int i1), (3, .int v5), (4, .int r3), (5, .int v6), (6, .int r9)]) dd_X5_eatsNow_119 (Nat.le_of_ble_eq_true rfl) rfl rfl ?_
              refine J_iload_n hE dd_X5_eatsNow_120 4 rfl rfl ?_
              refine J_iload hE dd_X5_eatsNow_121 1 rfl ?_
              refine J_iadd hE dd_X5_eatsNow_123 ?_
              refine J_leti (fun x23 => ?_)
              refine J_istore_n hE (L' := [(3, .int x23), (2, .int x22), (8, .int p18), (0, .ref b), (1, .int i1), (4, .int r3), (5, .int v6), (6, .int r9)]) dd_X5_eatsNow_124 (Nat.le_of_ble_eq_true rfl) rfl rfl ?_
              refine J_sub [3, 4, 1, 0, 5, 6] rfl ?_
              exact hj12 (x22, x23, S21)
            · refine J_icmp_ge hE (tgt := 94) dd_X5_eatsNow_87 (by decide) (fun c17 => ?_) (fun c17 => ?_)
              · refine J_iload hE dd_X5_eatsNow_94 0 rfl ?_
                refine J_sub [2, 3, 4, 5, 6, 7, 1] rfl ?_
                exact hj16 x15
              · refine J_iload_n hE dd_X5_eatsNow_90 4 rfl rfl ?_
                refine J_goto hE (tgt := 96) dd_X5_eatsNow_91 (by decide) ?_
                refine J_sub [2, 3, 4, 5, 6, 7, 1] rfl ?_
                exact hj16 v4
      · refine J_iload_n hE dd_X5_eatsNow_55 4 rfl rfl ?_
        exact J_iret hE dd_X5_eatsNow_56 rfl rfl
set_option maxHeartbeats 4000000 in
set_option maxRecDepth 100000 in
theorem tX5_eatsNow (l : Launch) {V : JV M2} {b : Nat} {a : Nat → Nat} (hv : vX5 V b a) (S : M2) (i1 : Int32) : JC l V yX5_eatsNow cX5_eatsNow 9 (some .int) jj_i 2 [.ref b, .int i1] S ((fX5_eatsNow i1 S).map (fun q => (q.1, q.2))) := by
  refine jj_of (by decide) (Nat.le_of_ble_eq_true rfl) (fun E hlE hE => ?_)
  unfold fX5_eatsNow
  refine J_sub (L' := [(0, .ref b), (1, .int i1)]) [0, 1] rfl ?_
  refine J_aload_n hE dd_X5_eatsNow_0 0 rfl rfl ?_
  refine J_iload_n hE dd_X5_eatsNow_1 1 rfl rfl ?_
  refine J_invVri hE (As := [.int i1]) (st := []) (tX5_appetite E.2.1 hv S i1) (hv.ob _) m_X5_appetite rfl ml_RX5_163 (Nat.le_of_ble_eq_true rfl) (Nat.le_of_ble_eq_true rfl) rfl (Nat.le_of_ble_eq_true rfl) dd_X5_eatsNow_2 (fun r1 => ?_)
  refine J_istore_n hE (L' := [(2, .int r1), (0, .ref b), (1, .int i1)]) dd_X5_eatsNow_5 (Nat.le_of_ble_eq_true rfl) rfl rfl ?_
  refine J_iconst hE (v := (0 : Int32)) dd_X5_eatsNow_6 (by decide) ?_
  refine J_istore_n hE (L' := [(3, .int (0 : Int32)), (2, .int r1), (0, .ref b), (1, .int i1)]) dd_X5_eatsNow_7 (Nat.le_of_ble_eq_true rfl) rfl rfl ?_
  refine J_aload_n hE dd_X5_eatsNow_8 2 rfl rfl ?_
  refine J_aload_n hE dd_X5_eatsNow_9 2 rfl rfl ?_
  refine J_iload_n hE dd_X5_eatsNow_10 3 rfl rfl ?_
  refine J_iconst hE (v := (3 : Int32)) dd_X5_eatsNow_11 (by decide) ?_
  refine J_invVri hE (As := [.int i1, .int (3 : Int32)]) (st := [.ref b]) (tX5_mothOf E.2.1 hv S i1 (3 : Int32)) (hv.ob _) m_X5_mothOf rfl ml_RX5_158 (Nat.le_of_ble_eq_true rfl) (Nat.le_of_ble_eq_true rfl) rfl (Nat.le_of_ble_eq_true rfl) dd_X5_eatsNow_12 (fun r2 => ?_)
  refine J_invVri hE (As := [.int r2]) (st := []) (tX5_liesIn E.2.1 hv S r2) (hv.ob _) m_X5_liesIn rfl ml_RX5_166 (Nat.le_of_ble_eq_true rfl) (Nat.le_of_ble_eq_true rfl) rfl (Nat.le_of_ble_eq_true rfl) dd_X5_eatsNow_15 (fun r3 => ?_)
  refine J_istore hE (L' := [(4, .int r3), (3, .int (0 : Int32)), (2, .int r1), (0, .ref b), (1, .int i1)]) dd_X5_eatsNow_18 (Nat.le_of_ble_eq_true rfl) rfl ?_
  refine J_iconst hE (v := (0 : Int32)) dd_X5_eatsNow_20 (by decide) ?_
  refine J_istore hE (L' := [(5, .int (0 : Int32)), (4, .int r3), (3, .int (0 : Int32)), (2, .int r1), (0, .ref b), (1, .int i1)]) dd_X5_eatsNow_21 (Nat.le_of_ble_eq_true rfl) rfl ?_
  refine J_sub [4, 5, 3, 2, 1, 0] rfl ?_
  refine tX5_eatsNow_L23 hv i1 r3 hE (fun p29 => ?_) 400 r1 (0 : Int32) (0 : Int32) S
  show J V E _ _ 131 [(3, .int p29.1)] [] p29.2
  refine J_iload_n hE dd_X5_eatsNow_131 0 rfl rfl ?_
  exact J_iret hE dd_X5_eatsNow_132 rfl rfl
theorem dd_X5_nightGoes_0 : jd cX5_nightGoes 0 (.iconst 0) 1 1 := ⟨by decide +kernel, rfl⟩
theorem dd_X5_nightGoes_1 : jd cX5_nightGoes 1 (.istore_n 2) 1 2 := ⟨by decide +kernel, rfl⟩
theorem dd_X5_nightGoes_2 : jd cX5_nightGoes 2 (.iload_n 2) 1 3 := ⟨by decide +kernel, rfl⟩
theorem dd_X5_nightGoes_3 : jd cX5_nightGoes 3 (.aload_n 0) 1 4 := ⟨by decide +kernel, rfl⟩
theorem dd_X5_nightGoes_4 : jd cX5_nightGoes 4 (.getfield 66) 3 7 := ⟨by decide +kernel, rfl⟩
theorem dd_X5_nightGoes_10 : jd cX5_nightGoes 10 (.iload_n 1) 1 11 := ⟨by decide +kernel, rfl⟩
theorem dd_X5_nightGoes_11 : jd cX5_nightGoes 11 (.iload_n 2) 1 12 := ⟨by decide +kernel, rfl⟩
theorem dd_X5_nightGoes_12 : jd cX5_nightGoes 12 (.ishr) 1 13 := ⟨by decide +kernel, rfl⟩
theorem dd_X5_nightGoes_13 : jd cX5_nightGoes 13 (.iconst 1) 1 14 := ⟨by decide +kernel, rfl⟩
theorem dd_X5_nightGoes_14 : jd cX5_nightGoes 14 (.iand) 1 15 := ⟨by decide +kernel, rfl⟩
theorem dd_X5_nightGoes_15 : jd cX5_nightGoes 15 (.iconst 1) 1 16 := ⟨by decide +kernel, rfl⟩
theorem dd_X5_nightGoes_19 : jd cX5_nightGoes 19 (.aload_n 0) 1 20 := ⟨by decide +kernel, rfl⟩
theorem dd_X5_nightGoes_20 : jd cX5_nightGoes 20 (.iload_n 2) 1 21 := ⟨by decide +kernel, rfl⟩
theorem ml_RX5_180 : (Cond.methodLink "MothCustomsModel" 180 yX5_eatsNow : Cond) ∈ jj_tb := jj_m (List.mem_of_getElem? (i := 1109) (by decide +kernel)) rfl
theorem dd_X5_nightGoes_21 : jd cX5_nightGoes 21 (.invokevirtual 180) 3 24 := ⟨by decide +kernel, rfl⟩
theorem dd_X5_nightGoes_24 : jd cX5_nightGoes 24 (.pop) 1 25 := ⟨by decide +kernel, rfl⟩
theorem dd_X5_nightGoes_16 : jd cX5_nightGoes 16 (.if_icmp .ne 9) 3 19 := ⟨by decide +kernel, rfl⟩
theorem dd_X5_nightGoes_25 : jd cX5_nightGoes 25 (.iinc 2 1) 3 28 := ⟨by decide +kernel, rfl⟩
theorem dd_X5_nightGoes_28 : jd cX5_nightGoes 28 (.goto (-26)) 3 31 := ⟨by decide +kernel, rfl⟩
theorem dd_X5_nightGoes_7 : jd cX5_nightGoes 7 (.if_icmp .ge 24) 3 10 := ⟨by decide +kernel, rfl⟩
theorem dd_X5_nightGoes_31 : jd cX5_nightGoes 31 (.aload_n 0) 1 32 := ⟨by decide +kernel, rfl⟩
theorem dd_X5_nightGoes_32 : jd cX5_nightGoes 32 (.getfield 13) 3 35 := ⟨by decide +kernel, rfl⟩
theorem dd_X5_nightGoes_35 : jd cX5_nightGoes 35 (.bipush 46) 2 37 := ⟨by decide +kernel, rfl⟩
theorem dd_X5_nightGoes_37 : jd cX5_nightGoes 37 (.aload_n 0) 1 38 := ⟨by decide +kernel, rfl⟩
theorem dd_X5_nightGoes_38 : jd cX5_nightGoes 38 (.getfield 13) 3 41 := ⟨by decide +kernel, rfl⟩
theorem dd_X5_nightGoes_41 : jd cX5_nightGoes 41 (.bipush 46) 2 43 := ⟨by decide +kernel, rfl⟩
theorem dd_X5_nightGoes_43 : jd cX5_nightGoes 43 (.iaload) 1 44 := ⟨by decide +kernel, rfl⟩
theorem dd_X5_nightGoes_44 : jd cX5_nightGoes 44 (.iconst 1) 1 45 := ⟨by decide +kernel, rfl⟩
theorem dd_X5_nightGoes_45 : jd cX5_nightGoes 45 (.iadd) 1 46 := ⟨by decide +kernel, rfl⟩
theorem dd_X5_nightGoes_46 : jd cX5_nightGoes 46 (.iconst 4) 1 47 := ⟨by decide +kernel, rfl⟩
theorem dd_X5_nightGoes_47 : jd cX5_nightGoes 47 (.irem) 1 48 := ⟨by decide +kernel, rfl⟩
theorem dd_X5_nightGoes_48 : jd cX5_nightGoes 48 (.iastore) 1 49 := ⟨by decide +kernel, rfl⟩
theorem dd_X5_nightGoes_49 : jd cX5_nightGoes 49 (.aload_n 0) 1 50 := ⟨by decide +kernel, rfl⟩
theorem dd_X5_nightGoes_50 : jd cX5_nightGoes 50 (.getfield 13) 3 53 := ⟨by decide +kernel, rfl⟩
theorem dd_X5_nightGoes_53 : jd cX5_nightGoes 53 (.bipush 48) 2 55 := ⟨by decide +kernel, rfl⟩
theorem dd_X5_nightGoes_55 : jd cX5_nightGoes 55 (.dup2) 1 56 := ⟨by decide +kernel, rfl⟩
theorem dd_X5_nightGoes_56 : jd cX5_nightGoes 56 (.iaload) 1 57 := ⟨by decide +kernel, rfl⟩
theorem dd_X5_nightGoes_57 : jd cX5_nightGoes 57 (.iconst 1) 1 58 := ⟨by decide +kernel, rfl⟩
theorem dd_X5_nightGoes_58 : jd cX5_nightGoes 58 (.iadd) 1 59 := ⟨by decide +kernel, rfl⟩
theorem dd_X5_nightGoes_59 : jd cX5_nightGoes 59 (.iastore) 1 60 := ⟨by decide +kernel, rfl⟩
theorem dd_X5_nightGoes_60 : jd cX5_nightGoes 60 (.return_) 1 61 := ⟨by decide +kernel, rfl⟩
theorem m_X5_nightGoes : jmV yX5_nightGoes cX5_nightGoes 3 none 1 := ⟨⟨(jj_m (w := Cond.code yX5_nightGoes cX5_nightGoes 3 none) (List.mem_of_getElem? (i := 1108) (by decide +kernel)) rfl), (jj_m (w := Cond.initialized yX5_nightGoes.cls) (List.mem_of_getElem? (i := 69) (by decide +kernel)) rfl), ⟨by decide, by decide⟩, by decide +kernel⟩, (jj_m (w := Cond.instanceMethod yX5_nightGoes) (List.mem_of_getElem? (i := 1107) (by decide +kernel)) rfl), (jj_m (w := Cond.selects yX5_nightGoes.cls yX5_nightGoes yX5_nightGoes) (List.mem_of_getElem? (i := 48) (by decide +kernel)) rfl)⟩
def fX5_nightGoes_L2 (i1 : Int32) (k31 : M2 → Option (M2)) : Nat → Int32 → M2 → Option (M2)
  | 0, _, _ => none
  | n_ + 1, v1, S2 =>
    if (S2 4 0) ≤ v1 then
      k31 S2
    else
      jn (α := Option (M2)) (β := M2) (fun j3 =>
        if ((i1 >>> (v1 &&& 31)) &&& (1 : Int32)) = (1 : Int32) then
          (fX5_eatsNow v1 S2).bind fun q4 =>
          lt (q4.2) fun S5 =>
          j3 S5
        else
          j3 S2) (fun p7 => 
        lt (v1 + (1 : Int32)) fun x8 =>
        fX5_nightGoes_L2 i1 k31 n_ x8 p7)

def fX5_nightGoes (i1 : Int32) (S : M2) : Option (M2) :=
  fX5_nightGoes_L2 i1
    (fun p10 =>
      bnd (46 : Int32) 62 <|
      if (4 : Int32) = 0 then none else
      bnd (46 : Int32) 62 <|
      lt (va_up p10 1 (upd (p10 1) (46 : Int32).toNatClampNeg (((p10 1 (46 : Int32).toNatClampNeg) + (1 : Int32)) - ((p10 1 (46 : Int32).toNatClampNeg) + (1 : Int32)) / (4 : Int32) * (4 : Int32)))) fun S11 =>
      bnd (48 : Int32) 62 <|
      bnd (48 : Int32) 62 <|
      lt (va_up S11 1 (upd (S11 1) (48 : Int32).toNatClampNeg ((S11 1 (48 : Int32).toNatClampNeg) + (1 : Int32)))) fun S12 =>
      some S12)
    400 (0 : Int32) S

set_option maxHeartbeats 4000000 in
set_option maxRecDepth 100000 in
theorem tX5_nightGoes_L2 {V : JV M2} {b : Nat} {a : Nat → Nat} (hv : vX5 V b a) (i1 : Int32) {E : JE (M2) Unit} (hE : JOk V E cX5_nightGoes yX5_nightGoes.cls 3 3 none jj_v) {k31 : M2 → Option (M2)} (hk31 : ∀ p, J V E (fun q => ((), q)) (k31 p) 31 [(0, .ref b)] [] p) : ∀ (n_ : Nat) (v1 : Int32) (S2 : M2), J V E (fun q => ((), q)) (fX5_nightGoes_L2 i1 k31 n_ v1 S2) 2 [(0, .ref b), (1, .int i1), (2, .int v1)] [] S2 := by
  intro n_
  induction n_ with
  | zero =>
    intros
    exact J_none
  | succ n_ ih =>
    intros v1 S2
    rw [fX5_nightGoes_L2]
    refine J_iload_n hE dd_X5_nightGoes_2 2 rfl rfl ?_
    refine J_aload_n hE dd_X5_nightGoes_3 0 rfl rfl ?_
    refine J_get hE (hv.ob _) jc_X5 4 (by decide) fl_RX5_66 (v := .int (S2 4 0)) rfl dd_X5_nightGoes_4 ?_
    refine J_icmp_ge hE (tgt := 31) dd_X5_nightGoes_7 (by decide) (fun c9 => ?_) (fun c9 => ?_)
    · refine J_sub [0] rfl ?_
      exact hk31 S2
    · refine J_iload_n hE dd_X5_nightGoes_10 1 rfl rfl ?_
      refine J_iload_n hE dd_X5_nightGoes_11 2 rfl rfl ?_
      refine J_ishr hE dd_X5_nightGoes_12 ?_
      refine J_iconst hE (v := (1 : Int32)) dd_X5_nightGoes_13 (by decide) ?_
      refine J_iand hE dd_X5_nightGoes_14 ?_
      refine J_iconst hE (v := (1 : Int32)) dd_X5_nightGoes_15 (by decide) ?_
      refine J_jn (m := 25) (Lf := fun p7 => [(0, .ref b), (1, .int i1), (2, .int v1)]) (sf := fun p7 => []) (Xf := fun p7 => p7) (fun p7 => ?_) (fun hj3 => ?_)
      · show J V E _ _ 25 [(0, .ref b), (1, .int i1), (2, .int v1)] [] p7
        refine J_iincL hE (v := (v1 + (1 : Int32))) (Lf := fun x8 => [(2, .int x8), (0, .ref b), (1, .int i1)]) dd_X5_nightGoes_25 (j := 2) rfl (congrArg (v1 + ·) (by decide)) (Nat.le_of_ble_eq_true rfl) (fun _ => rfl) (fun x8 => ?_)
        refine J_goto hE (tgt := 2) dd_X5_nightGoes_28 (by decide) ?_
        refine J_sub [1, 2, 0] rfl ?_
        exact ih x8 p7
      · refine J_icmp_ne hE (tgt := 25) dd_X5_nightGoes_16 (by decide) (fun c6 => ?_) (fun c6 => ?_)
        · refine J_sub [0, 1, 2] rfl ?_
          exact hj3 S2
        · refine J_aload_n hE dd_X5_nightGoes_19 0 rfl rfl ?_
          refine J_iload_n hE dd_X5_nightGoes_20 2 rfl rfl ?_
          refine J_invVwi hE (e := fun x => x) (As := [.int v1]) (st := []) (tX5_eatsNow E.2.1 hv S2 v1) (hv.ob _) m_X5_eatsNow rfl ml_RX5_180 (Nat.le_of_ble_eq_true rfl) (Nat.le_of_ble_eq_true rfl) rfl (Nat.le_of_ble_eq_true rfl) dd_X5_nightGoes_21 (fun q4 => ?_)
          refine J_letS (fun S5 => ?_)
          refine J_pop hE dd_X5_nightGoes_24 rfl ?_
          refine J_sub [0, 1, 2] rfl ?_
          exact hj3 S5
set_option maxHeartbeats 4000000 in
set_option maxRecDepth 100000 in
theorem tX5_nightGoes (l : Launch) {V : JV M2} {b : Nat} {a : Nat → Nat} (hv : vX5 V b a) (S : M2) (i1 : Int32) : JC l V yX5_nightGoes cX5_nightGoes 3 none jj_v 3 [.ref b, .int i1] S ((fX5_nightGoes i1 S).map (fun q => ((), q))) := by
  refine jj_of (by decide) (Nat.le_of_ble_eq_true rfl) (fun E hlE hE => ?_)
  unfold fX5_nightGoes
  refine J_sub (L' := [(0, .ref b), (1, .int i1)]) [0, 1] rfl ?_
  refine J_iconst hE (v := (0 : Int32)) dd_X5_nightGoes_0 (by decide) ?_
  refine J_istore_n hE (L' := [(2, .int (0 : Int32)), (0, .ref b), (1, .int i1)]) dd_X5_nightGoes_1 (Nat.le_of_ble_eq_true rfl) rfl rfl ?_
  refine J_sub [1, 2, 0] rfl ?_
  refine tX5_nightGoes_L2 hv i1 hE (fun p10 => ?_) 400 (0 : Int32) S
  show J V E _ _ 31 [(0, .ref b)] [] p10
  refine J_aload_n hE dd_X5_nightGoes_31 0 rfl rfl ?_
  refine J_get hE (hv.ob _) jc_X5 1 (by decide) fl_RX5_13 (v := .ref (a 1)) rfl dd_X5_nightGoes_32 ?_
  refine J_bipush hE (v := (46 : Int32)) dd_X5_nightGoes_35 (by decide) ?_
  refine J_aload_n hE dd_X5_nightGoes_37 0 rfl rfl ?_
  refine J_get hE (hv.ob _) jc_X5 1 (by decide) fl_RX5_13 (v := .ref (a 1)) rfl dd_X5_nightGoes_38 ?_
  refine J_bipush hE (v := (46 : Int32)) dd_X5_nightGoes_41 (by decide) ?_
  refine J_ald hE (hv.arr 1 (n := 62) (ty := .int) (by decide) _) dd_X5_nightGoes_43 ?_
  refine J_iconst hE (v := (1 : Int32)) dd_X5_nightGoes_44 (by decide) ?_
  refine J_iadd hE dd_X5_nightGoes_45 ?_
  refine J_iconst hE (v := (4 : Int32)) dd_X5_nightGoes_46 (by decide) ?_
  refine J_irem hE dd_X5_nightGoes_47 (fun _ => ?_)
  refine J_ast hE hv 1 (N := 62) (by decide) dd_X5_nightGoes_48 ?_
  refine J_letS (fun S11 => ?_)
  refine J_aload_n hE dd_X5_nightGoes_49 0 rfl rfl ?_
  refine J_get hE (hv.ob _) jc_X5 1 (by decide) fl_RX5_13 (v := .ref (a 1)) rfl dd_X5_nightGoes_50 ?_
  refine J_bipush hE (v := (48 : Int32)) dd_X5_nightGoes_53 (by decide) ?_
  refine J_dup2 hE dd_X5_nightGoes_55 rfl rfl ?_
  refine J_ald hE (hv.arr 1 (n := 62) (ty := .int) (by decide) _) dd_X5_nightGoes_56 ?_
  refine J_iconst hE (v := (1 : Int32)) dd_X5_nightGoes_57 (by decide) ?_
  refine J_iadd hE dd_X5_nightGoes_58 ?_
  refine J_ast hE hv 1 (N := 62) (by decide) dd_X5_nightGoes_59 ?_
  refine J_letS (fun S12 => ?_)
  exact J_vret hE dd_X5_nightGoes_60 rfl rfl
theorem dd_X5_everyMoth_0 : jd cX5_everyMoth 0 (.iconst 1) 1 1 := ⟨by decide +kernel, rfl⟩
theorem dd_X5_everyMoth_1 : jd cX5_everyMoth 1 (.aload_n 0) 1 2 := ⟨by decide +kernel, rfl⟩
theorem dd_X5_everyMoth_2 : jd cX5_everyMoth 2 (.getfield 66) 3 5 := ⟨by decide +kernel, rfl⟩
theorem dd_X5_everyMoth_5 : jd cX5_everyMoth 5 (.ishl) 1 6 := ⟨by decide +kernel, rfl⟩
theorem dd_X5_everyMoth_6 : jd cX5_everyMoth 6 (.iconst 1) 1 7 := ⟨by decide +kernel, rfl⟩
theorem dd_X5_everyMoth_7 : jd cX5_everyMoth 7 (.isub) 1 8 := ⟨by decide +kernel, rfl⟩
theorem dd_X5_everyMoth_8 : jd cX5_everyMoth 8 (.ireturn) 1 9 := ⟨by decide +kernel, rfl⟩
theorem m_X5_everyMoth : jmV yX5_everyMoth cX5_everyMoth 1 (some .int) 0 := ⟨⟨(jj_m (w := Cond.code yX5_everyMoth cX5_everyMoth 1 (some .int)) (List.mem_of_getElem? (i := 1104) (by decide +kernel)) rfl), (jj_m (w := Cond.initialized yX5_everyMoth.cls) (List.mem_of_getElem? (i := 69) (by decide +kernel)) rfl), ⟨by decide, by decide⟩, by decide +kernel⟩, (jj_m (w := Cond.instanceMethod yX5_everyMoth) (List.mem_of_getElem? (i := 1103) (by decide +kernel)) rfl), (jj_m (w := Cond.selects yX5_everyMoth.cls yX5_everyMoth yX5_everyMoth) (List.mem_of_getElem? (i := 47) (by decide +kernel)) rfl)⟩
def fX5_everyMoth  (S : M2) : Option (Int32) :=
  some (((1 : Int32) <<< ((S 4 0) &&& 31)) - (1 : Int32))

set_option maxHeartbeats 4000000 in
set_option maxRecDepth 100000 in
theorem tX5_everyMoth (l : Launch) {V : JV M2} {b : Nat} {a : Nat → Nat} (hv : vX5 V b a) (S : M2)  : JC l V yX5_everyMoth cX5_everyMoth 1 (some .int) jj_i 0 [.ref b] S ((fX5_everyMoth  S).map (fun r => (r, S))) := by
  refine jj_of (by decide) (Nat.le_of_ble_eq_true rfl) (fun E hlE hE => ?_)
  unfold fX5_everyMoth
  refine J_sub (L' := [(0, .ref b)]) [0] rfl ?_
  refine J_iconst hE (v := (1 : Int32)) dd_X5_everyMoth_0 (by decide) ?_
  refine J_aload_n hE dd_X5_everyMoth_1 0 rfl rfl ?_
  refine J_get hE (hv.ob _) jc_X5 4 (by decide) fl_RX5_66 (v := .int (S 4 0)) rfl dd_X5_everyMoth_2 ?_
  refine J_ishl hE dd_X5_everyMoth_5 ?_
  refine J_iconst hE (v := (1 : Int32)) dd_X5_everyMoth_6 (by decide) ?_
  refine J_isub hE dd_X5_everyMoth_7 ?_
  exact J_iret hE dd_X5_everyMoth_8 rfl rfl
theorem dd_X5_nightsGo_0 : jd cX5_nightsGo 0 (.iconst 0) 1 1 := ⟨by decide +kernel, rfl⟩
theorem dd_X5_nightsGo_1 : jd cX5_nightsGo 1 (.istore_n 2) 1 2 := ⟨by decide +kernel, rfl⟩
theorem dd_X5_nightsGo_2 : jd cX5_nightsGo 2 (.iload_n 2) 1 3 := ⟨by decide +kernel, rfl⟩
theorem dd_X5_nightsGo_3 : jd cX5_nightsGo 3 (.iload_n 1) 1 4 := ⟨by decide +kernel, rfl⟩
theorem dd_X5_nightsGo_7 : jd cX5_nightsGo 7 (.aload_n 0) 1 8 := ⟨by decide +kernel, rfl⟩
theorem dd_X5_nightsGo_8 : jd cX5_nightsGo 8 (.aload_n 0) 1 9 := ⟨by decide +kernel, rfl⟩
theorem ml_RX5_183 : (Cond.methodLink "MothCustomsModel" 183 yX5_everyMoth : Cond) ∈ jj_tb := jj_m (List.mem_of_getElem? (i := 1101) (by decide +kernel)) rfl
theorem dd_X5_nightsGo_9 : jd cX5_nightsGo 9 (.invokevirtual 183) 3 12 := ⟨by decide +kernel, rfl⟩
theorem ml_RX5_186 : (Cond.methodLink "MothCustomsModel" 186 yX5_nightGoes : Cond) ∈ jj_tb := jj_m (List.mem_of_getElem? (i := 1105) (by decide +kernel)) rfl
theorem dd_X5_nightsGo_12 : jd cX5_nightsGo 12 (.invokevirtual 186) 3 15 := ⟨by decide +kernel, rfl⟩
theorem dd_X5_nightsGo_15 : jd cX5_nightsGo 15 (.iinc 2 1) 3 18 := ⟨by decide +kernel, rfl⟩
theorem dd_X5_nightsGo_18 : jd cX5_nightsGo 18 (.goto (-16)) 3 21 := ⟨by decide +kernel, rfl⟩
theorem dd_X5_nightsGo_4 : jd cX5_nightsGo 4 (.if_icmp .ge 17) 3 7 := ⟨by decide +kernel, rfl⟩
theorem dd_X5_nightsGo_21 : jd cX5_nightsGo 21 (.return_) 1 22 := ⟨by decide +kernel, rfl⟩
theorem m_X5_nightsGo : jmV yX5_nightsGo cX5_nightsGo 3 none 1 := ⟨⟨(jj_m (w := Cond.code yX5_nightsGo cX5_nightsGo 3 none) (List.mem_of_getElem? (i := 1100) (by decide +kernel)) rfl), (jj_m (w := Cond.initialized yX5_nightsGo.cls) (List.mem_of_getElem? (i := 69) (by decide +kernel)) rfl), ⟨by decide, by decide⟩, by decide +kernel⟩, (jj_m (w := Cond.instanceMethod yX5_nightsGo) (List.mem_of_getElem? (i := 1099) (by decide +kernel)) rfl), (jj_m (w := Cond.selects yX5_nightsGo.cls yX5_nightsGo yX5_nightsGo) (List.mem_of_getElem? (i := 46) (by decide +kernel)) rfl)⟩
def fX5_nightsGo_L2 (i1 : Int32) (k21 : M2 → Option (M2)) : Nat → Int32 → M2 → Option (M2)
  | 0, _, _ => none
  | n_ + 1, v1, S2 =>
    if i1 ≤ v1 then
      k21 S2
    else
      (fX5_everyMoth  S2).bind fun r3 =>
      (fX5_nightGoes r3 S2).bind fun q4 =>
      lt (q4) fun S5 =>
      lt (v1 + (1 : Int32)) fun x6 =>
      fX5_nightsGo_L2 i1 k21 n_ x6 S5

def fX5_nightsGo (i1 : Int32) (S : M2) : Option (M2) :=
  fX5_nightsGo_L2 i1
    (fun p8 =>
      some p8)
    400 (0 : Int32) S

set_option maxHeartbeats 4000000 in
set_option maxRecDepth 100000 in
theorem tX5_nightsGo_L2 {V : JV M2} {b : Nat} {a : Nat → Nat} (hv : vX5 V b a) (i1 : Int32) {E : JE (M2) Unit} (hE : JOk V E cX5_nightsGo yX5_nightsGo.cls 3 4 none jj_v) {k21 : M2 → Option (M2)} (hk21 : ∀ p, J V E (fun q => ((), q)) (k21 p) 21 [] [] p) : ∀ (n_ : Nat) (v1 : Int32) (S2 : M2), J V E (fun q => ((), q)) (fX5_nightsGo_L2 i1 k21 n_ v1 S2) 2 [(0, .ref b), (1, .int i1), (2, .int v1)] [] S2 := by
  intro n_
  induction n_ with
  | zero =>
    intros
    exact J_none
  | succ n_ ih =>
    intros v1 S2
    rw [fX5_nightsGo_L2]
    refine J_iload_n hE dd_X5_nightsGo_2 2 rfl rfl ?_
    refine J_iload_n hE dd_X5_nightsGo_3 1 rfl rfl ?_
    refine J_icmp_ge hE (tgt := 21) dd_X5_nightsGo_4 (by decide) (fun c7 => ?_) (fun c7 => ?_)
    · refine J_sub [] rfl ?_
      exact hk21 S2
    · refine J_aload_n hE dd_X5_nightsGo_7 0 rfl rfl ?_
      refine J_aload_n hE dd_X5_nightsGo_8 0 rfl rfl ?_
      refine J_invVri hE (As := []) (st := [.ref b]) (tX5_everyMoth E.2.1 hv S2 ) (hv.ob _) m_X5_everyMoth rfl ml_RX5_183 (Nat.le_of_ble_eq_true rfl) (Nat.le_of_ble_eq_true rfl) rfl (Nat.le_of_ble_eq_true rfl) dd_X5_nightsGo_9 (fun r3 => ?_)
      refine J_invVwv hE (e := fun x => x) (As := [.int r3]) (st := []) (tX5_nightGoes E.2.1 hv S2 r3) (hv.ob _) m_X5_nightGoes rfl ml_RX5_186 (Nat.le_of_ble_eq_true rfl) (Nat.le_of_ble_eq_true rfl) rfl (Nat.le_of_ble_eq_true rfl) dd_X5_nightsGo_12 (fun q4 => ?_)
      refine J_letS (fun S5 => ?_)
      refine J_iincL hE (v := (v1 + (1 : Int32))) (Lf := fun x6 => [(2, .int x6), (0, .ref b), (1, .int i1)]) dd_X5_nightsGo_15 (j := 2) rfl (congrArg (v1 + ·) (by decide)) (Nat.le_of_ble_eq_true rfl) (fun _ => rfl) (fun x6 => ?_)
      refine J_goto hE (tgt := 2) dd_X5_nightsGo_18 (by decide) ?_
      refine J_sub [1, 2, 0] rfl ?_
      exact ih x6 S5
set_option maxHeartbeats 4000000 in
set_option maxRecDepth 100000 in
theorem tX5_nightsGo (l : Launch) {V : JV M2} {b : Nat} {a : Nat → Nat} (hv : vX5 V b a) (S : M2) (i1 : Int32) : JC l V yX5_nightsGo cX5_nightsGo 3 none jj_v 4 [.ref b, .int i1] S ((fX5_nightsGo i1 S).map (fun q => ((), q))) := by
  refine jj_of (by decide) (Nat.le_of_ble_eq_true rfl) (fun E hlE hE => ?_)
  unfold fX5_nightsGo
  refine J_sub (L' := [(0, .ref b), (1, .int i1)]) [0, 1] rfl ?_
  refine J_iconst hE (v := (0 : Int32)) dd_X5_nightsGo_0 (by decide) ?_
  refine J_istore_n hE (L' := [(2, .int (0 : Int32)), (0, .ref b), (1, .int i1)]) dd_X5_nightsGo_1 (Nat.le_of_ble_eq_true rfl) rfl rfl ?_
  refine J_sub [1, 2, 0] rfl ?_
  refine tX5_nightsGo_L2 hv i1 hE (fun p8 => ?_) 400 (0 : Int32) S
  show J V E _ _ 21 [] [] p8
  exact J_vret hE dd_X5_nightsGo_21 rfl rfl
theorem dd_X5_dutyOf_0 : jd cX5_dutyOf 0 (.iconst 0) 1 1 := ⟨by decide +kernel, rfl⟩
theorem dd_X5_dutyOf_1 : jd cX5_dutyOf 1 (.istore_n 2) 1 2 := ⟨by decide +kernel, rfl⟩
theorem dd_X5_dutyOf_2 : jd cX5_dutyOf 2 (.aload_n 0) 1 3 := ⟨by decide +kernel, rfl⟩
theorem dd_X5_dutyOf_3 : jd cX5_dutyOf 3 (.iload_n 1) 1 4 := ⟨by decide +kernel, rfl⟩
theorem dd_X5_dutyOf_4 : jd cX5_dutyOf 4 (.invokevirtual 166) 3 7 := ⟨by decide +kernel, rfl⟩
theorem dd_X5_dutyOf_7 : jd cX5_dutyOf 7 (.istore_n 3) 1 8 := ⟨by decide +kernel, rfl⟩
theorem dd_X5_dutyOf_8 : jd cX5_dutyOf 8 (.iconst 0) 1 9 := ⟨by decide +kernel, rfl⟩
theorem dd_X5_dutyOf_9 : jd cX5_dutyOf 9 (.istore 4) 2 11 := ⟨by decide +kernel, rfl⟩
theorem dd_X5_dutyOf_11 : jd cX5_dutyOf 11 (.iload 4) 2 13 := ⟨by decide +kernel, rfl⟩
theorem dd_X5_dutyOf_13 : jd cX5_dutyOf 13 (.iload_n 3) 1 14 := ⟨by decide +kernel, rfl⟩
theorem dd_X5_dutyOf_17 : jd cX5_dutyOf 17 (.aload_n 0) 1 18 := ⟨by decide +kernel, rfl⟩
theorem dd_X5_dutyOf_18 : jd cX5_dutyOf 18 (.aload_n 0) 1 19 := ⟨by decide +kernel, rfl⟩
theorem dd_X5_dutyOf_19 : jd cX5_dutyOf 19 (.iload_n 1) 1 20 := ⟨by decide +kernel, rfl⟩
theorem dd_X5_dutyOf_20 : jd cX5_dutyOf 20 (.iload 4) 2 22 := ⟨by decide +kernel, rfl⟩
theorem dd_X5_dutyOf_22 : jd cX5_dutyOf 22 (.invokevirtual 169) 3 25 := ⟨by decide +kernel, rfl⟩
theorem dd_X5_dutyOf_25 : jd cX5_dutyOf 25 (.iconst 2) 1 26 := ⟨by decide +kernel, rfl⟩
theorem dd_X5_dutyOf_26 : jd cX5_dutyOf 26 (.invokevirtual 155) 3 29 := ⟨by decide +kernel, rfl⟩
theorem dd_X5_dutyOf_29 : jd cX5_dutyOf 29 (.istore 5) 2 31 := ⟨by decide +kernel, rfl⟩
theorem dd_X5_dutyOf_31 : jd cX5_dutyOf 31 (.iload 4) 2 33 := ⟨by decide +kernel, rfl⟩
theorem dd_X5_dutyOf_40 : jd cX5_dutyOf 40 (.aload_n 0) 1 41 := ⟨by decide +kernel, rfl⟩
theorem dd_X5_dutyOf_41 : jd cX5_dutyOf 41 (.aload_n 0) 1 42 := ⟨by decide +kernel, rfl⟩
theorem dd_X5_dutyOf_42 : jd cX5_dutyOf 42 (.iload_n 1) 1 43 := ⟨by decide +kernel, rfl⟩
theorem dd_X5_dutyOf_43 : jd cX5_dutyOf 43 (.iload 4) 2 45 := ⟨by decide +kernel, rfl⟩
theorem dd_X5_dutyOf_45 : jd cX5_dutyOf 45 (.iconst 1) 1 46 := ⟨by decide +kernel, rfl⟩
theorem dd_X5_dutyOf_46 : jd cX5_dutyOf 46 (.isub) 1 47 := ⟨by decide +kernel, rfl⟩
theorem dd_X5_dutyOf_47 : jd cX5_dutyOf 47 (.invokevirtual 169) 3 50 := ⟨by decide +kernel, rfl⟩
theorem dd_X5_dutyOf_50 : jd cX5_dutyOf 50 (.iconst 2) 1 51 := ⟨by decide +kernel, rfl⟩
theorem dd_X5_dutyOf_51 : jd cX5_dutyOf 51 (.invokevirtual 155) 3 54 := ⟨by decide +kernel, rfl⟩
theorem dd_X5_dutyOf_36 : jd cX5_dutyOf 36 (.iconst 0) 1 37 := ⟨by decide +kernel, rfl⟩
theorem dd_X5_dutyOf_37 : jd cX5_dutyOf 37 (.goto 17) 3 40 := ⟨by decide +kernel, rfl⟩
theorem dd_X5_dutyOf_33 : jd cX5_dutyOf 33 (.ifCond .ne 7) 3 36 := ⟨by decide +kernel, rfl⟩
theorem dd_X5_dutyOf_54 : jd cX5_dutyOf 54 (.istore 6) 2 56 := ⟨by decide +kernel, rfl⟩
theorem dd_X5_dutyOf_56 : jd cX5_dutyOf 56 (.iload_n 2) 1 57 := ⟨by decide +kernel, rfl⟩
theorem dd_X5_dutyOf_57 : jd cX5_dutyOf 57 (.iload 5) 2 59 := ⟨by decide +kernel, rfl⟩
theorem dd_X5_dutyOf_59 : jd cX5_dutyOf 59 (.iload 5) 2 61 := ⟨by decide +kernel, rfl⟩
theorem dd_X5_dutyOf_61 : jd cX5_dutyOf 61 (.iload 6) 2 63 := ⟨by decide +kernel, rfl⟩
theorem dd_X5_dutyOf_71 : jd cX5_dutyOf 71 (.iload 6) 2 73 := ⟨by decide +kernel, rfl⟩
theorem dd_X5_dutyOf_66 : jd cX5_dutyOf 66 (.iload 5) 2 68 := ⟨by decide +kernel, rfl⟩
theorem dd_X5_dutyOf_68 : jd cX5_dutyOf 68 (.goto 5) 3 71 := ⟨by decide +kernel, rfl⟩
theorem dd_X5_dutyOf_63 : jd cX5_dutyOf 63 (.if_icmp .ge 8) 3 66 := ⟨by decide +kernel, rfl⟩
theorem dd_X5_dutyOf_73 : jd cX5_dutyOf 73 (.isub) 1 74 := ⟨by decide +kernel, rfl⟩
theorem dd_X5_dutyOf_74 : jd cX5_dutyOf 74 (.iadd) 1 75 := ⟨by decide +kernel, rfl⟩
theorem dd_X5_dutyOf_75 : jd cX5_dutyOf 75 (.istore_n 2) 1 76 := ⟨by decide +kernel, rfl⟩
theorem dd_X5_dutyOf_76 : jd cX5_dutyOf 76 (.iinc 4 1) 3 79 := ⟨by decide +kernel, rfl⟩
theorem dd_X5_dutyOf_79 : jd cX5_dutyOf 79 (.goto (-68)) 3 82 := ⟨by decide +kernel, rfl⟩
theorem dd_X5_dutyOf_14 : jd cX5_dutyOf 14 (.if_icmp .ge 68) 3 17 := ⟨by decide +kernel, rfl⟩
theorem dd_X5_dutyOf_82 : jd cX5_dutyOf 82 (.iload_n 2) 1 83 := ⟨by decide +kernel, rfl⟩
theorem dd_X5_dutyOf_83 : jd cX5_dutyOf 83 (.aload_n 0) 1 84 := ⟨by decide +kernel, rfl⟩
theorem dd_X5_dutyOf_84 : jd cX5_dutyOf 84 (.getfield 13) 3 87 := ⟨by decide +kernel, rfl⟩
theorem dd_X5_dutyOf_87 : jd cX5_dutyOf 87 (.bipush 47) 2 89 := ⟨by decide +kernel, rfl⟩
theorem dd_X5_dutyOf_89 : jd cX5_dutyOf 89 (.iaload) 1 90 := ⟨by decide +kernel, rfl⟩
theorem dd_X5_dutyOf_90 : jd cX5_dutyOf 90 (.imul) 1 91 := ⟨by decide +kernel, rfl⟩
theorem dd_X5_dutyOf_91 : jd cX5_dutyOf 91 (.ireturn) 1 92 := ⟨by decide +kernel, rfl⟩
theorem m_X5_dutyOf : jmV yX5_dutyOf cX5_dutyOf 7 (some .int) 1 := ⟨⟨(jj_m (w := Cond.code yX5_dutyOf cX5_dutyOf 7 (some .int)) (List.mem_of_getElem? (i := 1026) (by decide +kernel)) rfl), (jj_m (w := Cond.initialized yX5_dutyOf.cls) (List.mem_of_getElem? (i := 69) (by decide +kernel)) rfl), ⟨by decide, by decide⟩, by decide +kernel⟩, (jj_m (w := Cond.instanceMethod yX5_dutyOf) (List.mem_of_getElem? (i := 1025) (by decide +kernel)) rfl), (jj_m (w := Cond.selects yX5_dutyOf.cls yX5_dutyOf yX5_dutyOf) (List.mem_of_getElem? (i := 39) (by decide +kernel)) rfl)⟩
def fX5_dutyOf_L11 (S : M2) (i1 : Int32) (r1 : Int32) (k82 : Int32 → Option (Int32)) : Nat → Int32 → Int32 → Option (Int32)
  | 0, _, _ => none
  | n_ + 1, v2, v3 =>
    if r1 ≤ v3 then
      k82 v2
    else
      (fX5_boltAt i1 v3 S).bind fun r4 =>
      (fX5_of r4 (2 : Int32) S).bind fun r5 =>
      jn (α := Option (Int32)) (β := Int32) (fun j6 =>
        if v3 = 0 then
          j6 (0 : Int32)
        else
          (fX5_boltAt i1 (v3 - (1 : Int32)) S).bind fun r7 =>
          (fX5_of r7 (2 : Int32) S).bind fun r8 =>
          j6 r8) (fun p10 => 
        jn (α := Option (Int32)) (β := Int32) (fun j11 =>
          if p10 ≤ r5 then
            j11 p10
          else
            j11 r5) (fun p13 => 
          lt ((v2 + (r5 - p13))) fun x14 =>
          lt (v3 + (1 : Int32)) fun x15 =>
          fX5_dutyOf_L11 S i1 r1 k82 n_ x14 x15))

def fX5_dutyOf (i1 : Int32) (S : M2) : Option (Int32) :=
  (fX5_liesIn i1 S).bind fun r1 =>
  fX5_dutyOf_L11 S i1 r1
    (fun p17 =>
      bnd (47 : Int32) 62 <|
      some (p17 * (S 1 (47 : Int32).toNatClampNeg)))
    400 (0 : Int32) (0 : Int32)

set_option maxHeartbeats 4000000 in
set_option maxRecDepth 100000 in
theorem tX5_dutyOf_L11 {V : JV M2} {b : Nat} {a : Nat → Nat} (hv : vX5 V b a) (S : M2) (i1 : Int32) (r1 : Int32) {E : JE (M2) Int32} (hE : JOk V E cX5_dutyOf yX5_dutyOf.cls 7 2 (some .int) jj_i) {k82 : Int32 → Option (Int32)} (hk82 : ∀ p, J V E (fun r => (r, S)) (k82 p) 82 [(0, .ref b), (2, .int p)] [] S) : ∀ (n_ : Nat) (v2 : Int32) (v3 : Int32), J V E (fun r => (r, S)) (fX5_dutyOf_L11 S i1 r1 k82 n_ v2 v3) 11 [(0, .ref b), (1, .int i1), (2, .int v2), (3, .int r1), (4, .int v3)] [] S := by
  intro n_
  induction n_ with
  | zero =>
    intros
    exact J_none
  | succ n_ ih =>
    intros v2 v3
    rw [fX5_dutyOf_L11]
    refine J_iload hE dd_X5_dutyOf_11 4 rfl ?_
    refine J_iload_n hE dd_X5_dutyOf_13 3 rfl rfl ?_
    refine J_icmp_ge hE (tgt := 82) dd_X5_dutyOf_14 (by decide) (fun c16 => ?_) (fun c16 => ?_)
    · refine J_sub [0, 2] rfl ?_
      exact hk82 v2
    · refine J_aload_n hE dd_X5_dutyOf_17 0 rfl rfl ?_
      refine J_aload_n hE dd_X5_dutyOf_18 0 rfl rfl ?_
      refine J_iload_n hE dd_X5_dutyOf_19 1 rfl rfl ?_
      refine J_iload hE dd_X5_dutyOf_20 4 rfl ?_
      refine J_invVri hE (As := [.int i1, .int v3]) (st := [.ref b]) (tX5_boltAt E.2.1 hv S i1 v3) (hv.ob _) m_X5_boltAt rfl ml_RX5_169 (Nat.le_of_ble_eq_true rfl) (Nat.le_of_ble_eq_true rfl) rfl (Nat.le_of_ble_eq_true rfl) dd_X5_dutyOf_22 (fun r4 => ?_)
      refine J_iconst hE (v := (2 : Int32)) dd_X5_dutyOf_25 (by decide) ?_
      refine J_invVri hE (As := [.int r4, .int (2 : Int32)]) (st := []) (tX5_of E.2.1 hv S r4 (2 : Int32)) (hv.ob _) m_X5_of rfl ml_RX5_155 (Nat.le_of_ble_eq_true rfl) (Nat.le_of_ble_eq_true rfl) rfl (Nat.le_of_ble_eq_true rfl) dd_X5_dutyOf_26 (fun r5 => ?_)
      refine J_istore hE (L' := [(5, .int r5), (0, .ref b), (1, .int i1), (2, .int v2), (3, .int r1), (4, .int v3)]) dd_X5_dutyOf_29 (Nat.le_of_ble_eq_true rfl) rfl ?_
      refine J_iload hE dd_X5_dutyOf_31 5 rfl ?_
      refine J_jn (m := 54) (Lf := fun p10 => [(0, .ref b), (1, .int i1), (2, .int v2), (3, .int r1), (4, .int v3), (5, .int r5)]) (sf := fun p10 => [.int p10]) (Xf := fun p10 => S) (fun p10 => ?_) (fun hj6 => ?_)
      · show J V E _ _ 54 [(0, .ref b), (1, .int i1), (2, .int v2), (3, .int r1), (4, .int v3), (5, .int r5)] [.int p10] S
        refine J_istore hE (L' := [(6, .int p10), (0, .ref b), (1, .int i1), (2, .int v2), (3, .int r1), (4, .int v3), (5, .int r5)]) dd_X5_dutyOf_54 (Nat.le_of_ble_eq_true rfl) rfl ?_
        refine J_iload_n hE dd_X5_dutyOf_56 3 rfl rfl ?_
        refine J_iload hE dd_X5_dutyOf_57 6 rfl ?_
        refine J_iload hE dd_X5_dutyOf_59 6 rfl ?_
        refine J_iload hE dd_X5_dutyOf_61 0 rfl ?_
        refine J_jn (m := 73) (Lf := fun p13 => [(0, .ref b), (1, .int i1), (3, .int r1), (4, .int v3)]) (sf := fun p13 => [.int p13, .int r5, .int v2]) (Xf := fun p13 => S) (fun p13 => ?_) (fun hj11 => ?_)
        · show J V E _ _ 73 [(0, .ref b), (1, .int i1), (3, .int r1), (4, .int v3)] [.int p13, .int r5, .int v2] S
          refine J_isub hE dd_X5_dutyOf_73 ?_
          refine J_iadd hE dd_X5_dutyOf_74 ?_
          refine J_leti (fun x14 => ?_)
          refine J_istore_n hE (L' := [(2, .int x14), (0, .ref b), (1, .int i1), (3, .int r1), (4, .int v3)]) dd_X5_dutyOf_75 (Nat.le_of_ble_eq_true rfl) rfl rfl ?_
          refine J_iincL hE (v := (v3 + (1 : Int32))) (Lf := fun x15 => [(4, .int x15), (2, .int x14), (0, .ref b), (1, .int i1), (3, .int r1)]) dd_X5_dutyOf_76 (j := 4) rfl (congrArg (v3 + ·) (by decide)) (Nat.le_of_ble_eq_true rfl) (fun _ => rfl) (fun x15 => ?_)
          refine J_goto hE (tgt := 11) dd_X5_dutyOf_79 (by decide) ?_
          refine J_sub [2, 3, 1, 4, 0] rfl ?_
          exact ih x14 x15
        · refine J_icmp_ge hE (tgt := 71) dd_X5_dutyOf_63 (by decide) (fun c12 => ?_) (fun c12 => ?_)
          · refine J_iload hE dd_X5_dutyOf_71 0 rfl ?_
            refine J_sub [1, 2, 4, 5] rfl ?_
            exact hj11 p10
          · refine J_iload hE dd_X5_dutyOf_66 6 rfl ?_
            refine J_goto hE (tgt := 73) dd_X5_dutyOf_68 (by decide) ?_
            refine J_sub [1, 2, 4, 5] rfl ?_
            exact hj11 r5
      · refine J_if_ne hE (tgt := 40) dd_X5_dutyOf_33 (by decide) (fun c9 => ?_) (fun c9 => ?_)
        · refine J_aload_n hE dd_X5_dutyOf_40 1 rfl rfl ?_
          refine J_aload_n hE dd_X5_dutyOf_41 1 rfl rfl ?_
          refine J_iload_n hE dd_X5_dutyOf_42 2 rfl rfl ?_
          refine J_iload hE dd_X5_dutyOf_43 5 rfl ?_
          refine J_iconst hE (v := (1 : Int32)) dd_X5_dutyOf_45 (by decide) ?_
          refine J_isub hE dd_X5_dutyOf_46 ?_
          refine J_invVri hE (As := [.int i1, .int (v3 - (1 : Int32))]) (st := [.ref b]) (tX5_boltAt E.2.1 hv S i1 (v3 - (1 : Int32))) (hv.ob _) m_X5_boltAt rfl ml_RX5_169 (Nat.le_of_ble_eq_true rfl) (Nat.le_of_ble_eq_true rfl) rfl (Nat.le_of_ble_eq_true rfl) dd_X5_dutyOf_47 (fun r7 => ?_)
          refine J_iconst hE (v := (2 : Int32)) dd_X5_dutyOf_50 (by decide) ?_
          refine J_invVri hE (As := [.int r7, .int (2 : Int32)]) (st := []) (tX5_of E.2.1 hv S r7 (2 : Int32)) (hv.ob _) m_X5_of rfl ml_RX5_155 (Nat.le_of_ble_eq_true rfl) (Nat.le_of_ble_eq_true rfl) rfl (Nat.le_of_ble_eq_true rfl) dd_X5_dutyOf_51 (fun r8 => ?_)
          refine J_sub [1, 2, 3, 4, 5, 0] rfl ?_
          exact hj6 r8
        · refine J_iconst hE (v := (0 : Int32)) dd_X5_dutyOf_36 (by decide) ?_
          refine J_goto hE (tgt := 54) dd_X5_dutyOf_37 (by decide) ?_
          refine J_sub [1, 2, 3, 4, 5, 0] rfl ?_
          exact hj6 (0 : Int32)
set_option maxHeartbeats 4000000 in
set_option maxRecDepth 100000 in
theorem tX5_dutyOf (l : Launch) {V : JV M2} {b : Nat} {a : Nat → Nat} (hv : vX5 V b a) (S : M2) (i1 : Int32) : JC l V yX5_dutyOf cX5_dutyOf 7 (some .int) jj_i 2 [.ref b, .int i1] S ((fX5_dutyOf i1 S).map (fun r => (r, S))) := by
  refine jj_of (by decide) (Nat.le_of_ble_eq_true rfl) (fun E hlE hE => ?_)
  unfold fX5_dutyOf
  refine J_sub (L' := [(0, .ref b), (1, .int i1)]) [0, 1] rfl ?_
  refine J_iconst hE (v := (0 : Int32)) dd_X5_dutyOf_0 (by decide) ?_
  refine J_istore_n hE (L' := [(2, .int (0 : Int32)), (0, .ref b), (1, .int i1)]) dd_X5_dutyOf_1 (Nat.le_of_ble_eq_true rfl) rfl rfl ?_
  refine J_aload_n hE dd_X5_dutyOf_2 1 rfl rfl ?_
  refine J_iload_n hE dd_X5_dutyOf_3 2 rfl rfl ?_
  refine J_invVri hE (As := [.int i1]) (st := []) (tX5_liesIn E.2.1 hv S i1) (hv.ob _) m_X5_liesIn rfl ml_RX5_166 (Nat.le_of_ble_eq_true rfl) (Nat.le_of_ble_eq_true rfl) rfl (Nat.le_of_ble_eq_true rfl) dd_X5_dutyOf_4 (fun r1 => ?_)
  refine J_istore_n hE (L' := [(3, .int r1), (2, .int (0 : Int32)), (0, .ref b), (1, .int i1)]) dd_X5_dutyOf_7 (Nat.le_of_ble_eq_true rfl) rfl rfl ?_
  refine J_iconst hE (v := (0 : Int32)) dd_X5_dutyOf_8 (by decide) ?_
  refine J_istore hE (L' := [(4, .int (0 : Int32)), (3, .int r1), (2, .int (0 : Int32)), (0, .ref b), (1, .int i1)]) dd_X5_dutyOf_9 (Nat.le_of_ble_eq_true rfl) rfl ?_
  refine J_sub [3, 4, 2, 1, 0] rfl ?_
  refine tX5_dutyOf_L11 hv S i1 r1 hE (fun p17 => ?_) 400 (0 : Int32) (0 : Int32)
  show J V E _ _ 82 [(0, .ref b), (2, .int p17)] [] S
  refine J_iload_n hE dd_X5_dutyOf_82 1 rfl rfl ?_
  refine J_aload_n hE dd_X5_dutyOf_83 0 rfl rfl ?_
  refine J_get hE (hv.ob _) jc_X5 1 (by decide) fl_RX5_13 (v := .ref (a 1)) rfl dd_X5_dutyOf_84 ?_
  refine J_bipush hE (v := (47 : Int32)) dd_X5_dutyOf_87 (by decide) ?_
  refine J_ald hE (hv.arr 1 (n := 62) (ty := .int) (by decide) _) dd_X5_dutyOf_89 ?_
  refine J_imul hE dd_X5_dutyOf_90 ?_
  exact J_iret hE dd_X5_dutyOf_91 rfl rfl
theorem dd_X5_dutyAll_0 : jd cX5_dutyAll 0 (.aload_n 0) 1 1 := ⟨by decide +kernel, rfl⟩
theorem dd_X5_dutyAll_1 : jd cX5_dutyAll 1 (.iconst 0) 1 2 := ⟨by decide +kernel, rfl⟩
theorem ml_RX5_189 : (Cond.methodLink "MothCustomsModel" 189 yX5_dutyOf : Cond) ∈ jj_tb := jj_m (List.mem_of_getElem? (i := 1023) (by decide +kernel)) rfl
theorem dd_X5_dutyAll_2 : jd cX5_dutyAll 2 (.invokevirtual 189) 3 5 := ⟨by decide +kernel, rfl⟩
theorem dd_X5_dutyAll_5 : jd cX5_dutyAll 5 (.aload_n 0) 1 6 := ⟨by decide +kernel, rfl⟩
theorem dd_X5_dutyAll_6 : jd cX5_dutyAll 6 (.iconst 1) 1 7 := ⟨by decide +kernel, rfl⟩
theorem dd_X5_dutyAll_7 : jd cX5_dutyAll 7 (.invokevirtual 189) 3 10 := ⟨by decide +kernel, rfl⟩
theorem dd_X5_dutyAll_10 : jd cX5_dutyAll 10 (.iadd) 1 11 := ⟨by decide +kernel, rfl⟩
theorem dd_X5_dutyAll_11 : jd cX5_dutyAll 11 (.aload_n 0) 1 12 := ⟨by decide +kernel, rfl⟩
theorem dd_X5_dutyAll_12 : jd cX5_dutyAll 12 (.iconst 2) 1 13 := ⟨by decide +kernel, rfl⟩
theorem dd_X5_dutyAll_13 : jd cX5_dutyAll 13 (.invokevirtual 189) 3 16 := ⟨by decide +kernel, rfl⟩
theorem dd_X5_dutyAll_16 : jd cX5_dutyAll 16 (.iadd) 1 17 := ⟨by decide +kernel, rfl⟩
theorem dd_X5_dutyAll_17 : jd cX5_dutyAll 17 (.ireturn) 1 18 := ⟨by decide +kernel, rfl⟩
theorem m_X5_dutyAll : jmV yX5_dutyAll cX5_dutyAll 1 (some .int) 0 := ⟨⟨(jj_m (w := Cond.code yX5_dutyAll cX5_dutyAll 1 (some .int)) (List.mem_of_getElem? (i := 1116) (by decide +kernel)) rfl), (jj_m (w := Cond.initialized yX5_dutyAll.cls) (List.mem_of_getElem? (i := 69) (by decide +kernel)) rfl), ⟨by decide, by decide⟩, by decide +kernel⟩, (jj_m (w := Cond.instanceMethod yX5_dutyAll) (List.mem_of_getElem? (i := 1115) (by decide +kernel)) rfl), (jj_m (w := Cond.selects yX5_dutyAll.cls yX5_dutyAll yX5_dutyAll) (List.mem_of_getElem? (i := 50) (by decide +kernel)) rfl)⟩
def fX5_dutyAll  (S : M2) : Option (Int32) :=
  (fX5_dutyOf (0 : Int32) S).bind fun r1 =>
  (fX5_dutyOf (1 : Int32) S).bind fun r2 =>
  (fX5_dutyOf (2 : Int32) S).bind fun r3 =>
  some ((r1 + r2) + r3)

set_option maxHeartbeats 4000000 in
set_option maxRecDepth 100000 in
theorem tX5_dutyAll (l : Launch) {V : JV M2} {b : Nat} {a : Nat → Nat} (hv : vX5 V b a) (S : M2)  : JC l V yX5_dutyAll cX5_dutyAll 1 (some .int) jj_i 3 [.ref b] S ((fX5_dutyAll  S).map (fun r => (r, S))) := by
  refine jj_of (by decide) (Nat.le_of_ble_eq_true rfl) (fun E hlE hE => ?_)
  unfold fX5_dutyAll
  refine J_sub (L' := [(0, .ref b)]) [0] rfl ?_
  refine J_aload_n hE dd_X5_dutyAll_0 0 rfl rfl ?_
  refine J_iconst hE (v := (0 : Int32)) dd_X5_dutyAll_1 (by decide) ?_
  refine J_invVri hE (As := [.int (0 : Int32)]) (st := []) (tX5_dutyOf E.2.1 hv S (0 : Int32)) (hv.ob _) m_X5_dutyOf rfl ml_RX5_189 (Nat.le_of_ble_eq_true rfl) (Nat.le_of_ble_eq_true rfl) rfl (Nat.le_of_ble_eq_true rfl) dd_X5_dutyAll_2 (fun r1 => ?_)
  refine J_aload_n hE dd_X5_dutyAll_5 0 rfl rfl ?_
  refine J_iconst hE (v := (1 : Int32)) dd_X5_dutyAll_6 (by decide) ?_
  refine J_invVri hE (As := [.int (1 : Int32)]) (st := [.int r1]) (tX5_dutyOf E.2.1 hv S (1 : Int32)) (hv.ob _) m_X5_dutyOf rfl ml_RX5_189 (Nat.le_of_ble_eq_true rfl) (Nat.le_of_ble_eq_true rfl) rfl (Nat.le_of_ble_eq_true rfl) dd_X5_dutyAll_7 (fun r2 => ?_)
  refine J_iadd hE dd_X5_dutyAll_10 ?_
  refine J_aload_n hE dd_X5_dutyAll_11 0 rfl rfl ?_
  refine J_iconst hE (v := (2 : Int32)) dd_X5_dutyAll_12 (by decide) ?_
  refine J_invVri hE (As := [.int (2 : Int32)]) (st := [.int (r1 + r2)]) (tX5_dutyOf E.2.1 hv S (2 : Int32)) (hv.ob _) m_X5_dutyOf rfl ml_RX5_189 (Nat.le_of_ble_eq_true rfl) (Nat.le_of_ble_eq_true rfl) rfl (Nat.le_of_ble_eq_true rfl) dd_X5_dutyAll_13 (fun r3 => ?_)
  refine J_iadd hE dd_X5_dutyAll_16 ?_
  exact J_iret hE dd_X5_dutyAll_17 rfl rfl
theorem dd_X5_dutyNext_0 : jd cX5_dutyNext 0 (.aload_n 0) 1 1 := ⟨by decide +kernel, rfl⟩
theorem dd_X5_dutyNext_1 : jd cX5_dutyNext 1 (.aload_n 0) 1 2 := ⟨by decide +kernel, rfl⟩
theorem dd_X5_dutyNext_2 : jd cX5_dutyNext 2 (.invokevirtual 183) 3 5 := ⟨by decide +kernel, rfl⟩
theorem dd_X5_dutyNext_5 : jd cX5_dutyNext 5 (.invokevirtual 186) 3 8 := ⟨by decide +kernel, rfl⟩
theorem dd_X5_dutyNext_8 : jd cX5_dutyNext 8 (.aload_n 0) 1 9 := ⟨by decide +kernel, rfl⟩
theorem ml_RX5_192 : (Cond.methodLink "MothCustomsModel" 192 yX5_dutyAll : Cond) ∈ jj_tb := jj_m (List.mem_of_getElem? (i := 1113) (by decide +kernel)) rfl
theorem dd_X5_dutyNext_9 : jd cX5_dutyNext 9 (.invokevirtual 192) 3 12 := ⟨by decide +kernel, rfl⟩
theorem dd_X5_dutyNext_12 : jd cX5_dutyNext 12 (.ireturn) 1 13 := ⟨by decide +kernel, rfl⟩
theorem m_X5_dutyNext : jmV yX5_dutyNext cX5_dutyNext 1 (some .int) 0 := ⟨⟨(jj_m (w := Cond.code yX5_dutyNext cX5_dutyNext 1 (some .int)) (List.mem_of_getElem? (i := 1161) (by decide +kernel)) rfl), (jj_m (w := Cond.initialized yX5_dutyNext.cls) (List.mem_of_getElem? (i := 69) (by decide +kernel)) rfl), ⟨by decide, by decide⟩, by decide +kernel⟩, (jj_m (w := Cond.instanceMethod yX5_dutyNext) (List.mem_of_getElem? (i := 1160) (by decide +kernel)) rfl), (jj_m (w := Cond.selects yX5_dutyNext.cls yX5_dutyNext yX5_dutyNext) (List.mem_of_getElem? (i := 56) (by decide +kernel)) rfl)⟩
def fX5_dutyNext  (S : M2) : Option (Int32 × M2) :=
  (fX5_everyMoth  S).bind fun r1 =>
  (fX5_nightGoes r1 S).bind fun q2 =>
  lt (q2) fun S3 =>
  (fX5_dutyAll  S3).bind fun r4 =>
  some (r4, S3)

set_option maxHeartbeats 4000000 in
set_option maxRecDepth 100000 in
theorem tX5_dutyNext (l : Launch) {V : JV M2} {b : Nat} {a : Nat → Nat} (hv : vX5 V b a) (S : M2)  : JC l V yX5_dutyNext cX5_dutyNext 1 (some .int) jj_i 4 [.ref b] S ((fX5_dutyNext  S).map (fun q => (q.1, q.2))) := by
  refine jj_of (by decide) (Nat.le_of_ble_eq_true rfl) (fun E hlE hE => ?_)
  unfold fX5_dutyNext
  refine J_sub (L' := [(0, .ref b)]) [0] rfl ?_
  refine J_aload_n hE dd_X5_dutyNext_0 0 rfl rfl ?_
  refine J_aload_n hE dd_X5_dutyNext_1 0 rfl rfl ?_
  refine J_invVri hE (As := []) (st := [.ref b]) (tX5_everyMoth E.2.1 hv S ) (hv.ob _) m_X5_everyMoth rfl ml_RX5_183 (Nat.le_of_ble_eq_true rfl) (Nat.le_of_ble_eq_true rfl) rfl (Nat.le_of_ble_eq_true rfl) dd_X5_dutyNext_2 (fun r1 => ?_)
  refine J_invVwv hE (e := fun x => x) (As := [.int r1]) (st := []) (tX5_nightGoes E.2.1 hv S r1) (hv.ob _) m_X5_nightGoes rfl ml_RX5_186 (Nat.le_of_ble_eq_true rfl) (Nat.le_of_ble_eq_true rfl) rfl (Nat.le_of_ble_eq_true rfl) dd_X5_dutyNext_5 (fun q2 => ?_)
  refine J_letS (fun S3 => ?_)
  refine J_aload_n hE dd_X5_dutyNext_8 0 rfl rfl ?_
  refine J_invVri hE (As := []) (st := []) (tX5_dutyAll E.2.1 hv S3 ) (hv.ob _) m_X5_dutyAll rfl ml_RX5_192 (Nat.le_of_ble_eq_true rfl) (Nat.le_of_ble_eq_true rfl) rfl (Nat.le_of_ble_eq_true rfl) dd_X5_dutyNext_9 (fun r4 => ?_)
  exact J_iret hE dd_X5_dutyNext_12 rfl rfl
theorem dd_X5_allHoles_0 : jd cX5_allHoles 0 (.iconst 0) 1 1 := ⟨by decide +kernel, rfl⟩
theorem dd_X5_allHoles_1 : jd cX5_allHoles 1 (.istore_n 1) 1 2 := ⟨by decide +kernel, rfl⟩
theorem dd_X5_allHoles_2 : jd cX5_allHoles 2 (.iconst 0) 1 3 := ⟨by decide +kernel, rfl⟩
theorem dd_X5_allHoles_3 : jd cX5_allHoles 3 (.istore_n 2) 1 4 := ⟨by decide +kernel, rfl⟩
theorem dd_X5_allHoles_4 : jd cX5_allHoles 4 (.iload_n 2) 1 5 := ⟨by decide +kernel, rfl⟩
theorem dd_X5_allHoles_5 : jd cX5_allHoles 5 (.aload_n 0) 1 6 := ⟨by decide +kernel, rfl⟩
theorem dd_X5_allHoles_6 : jd cX5_allHoles 6 (.getfield 63) 3 9 := ⟨by decide +kernel, rfl⟩
theorem dd_X5_allHoles_12 : jd cX5_allHoles 12 (.iload_n 1) 1 13 := ⟨by decide +kernel, rfl⟩
theorem dd_X5_allHoles_13 : jd cX5_allHoles 13 (.aload_n 0) 1 14 := ⟨by decide +kernel, rfl⟩
theorem dd_X5_allHoles_14 : jd cX5_allHoles 14 (.iload_n 2) 1 15 := ⟨by decide +kernel, rfl⟩
theorem dd_X5_allHoles_15 : jd cX5_allHoles 15 (.iconst 2) 1 16 := ⟨by decide +kernel, rfl⟩
theorem dd_X5_allHoles_16 : jd cX5_allHoles 16 (.invokevirtual 155) 3 19 := ⟨by decide +kernel, rfl⟩
theorem dd_X5_allHoles_19 : jd cX5_allHoles 19 (.iadd) 1 20 := ⟨by decide +kernel, rfl⟩
theorem dd_X5_allHoles_20 : jd cX5_allHoles 20 (.istore_n 1) 1 21 := ⟨by decide +kernel, rfl⟩
theorem dd_X5_allHoles_21 : jd cX5_allHoles 21 (.iinc 2 1) 3 24 := ⟨by decide +kernel, rfl⟩
theorem dd_X5_allHoles_24 : jd cX5_allHoles 24 (.goto (-20)) 3 27 := ⟨by decide +kernel, rfl⟩
theorem dd_X5_allHoles_9 : jd cX5_allHoles 9 (.if_icmp .ge 18) 3 12 := ⟨by decide +kernel, rfl⟩
theorem dd_X5_allHoles_27 : jd cX5_allHoles 27 (.iload_n 1) 1 28 := ⟨by decide +kernel, rfl⟩
theorem dd_X5_allHoles_28 : jd cX5_allHoles 28 (.ireturn) 1 29 := ⟨by decide +kernel, rfl⟩
theorem m_X5_allHoles : jmV yX5_allHoles cX5_allHoles 3 (some .int) 0 := ⟨⟨(jj_m (w := Cond.code yX5_allHoles cX5_allHoles 3 (some .int)) (List.mem_of_getElem? (i := 1124) (by decide +kernel)) rfl), (jj_m (w := Cond.initialized yX5_allHoles.cls) (List.mem_of_getElem? (i := 69) (by decide +kernel)) rfl), ⟨by decide, by decide⟩, by decide +kernel⟩, (jj_m (w := Cond.instanceMethod yX5_allHoles) (List.mem_of_getElem? (i := 1123) (by decide +kernel)) rfl), (jj_m (w := Cond.selects yX5_allHoles.cls yX5_allHoles yX5_allHoles) (List.mem_of_getElem? (i := 51) (by decide +kernel)) rfl)⟩
def fX5_allHoles_L4 (S : M2) (k27 : Int32 → Option (Int32)) : Nat → Int32 → Int32 → Option (Int32)
  | 0, _, _ => none
  | n_ + 1, v1, v2 =>
    if (S 3 0) ≤ v2 then
      k27 v1
    else
      (fX5_of v2 (2 : Int32) S).bind fun r3 =>
      lt ((v1 + r3)) fun x4 =>
      lt (v2 + (1 : Int32)) fun x5 =>
      fX5_allHoles_L4 S k27 n_ x4 x5

def fX5_allHoles  (S : M2) : Option (Int32) :=
  fX5_allHoles_L4 S
    (fun p7 =>
      some p7)
    400 (0 : Int32) (0 : Int32)

set_option maxHeartbeats 4000000 in
set_option maxRecDepth 100000 in
theorem tX5_allHoles_L4 {V : JV M2} {b : Nat} {a : Nat → Nat} (hv : vX5 V b a) (S : M2) {E : JE (M2) Int32} (hE : JOk V E cX5_allHoles yX5_allHoles.cls 3 1 (some .int) jj_i) {k27 : Int32 → Option (Int32)} (hk27 : ∀ p, J V E (fun r => (r, S)) (k27 p) 27 [(1, .int p)] [] S) : ∀ (n_ : Nat) (v1 : Int32) (v2 : Int32), J V E (fun r => (r, S)) (fX5_allHoles_L4 S k27 n_ v1 v2) 4 [(0, .ref b), (1, .int v1), (2, .int v2)] [] S := by
  intro n_
  induction n_ with
  | zero =>
    intros
    exact J_none
  | succ n_ ih =>
    intros v1 v2
    rw [fX5_allHoles_L4]
    refine J_iload_n hE dd_X5_allHoles_4 2 rfl rfl ?_
    refine J_aload_n hE dd_X5_allHoles_5 0 rfl rfl ?_
    refine J_get hE (hv.ob _) jc_X5 3 (by decide) fl_RX5_63 (v := .int (S 3 0)) rfl dd_X5_allHoles_6 ?_
    refine J_icmp_ge hE (tgt := 27) dd_X5_allHoles_9 (by decide) (fun c6 => ?_) (fun c6 => ?_)
    · refine J_sub [1] rfl ?_
      exact hk27 v1
    · refine J_iload_n hE dd_X5_allHoles_12 1 rfl rfl ?_
      refine J_aload_n hE dd_X5_allHoles_13 0 rfl rfl ?_
      refine J_iload_n hE dd_X5_allHoles_14 2 rfl rfl ?_
      refine J_iconst hE (v := (2 : Int32)) dd_X5_allHoles_15 (by decide) ?_
      refine J_invVri hE (As := [.int v2, .int (2 : Int32)]) (st := [.int v1]) (tX5_of E.2.1 hv S v2 (2 : Int32)) (hv.ob _) m_X5_of rfl ml_RX5_155 (Nat.le_of_ble_eq_true rfl) (Nat.le_of_ble_eq_true rfl) rfl (Nat.le_of_ble_eq_true rfl) dd_X5_allHoles_16 (fun r3 => ?_)
      refine J_iadd hE dd_X5_allHoles_19 ?_
      refine J_leti (fun x4 => ?_)
      refine J_istore_n hE (L' := [(1, .int x4), (0, .ref b), (2, .int v2)]) dd_X5_allHoles_20 (Nat.le_of_ble_eq_true rfl) rfl rfl ?_
      refine J_iincL hE (v := (v2 + (1 : Int32))) (Lf := fun x5 => [(2, .int x5), (1, .int x4), (0, .ref b)]) dd_X5_allHoles_21 (j := 2) rfl (congrArg (v2 + ·) (by decide)) (Nat.le_of_ble_eq_true rfl) (fun _ => rfl) (fun x5 => ?_)
      refine J_goto hE (tgt := 4) dd_X5_allHoles_24 (by decide) ?_
      refine J_sub [2, 1, 0] rfl ?_
      exact ih x4 x5
set_option maxHeartbeats 4000000 in
set_option maxRecDepth 100000 in
theorem tX5_allHoles (l : Launch) {V : JV M2} {b : Nat} {a : Nat → Nat} (hv : vX5 V b a) (S : M2)  : JC l V yX5_allHoles cX5_allHoles 3 (some .int) jj_i 1 [.ref b] S ((fX5_allHoles  S).map (fun r => (r, S))) := by
  refine jj_of (by decide) (Nat.le_of_ble_eq_true rfl) (fun E hlE hE => ?_)
  unfold fX5_allHoles
  refine J_sub (L' := [(0, .ref b)]) [0] rfl ?_
  refine J_iconst hE (v := (0 : Int32)) dd_X5_allHoles_0 (by decide) ?_
  refine J_istore_n hE (L' := [(1, .int (0 : Int32)), (0, .ref b)]) dd_X5_allHoles_1 (Nat.le_of_ble_eq_true rfl) rfl rfl ?_
  refine J_iconst hE (v := (0 : Int32)) dd_X5_allHoles_2 (by decide) ?_
  refine J_istore_n hE (L' := [(2, .int (0 : Int32)), (1, .int (0 : Int32)), (0, .ref b)]) dd_X5_allHoles_3 (Nat.le_of_ble_eq_true rfl) rfl rfl ?_
  refine J_sub [2, 1, 0] rfl ?_
  refine tX5_allHoles_L4 hv S hE (fun p7 => ?_) 400 (0 : Int32) (0 : Int32)
  show J V E _ _ 27 [(1, .int p7)] [] S
  refine J_iload_n hE dd_X5_allHoles_27 0 rfl rfl ?_
  exact J_iret hE dd_X5_allHoles_28 rfl rfl
theorem dd_X5_isEaten_0 : jd cX5_isEaten 0 (.aload_n 0) 1 1 := ⟨by decide +kernel, rfl⟩
theorem dd_X5_isEaten_1 : jd cX5_isEaten 1 (.iload_n 1) 1 2 := ⟨by decide +kernel, rfl⟩
theorem dd_X5_isEaten_2 : jd cX5_isEaten 2 (.iconst 1) 1 3 := ⟨by decide +kernel, rfl⟩
theorem dd_X5_isEaten_3 : jd cX5_isEaten 3 (.invokevirtual 155) 3 6 := ⟨by decide +kernel, rfl⟩
theorem dd_X5_isEaten_28 : jd cX5_isEaten 28 (.iconst 0) 1 29 := ⟨by decide +kernel, rfl⟩
theorem dd_X5_isEaten_29 : jd cX5_isEaten 29 (.ireturn) 1 30 := ⟨by decide +kernel, rfl⟩
theorem dd_X5_isEaten_9 : jd cX5_isEaten 9 (.aload_n 0) 1 10 := ⟨by decide +kernel, rfl⟩
theorem dd_X5_isEaten_10 : jd cX5_isEaten 10 (.iload_n 1) 1 11 := ⟨by decide +kernel, rfl⟩
theorem dd_X5_isEaten_11 : jd cX5_isEaten 11 (.iconst 2) 1 12 := ⟨by decide +kernel, rfl⟩
theorem dd_X5_isEaten_12 : jd cX5_isEaten 12 (.invokevirtual 155) 3 15 := ⟨by decide +kernel, rfl⟩
theorem dd_X5_isEaten_15 : jd cX5_isEaten 15 (.aload_n 0) 1 16 := ⟨by decide +kernel, rfl⟩
theorem dd_X5_isEaten_16 : jd cX5_isEaten 16 (.iload_n 1) 1 17 := ⟨by decide +kernel, rfl⟩
theorem dd_X5_isEaten_17 : jd cX5_isEaten 17 (.iconst 1) 1 18 := ⟨by decide +kernel, rfl⟩
theorem dd_X5_isEaten_18 : jd cX5_isEaten 18 (.invokevirtual 155) 3 21 := ⟨by decide +kernel, rfl⟩
theorem dd_X5_isEaten_24 : jd cX5_isEaten 24 (.iconst 1) 1 25 := ⟨by decide +kernel, rfl⟩
theorem dd_X5_isEaten_25 : jd cX5_isEaten 25 (.goto 4) 3 28 := ⟨by decide +kernel, rfl⟩
theorem dd_X5_isEaten_21 : jd cX5_isEaten 21 (.if_icmp .ne 7) 3 24 := ⟨by decide +kernel, rfl⟩
theorem dd_X5_isEaten_6 : jd cX5_isEaten 6 (.ifCond .le 22) 3 9 := ⟨by decide +kernel, rfl⟩
theorem m_X5_isEaten : jmV yX5_isEaten cX5_isEaten 2 (some .boolean) 1 := ⟨⟨(jj_m (w := Cond.code yX5_isEaten cX5_isEaten 2 (some .boolean)) (List.mem_of_getElem? (i := 980) (by decide +kernel)) rfl), (jj_m (w := Cond.initialized yX5_isEaten.cls) (List.mem_of_getElem? (i := 69) (by decide +kernel)) rfl), ⟨by decide, by decide⟩, by decide +kernel⟩, (jj_m (w := Cond.instanceMethod yX5_isEaten) (List.mem_of_getElem? (i := 979) (by decide +kernel)) rfl), (jj_m (w := Cond.selects yX5_isEaten.cls yX5_isEaten yX5_isEaten) (List.mem_of_getElem? (i := 32) (by decide +kernel)) rfl)⟩
def fX5_isEaten (i1 : Int32) (S : M2) : Option (Int32) :=
  (fX5_of i1 (1 : Int32) S).bind fun r1 =>
  if r1 ≤ 0 then
    some (0 : Int32)
  else
    (fX5_of i1 (2 : Int32) S).bind fun r2 =>
    (fX5_of i1 (1 : Int32) S).bind fun r3 =>
    if r2 = r3 then
      some (1 : Int32)
    else
      some (0 : Int32)

set_option maxHeartbeats 4000000 in
set_option maxRecDepth 100000 in
theorem tX5_isEaten (l : Launch) {V : JV M2} {b : Nat} {a : Nat → Nat} (hv : vX5 V b a) (S : M2) (i1 : Int32) : JC l V yX5_isEaten cX5_isEaten 2 (some .boolean) jj_i 1 [.ref b, .int i1] S ((fX5_isEaten i1 S).map (fun r => (r, S))) := by
  refine jj_of (by decide) (Nat.le_of_ble_eq_true rfl) (fun E hlE hE => ?_)
  unfold fX5_isEaten
  refine J_sub (L' := [(0, .ref b), (1, .int i1)]) [0, 1] rfl ?_
  refine J_aload_n hE dd_X5_isEaten_0 0 rfl rfl ?_
  refine J_iload_n hE dd_X5_isEaten_1 1 rfl rfl ?_
  refine J_iconst hE (v := (1 : Int32)) dd_X5_isEaten_2 (by decide) ?_
  refine J_invVri hE (As := [.int i1, .int (1 : Int32)]) (st := []) (tX5_of E.2.1 hv S i1 (1 : Int32)) (hv.ob _) m_X5_of rfl ml_RX5_155 (Nat.le_of_ble_eq_true rfl) (Nat.le_of_ble_eq_true rfl) rfl (Nat.le_of_ble_eq_true rfl) dd_X5_isEaten_3 (fun r1 => ?_)
  refine J_if_le hE (tgt := 28) dd_X5_isEaten_6 (by decide) (fun c5 => ?_) (fun c5 => ?_)
  · refine J_iconst hE (v := (0 : Int32)) dd_X5_isEaten_28 (by decide) ?_
    exact J_zret hE (Or.inl rfl) dd_X5_isEaten_29 rfl rfl
  · refine J_aload_n hE dd_X5_isEaten_9 0 rfl rfl ?_
    refine J_iload_n hE dd_X5_isEaten_10 1 rfl rfl ?_
    refine J_iconst hE (v := (2 : Int32)) dd_X5_isEaten_11 (by decide) ?_
    refine J_invVri hE (As := [.int i1, .int (2 : Int32)]) (st := []) (tX5_of E.2.1 hv S i1 (2 : Int32)) (hv.ob _) m_X5_of rfl ml_RX5_155 (Nat.le_of_ble_eq_true rfl) (Nat.le_of_ble_eq_true rfl) rfl (Nat.le_of_ble_eq_true rfl) dd_X5_isEaten_12 (fun r2 => ?_)
    refine J_aload_n hE dd_X5_isEaten_15 0 rfl rfl ?_
    refine J_iload_n hE dd_X5_isEaten_16 1 rfl rfl ?_
    refine J_iconst hE (v := (1 : Int32)) dd_X5_isEaten_17 (by decide) ?_
    refine J_invVri hE (As := [.int i1, .int (1 : Int32)]) (st := [.int r2]) (tX5_of E.2.1 hv S i1 (1 : Int32)) (hv.ob _) m_X5_of rfl ml_RX5_155 (Nat.le_of_ble_eq_true rfl) (Nat.le_of_ble_eq_true rfl) rfl (Nat.le_of_ble_eq_true rfl) dd_X5_isEaten_18 (fun r3 => ?_)
    refine J_icmp_ne hE (tgt := 28) dd_X5_isEaten_21 (by decide) (fun c4 => ?_) (fun c4 => ?_)
    · refine J_iconst hE (v := (0 : Int32)) dd_X5_isEaten_28 (by decide) ?_
      exact J_zret hE (Or.inl rfl) dd_X5_isEaten_29 rfl rfl
    · refine J_iconst hE (v := (1 : Int32)) dd_X5_isEaten_24 (by decide) ?_
      refine J_goto hE (tgt := 29) dd_X5_isEaten_25 (by decide) ?_
      exact J_zret hE (Or.inr rfl) dd_X5_isEaten_29 rfl rfl
theorem dd_X5_eaten_0 : jd cX5_eaten 0 (.iconst 0) 1 1 := ⟨by decide +kernel, rfl⟩
theorem dd_X5_eaten_1 : jd cX5_eaten 1 (.istore_n 1) 1 2 := ⟨by decide +kernel, rfl⟩
theorem dd_X5_eaten_2 : jd cX5_eaten 2 (.iconst 0) 1 3 := ⟨by decide +kernel, rfl⟩
theorem dd_X5_eaten_3 : jd cX5_eaten 3 (.istore_n 2) 1 4 := ⟨by decide +kernel, rfl⟩
theorem dd_X5_eaten_4 : jd cX5_eaten 4 (.iload_n 2) 1 5 := ⟨by decide +kernel, rfl⟩
theorem dd_X5_eaten_5 : jd cX5_eaten 5 (.aload_n 0) 1 6 := ⟨by decide +kernel, rfl⟩
theorem dd_X5_eaten_6 : jd cX5_eaten 6 (.getfield 63) 3 9 := ⟨by decide +kernel, rfl⟩
theorem dd_X5_eaten_12 : jd cX5_eaten 12 (.iload_n 1) 1 13 := ⟨by decide +kernel, rfl⟩
theorem dd_X5_eaten_13 : jd cX5_eaten 13 (.aload_n 0) 1 14 := ⟨by decide +kernel, rfl⟩
theorem dd_X5_eaten_14 : jd cX5_eaten 14 (.iload_n 2) 1 15 := ⟨by decide +kernel, rfl⟩
theorem ml_RX5_195 : (Cond.methodLink "MothCustomsModel" 195 yX5_isEaten : Cond) ∈ jj_tb := jj_m (List.mem_of_getElem? (i := 977) (by decide +kernel)) rfl
theorem dd_X5_eaten_15 : jd cX5_eaten 15 (.invokevirtual 195) 3 18 := ⟨by decide +kernel, rfl⟩
theorem dd_X5_eaten_18 : jd cX5_eaten 18 (.invokestatic 129) 3 21 := ⟨by decide +kernel, rfl⟩
theorem dd_X5_eaten_21 : jd cX5_eaten 21 (.iload_n 2) 1 22 := ⟨by decide +kernel, rfl⟩
theorem dd_X5_eaten_22 : jd cX5_eaten 22 (.ishl) 1 23 := ⟨by decide +kernel, rfl⟩
theorem dd_X5_eaten_23 : jd cX5_eaten 23 (.ior) 1 24 := ⟨by decide +kernel, rfl⟩
theorem dd_X5_eaten_24 : jd cX5_eaten 24 (.istore_n 1) 1 25 := ⟨by decide +kernel, rfl⟩
theorem dd_X5_eaten_25 : jd cX5_eaten 25 (.iinc 2 1) 3 28 := ⟨by decide +kernel, rfl⟩
theorem dd_X5_eaten_28 : jd cX5_eaten 28 (.goto (-24)) 3 31 := ⟨by decide +kernel, rfl⟩
theorem dd_X5_eaten_9 : jd cX5_eaten 9 (.if_icmp .ge 22) 3 12 := ⟨by decide +kernel, rfl⟩
theorem dd_X5_eaten_31 : jd cX5_eaten 31 (.iload_n 1) 1 32 := ⟨by decide +kernel, rfl⟩
theorem dd_X5_eaten_32 : jd cX5_eaten 32 (.ireturn) 1 33 := ⟨by decide +kernel, rfl⟩
theorem m_X5_eaten : jmV yX5_eaten cX5_eaten 3 (some .int) 0 := ⟨⟨(jj_m (w := Cond.code yX5_eaten cX5_eaten 3 (some .int)) (List.mem_of_getElem? (i := 976) (by decide +kernel)) rfl), (jj_m (w := Cond.initialized yX5_eaten.cls) (List.mem_of_getElem? (i := 69) (by decide +kernel)) rfl), ⟨by decide, by decide⟩, by decide +kernel⟩, (jj_m (w := Cond.instanceMethod yX5_eaten) (List.mem_of_getElem? (i := 975) (by decide +kernel)) rfl), (jj_m (w := Cond.selects yX5_eaten.cls yX5_eaten yX5_eaten) (List.mem_of_getElem? (i := 31) (by decide +kernel)) rfl)⟩
def fX5_eaten_L4 (S : M2) (k31 : Int32 → Option (Int32)) : Nat → Int32 → Int32 → Option (Int32)
  | 0, _, _ => none
  | n_ + 1, v1, v2 =>
    if (S 3 0) ≤ v2 then
      k31 v1
    else
      (fX5_isEaten v2 S).bind fun r3 =>
      (fX5_flag r3).bind fun r4 =>
      lt ((v1 ||| (r4 <<< (v2 &&& 31)))) fun x5 =>
      lt (v2 + (1 : Int32)) fun x6 =>
      fX5_eaten_L4 S k31 n_ x5 x6

def fX5_eaten  (S : M2) : Option (Int32) :=
  fX5_eaten_L4 S
    (fun p8 =>
      some p8)
    400 (0 : Int32) (0 : Int32)

set_option maxHeartbeats 4000000 in
set_option maxRecDepth 100000 in
theorem tX5_eaten_L4 {V : JV M2} {b : Nat} {a : Nat → Nat} (hv : vX5 V b a) (S : M2) {E : JE (M2) Int32} (hE : JOk V E cX5_eaten yX5_eaten.cls 3 2 (some .int) jj_i) {k31 : Int32 → Option (Int32)} (hk31 : ∀ p, J V E (fun r => (r, S)) (k31 p) 31 [(1, .int p)] [] S) : ∀ (n_ : Nat) (v1 : Int32) (v2 : Int32), J V E (fun r => (r, S)) (fX5_eaten_L4 S k31 n_ v1 v2) 4 [(0, .ref b), (1, .int v1), (2, .int v2)] [] S := by
  intro n_
  induction n_ with
  | zero =>
    intros
    exact J_none
  | succ n_ ih =>
    intros v1 v2
    rw [fX5_eaten_L4]
    refine J_iload_n hE dd_X5_eaten_4 2 rfl rfl ?_
    refine J_aload_n hE dd_X5_eaten_5 0 rfl rfl ?_
    refine J_get hE (hv.ob _) jc_X5 3 (by decide) fl_RX5_63 (v := .int (S 3 0)) rfl dd_X5_eaten_6 ?_
    refine J_icmp_ge hE (tgt := 31) dd_X5_eaten_9 (by decide) (fun c7 => ?_) (fun c7 => ?_)
    · refine J_sub [1] rfl ?_
      exact hk31 v1
    · refine J_iload_n hE dd_X5_eaten_12 1 rfl rfl ?_
      refine J_aload_n hE dd_X5_eaten_13 0 rfl rfl ?_
      refine J_iload_n hE dd_X5_eaten_14 2 rfl rfl ?_
      refine J_invVri hE (As := [.int v2]) (st := [.int v1]) (tX5_isEaten E.2.1 hv S v2) (hv.ob _) m_X5_isEaten rfl ml_RX5_195 (Nat.le_of_ble_eq_true rfl) (Nat.le_of_ble_eq_true rfl) rfl (Nat.le_of_ble_eq_true rfl) dd_X5_eaten_15 (fun r3 => ?_)
      refine J_invSri hE (As := [.int r3]) (st := [.int v1]) (tX5_flag E.2.1 V S r3) m_X5_flag s_X5_flag rfl ml_RX5_129 (Nat.le_of_ble_eq_true rfl) (Nat.le_of_ble_eq_true rfl) rfl (Nat.le_of_ble_eq_true rfl) dd_X5_eaten_18 (fun r4 => ?_)
      refine J_iload_n hE dd_X5_eaten_21 2 rfl rfl ?_
      refine J_ishl hE dd_X5_eaten_22 ?_
      refine J_ior hE dd_X5_eaten_23 ?_
      refine J_leti (fun x5 => ?_)
      refine J_istore_n hE (L' := [(1, .int x5), (0, .ref b), (2, .int v2)]) dd_X5_eaten_24 (Nat.le_of_ble_eq_true rfl) rfl rfl ?_
      refine J_iincL hE (v := (v2 + (1 : Int32))) (Lf := fun x6 => [(2, .int x6), (1, .int x5), (0, .ref b)]) dd_X5_eaten_25 (j := 2) rfl (congrArg (v2 + ·) (by decide)) (Nat.le_of_ble_eq_true rfl) (fun _ => rfl) (fun x6 => ?_)
      refine J_goto hE (tgt := 4) dd_X5_eaten_28 (by decide) ?_
      refine J_sub [2, 1, 0] rfl ?_
      exact ih x5 x6
set_option maxHeartbeats 4000000 in
set_option maxRecDepth 100000 in
theorem tX5_eaten (l : Launch) {V : JV M2} {b : Nat} {a : Nat → Nat} (hv : vX5 V b a) (S : M2)  : JC l V yX5_eaten cX5_eaten 3 (some .int) jj_i 2 [.ref b] S ((fX5_eaten  S).map (fun r => (r, S))) := by
  refine jj_of (by decide) (Nat.le_of_ble_eq_true rfl) (fun E hlE hE => ?_)
  unfold fX5_eaten
  refine J_sub (L' := [(0, .ref b)]) [0] rfl ?_
  refine J_iconst hE (v := (0 : Int32)) dd_X5_eaten_0 (by decide) ?_
  refine J_istore_n hE (L' := [(1, .int (0 : Int32)), (0, .ref b)]) dd_X5_eaten_1 (Nat.le_of_ble_eq_true rfl) rfl rfl ?_
  refine J_iconst hE (v := (0 : Int32)) dd_X5_eaten_2 (by decide) ?_
  refine J_istore_n hE (L' := [(2, .int (0 : Int32)), (1, .int (0 : Int32)), (0, .ref b)]) dd_X5_eaten_3 (Nat.le_of_ble_eq_true rfl) rfl rfl ?_
  refine J_sub [2, 1, 0] rfl ?_
  refine tX5_eaten_L4 hv S hE (fun p8 => ?_) 400 (0 : Int32) (0 : Int32)
  show J V E _ _ 31 [(1, .int p8)] [] S
  refine J_iload_n hE dd_X5_eaten_31 0 rfl rfl ?_
  exact J_iret hE dd_X5_eaten_32 rfl rfl
theorem dd_X5_rule_0 : jd cX5_rule 0 (.aload_n 0) 1 1 := ⟨by decide +kernel, rfl⟩
theorem ml_RX5_199 : (Cond.methodLink "MothCustomsModel" 199 yX5_starts : Cond) ∈ jj_tb := jj_m (List.mem_of_getElem? (i := 965) (by decide +kernel)) rfl
theorem dd_X5_rule_1 : jd cX5_rule 1 (.invokevirtual 199) 3 4 := ⟨by decide +kernel, rfl⟩
theorem dd_X5_rule_4 : jd cX5_rule 4 (.iconst 0) 1 5 := ⟨by decide +kernel, rfl⟩
theorem dd_X5_rule_5 : jd cX5_rule 5 (.istore_n 2) 1 6 := ⟨by decide +kernel, rfl⟩
theorem dd_X5_rule_6 : jd cX5_rule 6 (.iconst 0) 1 7 := ⟨by decide +kernel, rfl⟩
theorem dd_X5_rule_7 : jd cX5_rule 7 (.istore_n 3) 1 8 := ⟨by decide +kernel, rfl⟩
theorem dd_X5_rule_8 : jd cX5_rule 8 (.iload_n 3) 1 9 := ⟨by decide +kernel, rfl⟩
theorem dd_X5_rule_9 : jd cX5_rule 9 (.aload_n 0) 1 10 := ⟨by decide +kernel, rfl⟩
theorem dd_X5_rule_10 : jd cX5_rule 10 (.getfield 63) 3 13 := ⟨by decide +kernel, rfl⟩
theorem dd_X5_rule_16 : jd cX5_rule 16 (.iload_n 2) 1 17 := ⟨by decide +kernel, rfl⟩
theorem dd_X5_rule_17 : jd cX5_rule 17 (.aload_n 0) 1 18 := ⟨by decide +kernel, rfl⟩
theorem dd_X5_rule_18 : jd cX5_rule 18 (.iload_n 3) 1 19 := ⟨by decide +kernel, rfl⟩
theorem dd_X5_rule_19 : jd cX5_rule 19 (.iconst 3) 1 20 := ⟨by decide +kernel, rfl⟩
theorem dd_X5_rule_20 : jd cX5_rule 20 (.invokevirtual 155) 3 23 := ⟨by decide +kernel, rfl⟩
theorem dd_X5_rule_23 : jd cX5_rule 23 (.iload_n 3) 1 24 := ⟨by decide +kernel, rfl⟩
theorem dd_X5_rule_24 : jd cX5_rule 24 (.ishl) 1 25 := ⟨by decide +kernel, rfl⟩
theorem dd_X5_rule_25 : jd cX5_rule 25 (.ior) 1 26 := ⟨by decide +kernel, rfl⟩
theorem dd_X5_rule_26 : jd cX5_rule 26 (.istore_n 2) 1 27 := ⟨by decide +kernel, rfl⟩
theorem dd_X5_rule_27 : jd cX5_rule 27 (.iinc 3 1) 3 30 := ⟨by decide +kernel, rfl⟩
theorem dd_X5_rule_30 : jd cX5_rule 30 (.goto (-22)) 3 33 := ⟨by decide +kernel, rfl⟩
theorem dd_X5_rule_13 : jd cX5_rule 13 (.if_icmp .ge 20) 3 16 := ⟨by decide +kernel, rfl⟩
theorem dd_X5_rule_33 : jd cX5_rule 33 (.iload_n 1) 1 34 := ⟨by decide +kernel, rfl⟩
theorem dd_X5_rule_76 : jd cX5_rule 76 (.aload_n 0) 1 77 := ⟨by decide +kernel, rfl⟩
theorem dd_X5_rule_77 : jd cX5_rule 77 (.getfield 63) 3 80 := ⟨by decide +kernel, rfl⟩
theorem dd_X5_rule_80 : jd cX5_rule 80 (.ireturn) 1 81 := ⟨by decide +kernel, rfl⟩
theorem dd_X5_rule_81 : jd cX5_rule 81 (.aload_n 0) 1 82 := ⟨by decide +kernel, rfl⟩
theorem dd_X5_rule_82 : jd cX5_rule 82 (.getfield 66) 3 85 := ⟨by decide +kernel, rfl⟩
theorem dd_X5_rule_85 : jd cX5_rule 85 (.ireturn) 1 86 := ⟨by decide +kernel, rfl⟩
theorem dd_X5_rule_86 : jd cX5_rule 86 (.aload_n 0) 1 87 := ⟨by decide +kernel, rfl⟩
theorem dd_X5_rule_87 : jd cX5_rule 87 (.getfield 7) 3 90 := ⟨by decide +kernel, rfl⟩
theorem dd_X5_rule_90 : jd cX5_rule 90 (.bipush 46) 2 92 := ⟨by decide +kernel, rfl⟩
theorem dd_X5_rule_92 : jd cX5_rule 92 (.iload_n 1) 1 93 := ⟨by decide +kernel, rfl⟩
theorem dd_X5_rule_93 : jd cX5_rule 93 (.iadd) 1 94 := ⟨by decide +kernel, rfl⟩
theorem dd_X5_rule_94 : jd cX5_rule 94 (.iconst 2) 1 95 := ⟨by decide +kernel, rfl⟩
theorem dd_X5_rule_95 : jd cX5_rule 95 (.isub) 1 96 := ⟨by decide +kernel, rfl⟩
theorem dd_X5_rule_96 : jd cX5_rule 96 (.iaload) 1 97 := ⟨by decide +kernel, rfl⟩
theorem dd_X5_rule_97 : jd cX5_rule 97 (.ireturn) 1 98 := ⟨by decide +kernel, rfl⟩
theorem dd_X5_rule_98 : jd cX5_rule 98 (.iload_n 2) 1 99 := ⟨by decide +kernel, rfl⟩
theorem dd_X5_rule_99 : jd cX5_rule 99 (.ireturn) 1 100 := ⟨by decide +kernel, rfl⟩
theorem dd_X5_rule_100 : jd cX5_rule 100 (.aload_n 0) 1 101 := ⟨by decide +kernel, rfl⟩
theorem ml_RX5_202 : (Cond.methodLink "MothCustomsModel" 202 yX5_eaten : Cond) ∈ jj_tb := jj_m (List.mem_of_getElem? (i := 973) (by decide +kernel)) rfl
theorem dd_X5_rule_101 : jd cX5_rule 101 (.invokevirtual 202) 3 104 := ⟨by decide +kernel, rfl⟩
theorem dd_X5_rule_104 : jd cX5_rule 104 (.ireturn) 1 105 := ⟨by decide +kernel, rfl⟩
theorem dd_X5_rule_105 : jd cX5_rule 105 (.iconst (-1)) 1 106 := ⟨by decide +kernel, rfl⟩
theorem dd_X5_rule_106 : jd cX5_rule 106 (.ireturn) 1 107 := ⟨by decide +kernel, rfl⟩
theorem dd_X5_rule_34 : jd cX5_rule 34 (.tableswitch 71 0 6 #[42, 47, 52, 52, 52, 64, 66]) 42 76 := ⟨by decide +kernel, rfl⟩
theorem m_X5_rule : jmV yX5_rule cX5_rule 4 (some .int) 1 := ⟨⟨(jj_m (w := Cond.code yX5_rule cX5_rule 4 (some .int)) (List.mem_of_getElem? (i := 964) (by decide +kernel)) rfl), (jj_m (w := Cond.initialized yX5_rule.cls) (List.mem_of_getElem? (i := 69) (by decide +kernel)) rfl), ⟨by decide, by decide⟩, by decide +kernel⟩, (jj_m (w := Cond.instanceMethod yX5_rule) (List.mem_of_getElem? (i := 962) (by decide +kernel)) rfl), (jj_m (w := Cond.selects yX5_rule.cls yX5_rule yX5_rule) (List.mem_of_getElem? (i := 963) (by decide +kernel)) rfl)⟩
def fX5_rule_L8 (i1 : Int32) (S2 : M2) (k33 : Int32 → Option (Int32 × M2)) : Nat → Int32 → Int32 → Option (Int32 × M2)
  | 0, _, _ => none
  | n_ + 1, v3, v4 =>
    if (S2 3 0) ≤ v4 then
      k33 v3
    else
      (fX5_of v4 (3 : Int32) S2).bind fun r5 =>
      lt ((v3 ||| (r5 <<< (v4 &&& 31)))) fun x6 =>
      lt (v4 + (1 : Int32)) fun x7 =>
      fX5_rule_L8 i1 S2 k33 n_ x6 x7

def fX5_rule (i1 : Int32) (S : M2) : Option (Int32 × M2) :=
  (fX5_starts  S).bind fun q1 =>
  lt (q1) fun S2 =>
  fX5_rule_L8 i1 S2
    (fun p9 =>
      if i1 = 0 then
        some ((S2 3 0), S2)
      else
        if i1 = 1 then
          some ((S2 4 0), S2)
        else
          if i1 = 2 then
            bnd (((46 : Int32) + i1) - (2 : Int32)) 186 <|
            some ((S2 0 (((46 : Int32) + i1) - (2 : Int32)).toNatClampNeg), S2)
          else
            if i1 = 3 then
              bnd (((46 : Int32) + i1) - (2 : Int32)) 186 <|
              some ((S2 0 (((46 : Int32) + i1) - (2 : Int32)).toNatClampNeg), S2)
            else
              if i1 = 4 then
                bnd (((46 : Int32) + i1) - (2 : Int32)) 186 <|
                some ((S2 0 (((46 : Int32) + i1) - (2 : Int32)).toNatClampNeg), S2)
              else
                if i1 = 5 then
                  some (p9, S2)
                else
                  if i1 = 6 then
                    (fX5_eaten  S2).bind fun r17 =>
                    some (r17, S2)
                  else
                    some ((-1 : Int32), S2))
    400 (0 : Int32) (0 : Int32)

set_option maxHeartbeats 4000000 in
set_option maxRecDepth 100000 in
theorem tX5_rule_L8 {V : JV M2} {b : Nat} {a : Nat → Nat} (hv : vX5 V b a) (i1 : Int32) (S2 : M2) {E : JE (M2) Int32} (hE : JOk V E cX5_rule yX5_rule.cls 4 3 (some .int) jj_i) {k33 : Int32 → Option (Int32 × M2)} (hk33 : ∀ p, J V E (fun q => (q.1, q.2)) (k33 p) 33 [(0, .ref b), (1, .int i1), (2, .int p)] [] S2) : ∀ (n_ : Nat) (v3 : Int32) (v4 : Int32), J V E (fun q => (q.1, q.2)) (fX5_rule_L8 i1 S2 k33 n_ v3 v4) 8 [(0, .ref b), (1, .int i1), (2, .int v3), (3, .int v4)] [] S2 := by
  intro n_
  induction n_ with
  | zero =>
    intros
    exact J_none
  | succ n_ ih =>
    intros v3 v4
    rw [fX5_rule_L8]
    refine J_iload_n hE dd_X5_rule_8 3 rfl rfl ?_
    refine J_aload_n hE dd_X5_rule_9 0 rfl rfl ?_
    refine J_get hE (hv.ob _) jc_X5 3 (by decide) fl_RX5_63 (v := .int (S2 3 0)) rfl dd_X5_rule_10 ?_
    refine J_icmp_ge hE (tgt := 33) dd_X5_rule_13 (by decide) (fun c8 => ?_) (fun c8 => ?_)
    · refine J_sub [0, 1, 2] rfl ?_
      exact hk33 v3
    · refine J_iload_n hE dd_X5_rule_16 2 rfl rfl ?_
      refine J_aload_n hE dd_X5_rule_17 0 rfl rfl ?_
      refine J_iload_n hE dd_X5_rule_18 3 rfl rfl ?_
      refine J_iconst hE (v := (3 : Int32)) dd_X5_rule_19 (by decide) ?_
      refine J_invVri hE (As := [.int v4, .int (3 : Int32)]) (st := [.int v3]) (tX5_of E.2.1 hv S2 v4 (3 : Int32)) (hv.ob _) m_X5_of rfl ml_RX5_155 (Nat.le_of_ble_eq_true rfl) (Nat.le_of_ble_eq_true rfl) rfl (Nat.le_of_ble_eq_true rfl) dd_X5_rule_20 (fun r5 => ?_)
      refine J_iload_n hE dd_X5_rule_23 3 rfl rfl ?_
      refine J_ishl hE dd_X5_rule_24 ?_
      refine J_ior hE dd_X5_rule_25 ?_
      refine J_leti (fun x6 => ?_)
      refine J_istore_n hE (L' := [(2, .int x6), (0, .ref b), (1, .int i1), (3, .int v4)]) dd_X5_rule_26 (Nat.le_of_ble_eq_true rfl) rfl rfl ?_
      refine J_iincL hE (v := (v4 + (1 : Int32))) (Lf := fun x7 => [(3, .int x7), (2, .int x6), (0, .ref b), (1, .int i1)]) dd_X5_rule_27 (j := 3) rfl (congrArg (v4 + ·) (by decide)) (Nat.le_of_ble_eq_true rfl) (fun _ => rfl) (fun x7 => ?_)
      refine J_goto hE (tgt := 8) dd_X5_rule_30 (by decide) ?_
      refine J_sub [2, 3, 1, 0] rfl ?_
      exact ih x6 x7
set_option maxHeartbeats 4000000 in
set_option maxRecDepth 100000 in
theorem tX5_rule (l : Launch) {V : JV M2} {b : Nat} {a : Nat → Nat} (hv : vX5 V b a) (S : M2) (i1 : Int32) : JC l V yX5_rule cX5_rule 4 (some .int) jj_i 3 [.ref b, .int i1] S ((fX5_rule i1 S).map (fun q => (q.1, q.2))) := by
  refine jj_of (by decide) (Nat.le_of_ble_eq_true rfl) (fun E hlE hE => ?_)
  unfold fX5_rule
  refine J_sub (L' := [(0, .ref b), (1, .int i1)]) [0, 1] rfl ?_
  refine J_aload_n hE dd_X5_rule_0 0 rfl rfl ?_
  refine J_invVwv hE (e := fun x => x) (As := []) (st := []) (tX5_starts E.2.1 hv S ) (hv.ob _) m_X5_starts rfl ml_RX5_199 (Nat.le_of_ble_eq_true rfl) (Nat.le_of_ble_eq_true rfl) rfl (Nat.le_of_ble_eq_true rfl) dd_X5_rule_1 (fun q1 => ?_)
  refine J_letS (fun S2 => ?_)
  refine J_iconst hE (v := (0 : Int32)) dd_X5_rule_4 (by decide) ?_
  refine J_istore_n hE (L' := [(2, .int (0 : Int32)), (0, .ref b), (1, .int i1)]) dd_X5_rule_5 (Nat.le_of_ble_eq_true rfl) rfl rfl ?_
  refine J_iconst hE (v := (0 : Int32)) dd_X5_rule_6 (by decide) ?_
  refine J_istore_n hE (L' := [(3, .int (0 : Int32)), (2, .int (0 : Int32)), (0, .ref b), (1, .int i1)]) dd_X5_rule_7 (Nat.le_of_ble_eq_true rfl) rfl rfl ?_
  refine J_sub [2, 3, 1, 0] rfl ?_
  refine tX5_rule_L8 hv i1 S2 hE (fun p9 => ?_) 400 (0 : Int32) (0 : Int32)
  show J V E _ _ 33 [(0, .ref b), (1, .int i1), (2, .int p9)] [] S2
  refine J_iload_n hE dd_X5_rule_33 1 rfl rfl ?_
  refine J_ite (fun c10 => ?_) (fun c10 => ?_)
  · refine J_tsAt hE c10 (off := 42) (tgt := 76) dd_X5_rule_34 (by decide) (by decide) (by decide) (by decide) ?_
    refine J_aload_n hE dd_X5_rule_76 0 rfl rfl ?_
    refine J_get hE (hv.ob _) jc_X5 3 (by decide) fl_RX5_63 (v := .int (S2 3 0)) rfl dd_X5_rule_77 ?_
    exact J_iret hE dd_X5_rule_80 rfl rfl
  · refine J_ite (fun c11 => ?_) (fun c11 => ?_)
    · refine J_tsAt hE c11 (off := 47) (tgt := 81) dd_X5_rule_34 (by decide) (by decide) (by decide) (by decide) ?_
      refine J_aload_n hE dd_X5_rule_81 0 rfl rfl ?_
      refine J_get hE (hv.ob _) jc_X5 4 (by decide) fl_RX5_66 (v := .int (S2 4 0)) rfl dd_X5_rule_82 ?_
      exact J_iret hE dd_X5_rule_85 rfl rfl
    · refine J_ite (fun c12 => ?_) (fun c12 => ?_)
      · refine J_tsAt hE c12 (off := 52) (tgt := 86) dd_X5_rule_34 (by decide) (by decide) (by decide) (by decide) ?_
        refine J_aload_n hE dd_X5_rule_86 0 rfl rfl ?_
        refine J_get hE (hv.ob _) jc_X5 0 (by decide) fl_RX5_7 (v := .ref (a 0)) rfl dd_X5_rule_87 ?_
        refine J_bipush hE (v := (46 : Int32)) dd_X5_rule_90 (by decide) ?_
        refine J_iload_n hE dd_X5_rule_92 1 rfl rfl ?_
        refine J_iadd hE dd_X5_rule_93 ?_
        refine J_iconst hE (v := (2 : Int32)) dd_X5_rule_94 (by decide) ?_
        refine J_isub hE dd_X5_rule_95 ?_
        refine J_ald hE (hv.arr 0 (n := 186) (ty := .int) (by decide) _) dd_X5_rule_96 ?_
        exact J_iret hE dd_X5_rule_97 rfl rfl
      · refine J_ite (fun c13 => ?_) (fun c13 => ?_)
        · refine J_tsAt hE c13 (off := 52) (tgt := 86) dd_X5_rule_34 (by decide) (by decide) (by decide) (by decide) ?_
          refine J_aload_n hE dd_X5_rule_86 0 rfl rfl ?_
          refine J_get hE (hv.ob _) jc_X5 0 (by decide) fl_RX5_7 (v := .ref (a 0)) rfl dd_X5_rule_87 ?_
          refine J_bipush hE (v := (46 : Int32)) dd_X5_rule_90 (by decide) ?_
          refine J_iload_n hE dd_X5_rule_92 1 rfl rfl ?_
          refine J_iadd hE dd_X5_rule_93 ?_
          refine J_iconst hE (v := (2 : Int32)) dd_X5_rule_94 (by decide) ?_
          refine J_isub hE dd_X5_rule_95 ?_
          refine J_ald hE (hv.arr 0 (n := 186) (ty := .int) (by decide) _) dd_X5_rule_96 ?_
          exact J_iret hE dd_X5_rule_97 rfl rfl
        · refine J_ite (fun c14 => ?_) (fun c14 => ?_)
          · refine J_tsAt hE c14 (off := 52) (tgt := 86) dd_X5_rule_34 (by decide) (by decide) (by decide) (by decide) ?_
            refine J_aload_n hE dd_X5_rule_86 0 rfl rfl ?_
            refine J_get hE (hv.ob _) jc_X5 0 (by decide) fl_RX5_7 (v := .ref (a 0)) rfl dd_X5_rule_87 ?_
            refine J_bipush hE (v := (46 : Int32)) dd_X5_rule_90 (by decide) ?_
            refine J_iload_n hE dd_X5_rule_92 1 rfl rfl ?_
            refine J_iadd hE dd_X5_rule_93 ?_
            refine J_iconst hE (v := (2 : Int32)) dd_X5_rule_94 (by decide) ?_
            refine J_isub hE dd_X5_rule_95 ?_
            refine J_ald hE (hv.arr 0 (n := 186) (ty := .int) (by decide) _) dd_X5_rule_96 ?_
            exact J_iret hE dd_X5_rule_97 rfl rfl
          · refine J_ite (fun c15 => ?_) (fun c15 => ?_)
            · refine J_tsAt hE c15 (off := 64) (tgt := 98) dd_X5_rule_34 (by decide) (by decide) (by decide) (by decide) ?_
              refine J_iload_n hE dd_X5_rule_98 2 rfl rfl ?_
              exact J_iret hE dd_X5_rule_99 rfl rfl
            · refine J_ite (fun c16 => ?_) (fun c16 => ?_)
              · refine J_tsAt hE c16 (off := 66) (tgt := 100) dd_X5_rule_34 (by decide) (by decide) (by decide) (by decide) ?_
                refine J_aload_n hE dd_X5_rule_100 0 rfl rfl ?_
                refine J_invVri hE (As := []) (st := []) (tX5_eaten E.2.1 hv S2 ) (hv.ob _) m_X5_eaten rfl ml_RX5_202 (Nat.le_of_ble_eq_true rfl) (Nat.le_of_ble_eq_true rfl) rfl (Nat.le_of_ble_eq_true rfl) dd_X5_rule_101 (fun r17 => ?_)
                exact J_iret hE dd_X5_rule_104 rfl rfl
              · refine J_tsOut hE (tgt := 105) dd_X5_rule_34 (by have e0 : ¬ (i1).toInt = 0 := fun q => c10 (Int32.toInt_inj.mp (q.trans (by decide))); have e1 : ¬ (i1).toInt = 1 := fun q => c11 (Int32.toInt_inj.mp (q.trans (by decide))); have e2 : ¬ (i1).toInt = 2 := fun q => c12 (Int32.toInt_inj.mp (q.trans (by decide))); have e3 : ¬ (i1).toInt = 3 := fun q => c13 (Int32.toInt_inj.mp (q.trans (by decide))); have e4 : ¬ (i1).toInt = 4 := fun q => c14 (Int32.toInt_inj.mp (q.trans (by decide))); have e5 : ¬ (i1).toInt = 5 := fun q => c15 (Int32.toInt_inj.mp (q.trans (by decide))); have e6 : ¬ (i1).toInt = 6 := fun q => c16 (Int32.toInt_inj.mp (q.trans (by decide))); omega) (by decide) ?_
                refine J_iconst hE (v := (-1 : Int32)) dd_X5_rule_105 (by decide) ?_
                exact J_iret hE dd_X5_rule_106 rfl rfl
theorem dd_X5_bolt_0 : jd cX5_bolt 0 (.aload_n 0) 1 1 := ⟨by decide +kernel, rfl⟩
theorem dd_X5_bolt_1 : jd cX5_bolt 1 (.iload_n 1) 1 2 := ⟨by decide +kernel, rfl⟩
theorem ml_RX5_205 : (Cond.methodLink "MothCustomsModel" 205 yX5_isBolt : Cond) ∈ jj_tb := jj_m (List.mem_of_getElem? (i := 985) (by decide +kernel)) rfl
theorem dd_X5_bolt_2 : jd cX5_bolt 2 (.invokevirtual 205) 3 5 := ⟨by decide +kernel, rfl⟩
theorem dd_X5_bolt_34 : jd cX5_bolt 34 (.iconst (-1)) 1 35 := ⟨by decide +kernel, rfl⟩
theorem dd_X5_bolt_35 : jd cX5_bolt 35 (.ireturn) 1 36 := ⟨by decide +kernel, rfl⟩
theorem dd_X5_bolt_8 : jd cX5_bolt 8 (.iload_n 2) 1 9 := ⟨by decide +kernel, rfl⟩
theorem dd_X5_bolt_9 : jd cX5_bolt 9 (.i2l) 1 10 := ⟨by decide +kernel, rfl⟩
theorem dd_X5_bolt_10 : jd cX5_bolt 10 (.lconst 0) 1 11 := ⟨by decide +kernel, rfl⟩
theorem cl_RX5_208 : (Cond.constantLong "MothCustomsModel" 208 (5 : Int64) : Cond) ∈ jj_tb := jj_m (List.mem_of_getElem? (i := 989) (by decide +kernel)) rfl
theorem dd_X5_bolt_11 : jd cX5_bolt 11 (.ldc2_w 208) 3 14 := ⟨by decide +kernel, rfl⟩
theorem dd_X5_bolt_14 : jd cX5_bolt 14 (.invokestatic 71) 3 17 := ⟨by decide +kernel, rfl⟩
theorem dd_X5_bolt_20 : jd cX5_bolt 20 (.aload_n 0) 1 21 := ⟨by decide +kernel, rfl⟩
theorem dd_X5_bolt_21 : jd cX5_bolt 21 (.getfield 7) 3 24 := ⟨by decide +kernel, rfl⟩
theorem dd_X5_bolt_24 : jd cX5_bolt 24 (.bipush 6) 2 26 := ⟨by decide +kernel, rfl⟩
theorem dd_X5_bolt_26 : jd cX5_bolt 26 (.iload_n 1) 1 27 := ⟨by decide +kernel, rfl⟩
theorem dd_X5_bolt_27 : jd cX5_bolt 27 (.imul) 1 28 := ⟨by decide +kernel, rfl⟩
theorem dd_X5_bolt_28 : jd cX5_bolt 28 (.iload_n 2) 1 29 := ⟨by decide +kernel, rfl⟩
theorem dd_X5_bolt_29 : jd cX5_bolt 29 (.iadd) 1 30 := ⟨by decide +kernel, rfl⟩
theorem dd_X5_bolt_30 : jd cX5_bolt 30 (.iaload) 1 31 := ⟨by decide +kernel, rfl⟩
theorem dd_X5_bolt_31 : jd cX5_bolt 31 (.goto 4) 3 34 := ⟨by decide +kernel, rfl⟩
theorem dd_X5_bolt_17 : jd cX5_bolt 17 (.ifCond .eq 17) 3 20 := ⟨by decide +kernel, rfl⟩
theorem dd_X5_bolt_5 : jd cX5_bolt 5 (.ifCond .eq 29) 3 8 := ⟨by decide +kernel, rfl⟩
theorem m_X5_bolt : jmV yX5_bolt cX5_bolt 3 (some .int) 2 := ⟨⟨(jj_m (w := Cond.code yX5_bolt cX5_bolt 3 (some .int)) (List.mem_of_getElem? (i := 984) (by decide +kernel)) rfl), (jj_m (w := Cond.initialized yX5_bolt.cls) (List.mem_of_getElem? (i := 69) (by decide +kernel)) rfl), ⟨by decide, by decide⟩, by decide +kernel⟩, (jj_m (w := Cond.instanceMethod yX5_bolt) (List.mem_of_getElem? (i := 982) (by decide +kernel)) rfl), (jj_m (w := Cond.selects yX5_bolt.cls yX5_bolt yX5_bolt) (List.mem_of_getElem? (i := 983) (by decide +kernel)) rfl)⟩
def fX5_bolt (i1 : Int32) (i2 : Int32) (S : M2) : Option (Int32) :=
  (fX5_isBolt i1 S).bind fun r1 =>
  if r1 = 0 then
    some (-1 : Int32)
  else
    (fX5_in (i2.toInt64) (0 : Int64) (5 : Int64)).bind fun r2 =>
    if r2 = 0 then
      some (-1 : Int32)
    else
      bnd (((6 : Int32) * i1) + i2) 186 <|
      some (S 0 (((6 : Int32) * i1) + i2).toNatClampNeg)

set_option maxHeartbeats 4000000 in
set_option maxRecDepth 100000 in
theorem tX5_bolt (l : Launch) {V : JV M2} {b : Nat} {a : Nat → Nat} (hv : vX5 V b a) (S : M2) (i1 : Int32) (i2 : Int32) : JC l V yX5_bolt cX5_bolt 3 (some .int) jj_i 2 [.ref b, .int i1, .int i2] S ((fX5_bolt i1 i2 S).map (fun r => (r, S))) := by
  refine jj_of (by decide) (Nat.le_of_ble_eq_true rfl) (fun E hlE hE => ?_)
  unfold fX5_bolt
  refine J_sub (L' := [(0, .ref b), (1, .int i1), (2, .int i2)]) [0, 1, 2] rfl ?_
  refine J_aload_n hE dd_X5_bolt_0 0 rfl rfl ?_
  refine J_iload_n hE dd_X5_bolt_1 1 rfl rfl ?_
  refine J_invVri hE (As := [.int i1]) (st := []) (tX5_isBolt E.2.1 hv S i1) (hv.ob _) m_X5_isBolt rfl ml_RX5_205 (Nat.le_of_ble_eq_true rfl) (Nat.le_of_ble_eq_true rfl) rfl (Nat.le_of_ble_eq_true rfl) dd_X5_bolt_2 (fun r1 => ?_)
  refine J_if_eq hE (tgt := 34) dd_X5_bolt_5 (by decide) (fun c4 => ?_) (fun c4 => ?_)
  · refine J_iconst hE (v := (-1 : Int32)) dd_X5_bolt_34 (by decide) ?_
    exact J_iret hE dd_X5_bolt_35 rfl rfl
  · refine J_iload_n hE dd_X5_bolt_8 2 rfl rfl ?_
    refine J_i2l hE dd_X5_bolt_9 ?_
    refine J_lconst hE (v := (0 : Int64)) dd_X5_bolt_10 (by decide) ?_
    refine J_ldc2 hE (v := (5 : Int64)) dd_X5_bolt_11 cl_RX5_208 ?_
    refine J_invSri hE (As := [.long (i2.toInt64), .long (0 : Int64), .long (5 : Int64)]) (st := []) (tX5_in E.2.1 V S (i2.toInt64) (0 : Int64) (5 : Int64)) m_X5_in s_X5_in rfl ml_RX5_71 (Nat.le_of_ble_eq_true rfl) (Nat.le_of_ble_eq_true rfl) rfl (Nat.le_of_ble_eq_true rfl) dd_X5_bolt_14 (fun r2 => ?_)
    refine J_if_eq hE (tgt := 34) dd_X5_bolt_17 (by decide) (fun c3 => ?_) (fun c3 => ?_)
    · refine J_iconst hE (v := (-1 : Int32)) dd_X5_bolt_34 (by decide) ?_
      exact J_iret hE dd_X5_bolt_35 rfl rfl
    · refine J_aload_n hE dd_X5_bolt_20 0 rfl rfl ?_
      refine J_get hE (hv.ob _) jc_X5 0 (by decide) fl_RX5_7 (v := .ref (a 0)) rfl dd_X5_bolt_21 ?_
      refine J_bipush hE (v := (6 : Int32)) dd_X5_bolt_24 (by decide) ?_
      refine J_iload_n hE dd_X5_bolt_26 1 rfl rfl ?_
      refine J_imul hE dd_X5_bolt_27 ?_
      refine J_iload_n hE dd_X5_bolt_28 2 rfl rfl ?_
      refine J_iadd hE dd_X5_bolt_29 ?_
      refine J_ald hE (hv.arr 0 (n := 186) (ty := .int) (by decide) _) dd_X5_bolt_30 ?_
      refine J_goto hE (tgt := 35) dd_X5_bolt_31 (by decide) ?_
      exact J_iret hE dd_X5_bolt_35 rfl rfl
theorem dd_X5_moth_0 : jd cX5_moth 0 (.aload_n 0) 1 1 := ⟨by decide +kernel, rfl⟩
theorem dd_X5_moth_1 : jd cX5_moth 1 (.iload_n 1) 1 2 := ⟨by decide +kernel, rfl⟩
theorem ml_RX5_210 : (Cond.methodLink "MothCustomsModel" 210 yX5_isMoth : Cond) ∈ jj_tb := jj_m (List.mem_of_getElem? (i := 994) (by decide +kernel)) rfl
theorem dd_X5_moth_2 : jd cX5_moth 2 (.invokevirtual 210) 3 5 := ⟨by decide +kernel, rfl⟩
theorem dd_X5_moth_20 : jd cX5_moth 20 (.iconst (-1)) 1 21 := ⟨by decide +kernel, rfl⟩
theorem dd_X5_moth_21 : jd cX5_moth 21 (.ireturn) 1 22 := ⟨by decide +kernel, rfl⟩
theorem dd_X5_moth_8 : jd cX5_moth 8 (.iload_n 2) 1 9 := ⟨by decide +kernel, rfl⟩
theorem dd_X5_moth_9 : jd cX5_moth 9 (.i2l) 1 10 := ⟨by decide +kernel, rfl⟩
theorem dd_X5_moth_10 : jd cX5_moth 10 (.lconst 0) 1 11 := ⟨by decide +kernel, rfl⟩
theorem dd_X5_moth_11 : jd cX5_moth 11 (.ldc2_w 208) 3 14 := ⟨by decide +kernel, rfl⟩
theorem dd_X5_moth_14 : jd cX5_moth 14 (.invokestatic 71) 3 17 := ⟨by decide +kernel, rfl⟩
theorem dd_X5_moth_22 : jd cX5_moth 22 (.aload_n 0) 1 23 := ⟨by decide +kernel, rfl⟩
theorem dd_X5_moth_23 : jd cX5_moth 23 (.invokevirtual 199) 3 26 := ⟨by decide +kernel, rfl⟩
theorem dd_X5_moth_26 : jd cX5_moth 26 (.iconst 0) 1 27 := ⟨by decide +kernel, rfl⟩
theorem dd_X5_moth_27 : jd cX5_moth 27 (.istore_n 3) 1 28 := ⟨by decide +kernel, rfl⟩
theorem dd_X5_moth_28 : jd cX5_moth 28 (.iconst 0) 1 29 := ⟨by decide +kernel, rfl⟩
theorem dd_X5_moth_29 : jd cX5_moth 29 (.istore 4) 2 31 := ⟨by decide +kernel, rfl⟩
theorem dd_X5_moth_31 : jd cX5_moth 31 (.iload 4) 2 33 := ⟨by decide +kernel, rfl⟩
theorem dd_X5_moth_33 : jd cX5_moth 33 (.aload_n 0) 1 34 := ⟨by decide +kernel, rfl⟩
theorem dd_X5_moth_34 : jd cX5_moth 34 (.getfield 63) 3 37 := ⟨by decide +kernel, rfl⟩
theorem dd_X5_moth_40 : jd cX5_moth 40 (.iload_n 3) 1 41 := ⟨by decide +kernel, rfl⟩
theorem dd_X5_moth_41 : jd cX5_moth 41 (.aload_n 0) 1 42 := ⟨by decide +kernel, rfl⟩
theorem dd_X5_moth_42 : jd cX5_moth 42 (.iload_n 1) 1 43 := ⟨by decide +kernel, rfl⟩
theorem dd_X5_moth_43 : jd cX5_moth 43 (.iload 4) 2 45 := ⟨by decide +kernel, rfl⟩
theorem dd_X5_moth_45 : jd cX5_moth 45 (.invokevirtual 172) 3 48 := ⟨by decide +kernel, rfl⟩
theorem dd_X5_moth_48 : jd cX5_moth 48 (.invokestatic 129) 3 51 := ⟨by decide +kernel, rfl⟩
theorem dd_X5_moth_51 : jd cX5_moth 51 (.iload 4) 2 53 := ⟨by decide +kernel, rfl⟩
theorem dd_X5_moth_53 : jd cX5_moth 53 (.ishl) 1 54 := ⟨by decide +kernel, rfl⟩
theorem dd_X5_moth_54 : jd cX5_moth 54 (.ior) 1 55 := ⟨by decide +kernel, rfl⟩
theorem dd_X5_moth_55 : jd cX5_moth 55 (.istore_n 3) 1 56 := ⟨by decide +kernel, rfl⟩
theorem dd_X5_moth_56 : jd cX5_moth 56 (.iinc 4 1) 3 59 := ⟨by decide +kernel, rfl⟩
theorem dd_X5_moth_59 : jd cX5_moth 59 (.goto (-28)) 3 62 := ⟨by decide +kernel, rfl⟩
theorem dd_X5_moth_37 : jd cX5_moth 37 (.if_icmp .ge 25) 3 40 := ⟨by decide +kernel, rfl⟩
theorem dd_X5_moth_62 : jd cX5_moth 62 (.iload_n 2) 1 63 := ⟨by decide +kernel, rfl⟩
theorem dd_X5_moth_63 : jd cX5_moth 63 (.iconst 4) 1 64 := ⟨by decide +kernel, rfl⟩
theorem dd_X5_moth_76 : jd cX5_moth 76 (.iload_n 2) 1 77 := ⟨by decide +kernel, rfl⟩
theorem dd_X5_moth_77 : jd cX5_moth 77 (.iconst 4) 1 78 := ⟨by decide +kernel, rfl⟩
theorem dd_X5_moth_89 : jd cX5_moth 89 (.iload_n 3) 1 90 := ⟨by decide +kernel, rfl⟩
theorem dd_X5_moth_90 : jd cX5_moth 90 (.ireturn) 1 91 := ⟨by decide +kernel, rfl⟩
theorem dd_X5_moth_81 : jd cX5_moth 81 (.aload_n 0) 1 82 := ⟨by decide +kernel, rfl⟩
theorem dd_X5_moth_82 : jd cX5_moth 82 (.iload_n 1) 1 83 := ⟨by decide +kernel, rfl⟩
theorem dd_X5_moth_83 : jd cX5_moth 83 (.invokevirtual 163) 3 86 := ⟨by decide +kernel, rfl⟩
theorem dd_X5_moth_86 : jd cX5_moth 86 (.goto 4) 3 89 := ⟨by decide +kernel, rfl⟩
theorem dd_X5_moth_78 : jd cX5_moth 78 (.if_icmp .ne 11) 3 81 := ⟨by decide +kernel, rfl⟩
theorem dd_X5_moth_67 : jd cX5_moth 67 (.aload_n 0) 1 68 := ⟨by decide +kernel, rfl⟩
theorem dd_X5_moth_68 : jd cX5_moth 68 (.iload_n 1) 1 69 := ⟨by decide +kernel, rfl⟩
theorem dd_X5_moth_69 : jd cX5_moth 69 (.iload_n 2) 1 70 := ⟨by decide +kernel, rfl⟩
theorem dd_X5_moth_70 : jd cX5_moth 70 (.invokevirtual 158) 3 73 := ⟨by decide +kernel, rfl⟩
theorem dd_X5_moth_73 : jd cX5_moth 73 (.goto 17) 3 76 := ⟨by decide +kernel, rfl⟩
theorem dd_X5_moth_64 : jd cX5_moth 64 (.if_icmp .ge 12) 3 67 := ⟨by decide +kernel, rfl⟩
theorem dd_X5_moth_17 : jd cX5_moth 17 (.ifCond .ne 5) 3 20 := ⟨by decide +kernel, rfl⟩
theorem dd_X5_moth_5 : jd cX5_moth 5 (.ifCond .eq 15) 3 8 := ⟨by decide +kernel, rfl⟩
theorem m_X5_moth : jmV yX5_moth cX5_moth 5 (some .int) 2 := ⟨⟨(jj_m (w := Cond.code yX5_moth cX5_moth 5 (some .int)) (List.mem_of_getElem? (i := 993) (by decide +kernel)) rfl), (jj_m (w := Cond.initialized yX5_moth.cls) (List.mem_of_getElem? (i := 69) (by decide +kernel)) rfl), ⟨by decide, by decide⟩, by decide +kernel⟩, (jj_m (w := Cond.instanceMethod yX5_moth) (List.mem_of_getElem? (i := 991) (by decide +kernel)) rfl), (jj_m (w := Cond.selects yX5_moth.cls yX5_moth yX5_moth) (List.mem_of_getElem? (i := 992) (by decide +kernel)) rfl)⟩
def fX5_moth_L31 (i1 : Int32) (i2 : Int32) (S4 : M2) (k62 : Int32 → Option (Int32 × M2)) : Nat → Int32 → Int32 → Option (Int32 × M2)
  | 0, _, _ => none
  | n_ + 1, v5, v6 =>
    if (S4 3 0) ≤ v6 then
      k62 v5
    else
      (fX5_doesLike i1 v6 S4).bind fun r7 =>
      (fX5_flag r7).bind fun r8 =>
      lt ((v5 ||| (r8 <<< (v6 &&& 31)))) fun x9 =>
      lt (v6 + (1 : Int32)) fun x10 =>
      fX5_moth_L31 i1 i2 S4 k62 n_ x9 x10

def fX5_moth (i1 : Int32) (i2 : Int32) (S : M2) : Option (Int32 × M2) :=
  (fX5_isMoth i1 S).bind fun r1 =>
  if r1 = 0 then
    some ((-1 : Int32), S)
  else
    (fX5_in (i2.toInt64) (0 : Int64) (5 : Int64)).bind fun r2 =>
    if r2 = 0 then
      some ((-1 : Int32), S)
    else
      (fX5_starts  S).bind fun q3 =>
      lt (q3) fun S4 =>
      fX5_moth_L31 i1 i2 S4
        (fun p12 =>
          if (4 : Int32) ≤ i2 then
            if i2 = (4 : Int32) then
              (fX5_appetite i1 S4).bind fun r13 =>
              some (r13, S4)
            else
              some (p12, S4)
          else
            (fX5_mothOf i1 i2 S4).bind fun r15 =>
            some (r15, S4))
        400 (0 : Int32) (0 : Int32)

set_option maxHeartbeats 4000000 in
set_option maxRecDepth 100000 in
theorem tX5_moth_L31 {V : JV M2} {b : Nat} {a : Nat → Nat} (hv : vX5 V b a) (i1 : Int32) (i2 : Int32) (S4 : M2) {E : JE (M2) Int32} (hE : JOk V E cX5_moth yX5_moth.cls 5 2 (some .int) jj_i) {k62 : Int32 → Option (Int32 × M2)} (hk62 : ∀ p, J V E (fun q => (q.1, q.2)) (k62 p) 62 [(0, .ref b), (1, .int i1), (2, .int i2), (3, .int p)] [] S4) : ∀ (n_ : Nat) (v5 : Int32) (v6 : Int32), J V E (fun q => (q.1, q.2)) (fX5_moth_L31 i1 i2 S4 k62 n_ v5 v6) 31 [(0, .ref b), (1, .int i1), (2, .int i2), (3, .int v5), (4, .int v6)] [] S4 := by
  intro n_
  induction n_ with
  | zero =>
    intros
    exact J_none
  | succ n_ ih =>
    intros v5 v6
    rw [fX5_moth_L31]
    refine J_iload hE dd_X5_moth_31 4 rfl ?_
    refine J_aload_n hE dd_X5_moth_33 0 rfl rfl ?_
    refine J_get hE (hv.ob _) jc_X5 3 (by decide) fl_RX5_63 (v := .int (S4 3 0)) rfl dd_X5_moth_34 ?_
    refine J_icmp_ge hE (tgt := 62) dd_X5_moth_37 (by decide) (fun c11 => ?_) (fun c11 => ?_)
    · refine J_sub [0, 1, 2, 3] rfl ?_
      exact hk62 v5
    · refine J_iload_n hE dd_X5_moth_40 3 rfl rfl ?_
      refine J_aload_n hE dd_X5_moth_41 0 rfl rfl ?_
      refine J_iload_n hE dd_X5_moth_42 1 rfl rfl ?_
      refine J_iload hE dd_X5_moth_43 4 rfl ?_
      refine J_invVri hE (As := [.int i1, .int v6]) (st := [.int v5]) (tX5_doesLike E.2.1 hv S4 i1 v6) (hv.ob _) m_X5_doesLike rfl ml_RX5_172 (Nat.le_of_ble_eq_true rfl) (Nat.le_of_ble_eq_true rfl) rfl (Nat.le_of_ble_eq_true rfl) dd_X5_moth_45 (fun r7 => ?_)
      refine J_invSri hE (As := [.int r7]) (st := [.int v5]) (tX5_flag E.2.1 V S4 r7) m_X5_flag s_X5_flag rfl ml_RX5_129 (Nat.le_of_ble_eq_true rfl) (Nat.le_of_ble_eq_true rfl) rfl (Nat.le_of_ble_eq_true rfl) dd_X5_moth_48 (fun r8 => ?_)
      refine J_iload hE dd_X5_moth_51 4 rfl ?_
      refine J_ishl hE dd_X5_moth_53 ?_
      refine J_ior hE dd_X5_moth_54 ?_
      refine J_leti (fun x9 => ?_)
      refine J_istore_n hE (L' := [(3, .int x9), (0, .ref b), (1, .int i1), (2, .int i2), (4, .int v6)]) dd_X5_moth_55 (Nat.le_of_ble_eq_true rfl) rfl rfl ?_
      refine J_iincL hE (v := (v6 + (1 : Int32))) (Lf := fun x10 => [(4, .int x10), (3, .int x9), (0, .ref b), (1, .int i1), (2, .int i2)]) dd_X5_moth_56 (j := 4) rfl (congrArg (v6 + ·) (by decide)) (Nat.le_of_ble_eq_true rfl) (fun _ => rfl) (fun x10 => ?_)
      refine J_goto hE (tgt := 31) dd_X5_moth_59 (by decide) ?_
      refine J_sub [2, 3, 4, 1, 0] rfl ?_
      exact ih x9 x10
set_option maxHeartbeats 4000000 in
set_option maxRecDepth 100000 in
theorem tX5_moth (l : Launch) {V : JV M2} {b : Nat} {a : Nat → Nat} (hv : vX5 V b a) (S : M2) (i1 : Int32) (i2 : Int32) : JC l V yX5_moth cX5_moth 5 (some .int) jj_i 2 [.ref b, .int i1, .int i2] S ((fX5_moth i1 i2 S).map (fun q => (q.1, q.2))) := by
  refine jj_of (by decide) (Nat.le_of_ble_eq_true rfl) (fun E hlE hE => ?_)
  unfold fX5_moth
  refine J_sub (L' := [(0, .ref b), (1, .int i1), (2, .int i2)]) [0, 1, 2] rfl ?_
  refine J_aload_n hE dd_X5_moth_0 0 rfl rfl ?_
  refine J_iload_n hE dd_X5_moth_1 1 rfl rfl ?_
  refine J_invVri hE (As := [.int i1]) (st := []) (tX5_isMoth E.2.1 hv S i1) (hv.ob _) m_X5_isMoth rfl ml_RX5_210 (Nat.le_of_ble_eq_true rfl) (Nat.le_of_ble_eq_true rfl) rfl (Nat.le_of_ble_eq_true rfl) dd_X5_moth_2 (fun r1 => ?_)
  refine J_if_eq hE (tgt := 20) dd_X5_moth_5 (by decide) (fun c18 => ?_) (fun c18 => ?_)
  · refine J_iconst hE (v := (-1 : Int32)) dd_X5_moth_20 (by decide) ?_
    exact J_iret hE dd_X5_moth_21 rfl rfl
  · refine J_iload_n hE dd_X5_moth_8 2 rfl rfl ?_
    refine J_i2l hE dd_X5_moth_9 ?_
    refine J_lconst hE (v := (0 : Int64)) dd_X5_moth_10 (by decide) ?_
    refine J_ldc2 hE (v := (5 : Int64)) dd_X5_moth_11 cl_RX5_208 ?_
    refine J_invSri hE (As := [.long (i2.toInt64), .long (0 : Int64), .long (5 : Int64)]) (st := []) (tX5_in E.2.1 V S (i2.toInt64) (0 : Int64) (5 : Int64)) m_X5_in s_X5_in rfl ml_RX5_71 (Nat.le_of_ble_eq_true rfl) (Nat.le_of_ble_eq_true rfl) rfl (Nat.le_of_ble_eq_true rfl) dd_X5_moth_14 (fun r2 => ?_)
    refine J_if_ne hE (tgt := 22) dd_X5_moth_17 (by decide) (fun c17 => ?_) (fun c17 => ?_)
    · refine J_aload_n hE dd_X5_moth_22 0 rfl rfl ?_
      refine J_invVwv hE (e := fun x => x) (As := []) (st := []) (tX5_starts E.2.1 hv S ) (hv.ob _) m_X5_starts rfl ml_RX5_199 (Nat.le_of_ble_eq_true rfl) (Nat.le_of_ble_eq_true rfl) rfl (Nat.le_of_ble_eq_true rfl) dd_X5_moth_23 (fun q3 => ?_)
      refine J_letS (fun S4 => ?_)
      refine J_iconst hE (v := (0 : Int32)) dd_X5_moth_26 (by decide) ?_
      refine J_istore_n hE (L' := [(3, .int (0 : Int32)), (0, .ref b), (1, .int i1), (2, .int i2)]) dd_X5_moth_27 (Nat.le_of_ble_eq_true rfl) rfl rfl ?_
      refine J_iconst hE (v := (0 : Int32)) dd_X5_moth_28 (by decide) ?_
      refine J_istore hE (L' := [(4, .int (0 : Int32)), (3, .int (0 : Int32)), (0, .ref b), (1, .int i1), (2, .int i2)]) dd_X5_moth_29 (Nat.le_of_ble_eq_true rfl) rfl ?_
      refine J_sub [2, 3, 4, 1, 0] rfl ?_
      refine tX5_moth_L31 hv i1 i2 S4 hE (fun p12 => ?_) 400 (0 : Int32) (0 : Int32)
      show J V E _ _ 62 [(0, .ref b), (1, .int i1), (2, .int i2), (3, .int p12)] [] S4
      refine J_iload_n hE dd_X5_moth_62 2 rfl rfl ?_
      refine J_iconst hE (v := (4 : Int32)) dd_X5_moth_63 (by decide) ?_
      refine J_icmp_ge hE (tgt := 76) dd_X5_moth_64 (by decide) (fun c16 => ?_) (fun c16 => ?_)
      · refine J_iload_n hE dd_X5_moth_76 2 rfl rfl ?_
        refine J_iconst hE (v := (4 : Int32)) dd_X5_moth_77 (by decide) ?_
        refine J_icmp_ne hE (tgt := 89) dd_X5_moth_78 (by decide) (fun c14 => ?_) (fun c14 => ?_)
        · refine J_iload_n hE dd_X5_moth_89 3 rfl rfl ?_
          exact J_iret hE dd_X5_moth_90 rfl rfl
        · refine J_aload_n hE dd_X5_moth_81 0 rfl rfl ?_
          refine J_iload_n hE dd_X5_moth_82 1 rfl rfl ?_
          refine J_invVri hE (As := [.int i1]) (st := []) (tX5_appetite E.2.1 hv S4 i1) (hv.ob _) m_X5_appetite rfl ml_RX5_163 (Nat.le_of_ble_eq_true rfl) (Nat.le_of_ble_eq_true rfl) rfl (Nat.le_of_ble_eq_true rfl) dd_X5_moth_83 (fun r13 => ?_)
          refine J_goto hE (tgt := 90) dd_X5_moth_86 (by decide) ?_
          exact J_iret hE dd_X5_moth_90 rfl rfl
      · refine J_aload_n hE dd_X5_moth_67 0 rfl rfl ?_
        refine J_iload_n hE dd_X5_moth_68 1 rfl rfl ?_
        refine J_iload_n hE dd_X5_moth_69 2 rfl rfl ?_
        refine J_invVri hE (As := [.int i1, .int i2]) (st := []) (tX5_mothOf E.2.1 hv S4 i1 i2) (hv.ob _) m_X5_mothOf rfl ml_RX5_158 (Nat.le_of_ble_eq_true rfl) (Nat.le_of_ble_eq_true rfl) rfl (Nat.le_of_ble_eq_true rfl) dd_X5_moth_70 (fun r15 => ?_)
        refine J_goto hE (tgt := 90) dd_X5_moth_73 (by decide) ?_
        exact J_iret hE dd_X5_moth_90 rfl rfl
    · refine J_iconst hE (v := (-1 : Int32)) dd_X5_moth_20 (by decide) ?_
      exact J_iret hE dd_X5_moth_21 rfl rfl
theorem dd_X5_bale_0 : jd cX5_bale 0 (.iload_n 1) 1 1 := ⟨by decide +kernel, rfl⟩
theorem ml_RX5_213 : (Cond.methodLink "MothCustomsModel" 213 yX5_isBale : Cond) ∈ jj_tb := jj_m (List.mem_of_getElem? (i := 1015) (by decide +kernel)) rfl
theorem dd_X5_bale_1 : jd cX5_bale 1 (.invokestatic 213) 3 4 := ⟨by decide +kernel, rfl⟩
theorem dd_X5_bale_9 : jd cX5_bale 9 (.aload_n 0) 1 10 := ⟨by decide +kernel, rfl⟩
theorem dd_X5_bale_10 : jd cX5_bale 10 (.invokevirtual 199) 3 13 := ⟨by decide +kernel, rfl⟩
theorem dd_X5_bale_13 : jd cX5_bale 13 (.iload_n 2) 1 14 := ⟨by decide +kernel, rfl⟩
theorem dd_X5_bale_25 : jd cX5_bale 25 (.iload_n 2) 1 26 := ⟨by decide +kernel, rfl⟩
theorem dd_X5_bale_26 : jd cX5_bale 26 (.iconst 1) 1 27 := ⟨by decide +kernel, rfl⟩
theorem dd_X5_bale_38 : jd cX5_bale 38 (.iload_n 2) 1 39 := ⟨by decide +kernel, rfl⟩
theorem dd_X5_bale_39 : jd cX5_bale 39 (.bipush 10) 2 41 := ⟨by decide +kernel, rfl⟩
theorem dd_X5_bale_41 : jd cX5_bale 41 (.isub) 1 42 := ⟨by decide +kernel, rfl⟩
theorem dd_X5_bale_42 : jd cX5_bale 42 (.i2l) 1 43 := ⟨by decide +kernel, rfl⟩
theorem dd_X5_bale_43 : jd cX5_bale 43 (.lconst 0) 1 44 := ⟨by decide +kernel, rfl⟩
theorem cl_RX5_216 : (Cond.constantLong "MothCustomsModel" 216 (4 : Int64) : Cond) ∈ jj_tb := jj_m (List.mem_of_getElem? (i := 1031) (by decide +kernel)) rfl
theorem dd_X5_bale_44 : jd cX5_bale 44 (.ldc2_w 216) 3 47 := ⟨by decide +kernel, rfl⟩
theorem dd_X5_bale_47 : jd cX5_bale 47 (.invokestatic 71) 3 50 := ⟨by decide +kernel, rfl⟩
theorem dd_X5_bale_65 : jd cX5_bale 65 (.iconst (-1)) 1 66 := ⟨by decide +kernel, rfl⟩
theorem dd_X5_bale_66 : jd cX5_bale 66 (.ireturn) 1 67 := ⟨by decide +kernel, rfl⟩
theorem dd_X5_bale_53 : jd cX5_bale 53 (.aload_n 0) 1 54 := ⟨by decide +kernel, rfl⟩
theorem dd_X5_bale_54 : jd cX5_bale 54 (.iload_n 1) 1 55 := ⟨by decide +kernel, rfl⟩
theorem dd_X5_bale_55 : jd cX5_bale 55 (.iload_n 2) 1 56 := ⟨by decide +kernel, rfl⟩
theorem dd_X5_bale_56 : jd cX5_bale 56 (.bipush 10) 2 58 := ⟨by decide +kernel, rfl⟩
theorem dd_X5_bale_58 : jd cX5_bale 58 (.isub) 1 59 := ⟨by decide +kernel, rfl⟩
theorem dd_X5_bale_59 : jd cX5_bale 59 (.invokevirtual 169) 3 62 := ⟨by decide +kernel, rfl⟩
theorem dd_X5_bale_62 : jd cX5_bale 62 (.goto 4) 3 65 := ⟨by decide +kernel, rfl⟩
theorem dd_X5_bale_50 : jd cX5_bale 50 (.ifCond .eq 15) 3 53 := ⟨by decide +kernel, rfl⟩
theorem dd_X5_bale_30 : jd cX5_bale 30 (.aload_n 0) 1 31 := ⟨by decide +kernel, rfl⟩
theorem dd_X5_bale_31 : jd cX5_bale 31 (.iload_n 1) 1 32 := ⟨by decide +kernel, rfl⟩
theorem dd_X5_bale_32 : jd cX5_bale 32 (.invokevirtual 189) 3 35 := ⟨by decide +kernel, rfl⟩
theorem dd_X5_bale_35 : jd cX5_bale 35 (.goto 31) 3 38 := ⟨by decide +kernel, rfl⟩
theorem dd_X5_bale_27 : jd cX5_bale 27 (.if_icmp .ne 11) 3 30 := ⟨by decide +kernel, rfl⟩
theorem dd_X5_bale_17 : jd cX5_bale 17 (.aload_n 0) 1 18 := ⟨by decide +kernel, rfl⟩
theorem dd_X5_bale_18 : jd cX5_bale 18 (.iload_n 1) 1 19 := ⟨by decide +kernel, rfl⟩
theorem dd_X5_bale_19 : jd cX5_bale 19 (.invokevirtual 166) 3 22 := ⟨by decide +kernel, rfl⟩
theorem dd_X5_bale_22 : jd cX5_bale 22 (.goto 44) 3 25 := ⟨by decide +kernel, rfl⟩
theorem dd_X5_bale_14 : jd cX5_bale 14 (.ifCond .ne 11) 3 17 := ⟨by decide +kernel, rfl⟩
theorem dd_X5_bale_7 : jd cX5_bale 7 (.iconst (-1)) 1 8 := ⟨by decide +kernel, rfl⟩
theorem dd_X5_bale_8 : jd cX5_bale 8 (.ireturn) 1 9 := ⟨by decide +kernel, rfl⟩
theorem dd_X5_bale_4 : jd cX5_bale 4 (.ifCond .ne 5) 3 7 := ⟨by decide +kernel, rfl⟩
theorem m_X5_bale : jmV yX5_bale cX5_bale 3 (some .int) 2 := ⟨⟨(jj_m (w := Cond.code yX5_bale cX5_bale 3 (some .int)) (List.mem_of_getElem? (i := 1014) (by decide +kernel)) rfl), (jj_m (w := Cond.initialized yX5_bale.cls) (List.mem_of_getElem? (i := 69) (by decide +kernel)) rfl), ⟨by decide, by decide⟩, by decide +kernel⟩, (jj_m (w := Cond.instanceMethod yX5_bale) (List.mem_of_getElem? (i := 1012) (by decide +kernel)) rfl), (jj_m (w := Cond.selects yX5_bale.cls yX5_bale yX5_bale) (List.mem_of_getElem? (i := 1013) (by decide +kernel)) rfl)⟩
def fX5_bale (i1 : Int32) (i2 : Int32) (S : M2) : Option (Int32 × M2) :=
  (fX5_isBale i1).bind fun r1 =>
  if r1 = 0 then
    some ((-1 : Int32), S)
  else
    (fX5_starts  S).bind fun q2 =>
    lt (q2) fun S3 =>
    if i2 = 0 then
      (fX5_liesIn i1 S3).bind fun r9 =>
      some (r9, S3)
    else
      if i2 = (1 : Int32) then
        (fX5_dutyOf i1 S3).bind fun r7 =>
        some (r7, S3)
      else
        (fX5_in ((i2 - (10 : Int32)).toInt64) (0 : Int64) (4 : Int64)).bind fun r4 =>
        if r4 = 0 then
          some ((-1 : Int32), S3)
        else
          (fX5_boltAt i1 (i2 - (10 : Int32)) S3).bind fun r5 =>
          some (r5, S3)

set_option maxHeartbeats 4000000 in
set_option maxRecDepth 100000 in
theorem tX5_bale (l : Launch) {V : JV M2} {b : Nat} {a : Nat → Nat} (hv : vX5 V b a) (S : M2) (i1 : Int32) (i2 : Int32) : JC l V yX5_bale cX5_bale 3 (some .int) jj_i 3 [.ref b, .int i1, .int i2] S ((fX5_bale i1 i2 S).map (fun q => (q.1, q.2))) := by
  refine jj_of (by decide) (Nat.le_of_ble_eq_true rfl) (fun E hlE hE => ?_)
  unfold fX5_bale
  refine J_sub (L' := [(0, .ref b), (1, .int i1), (2, .int i2)]) [0, 1, 2] rfl ?_
  refine J_iload_n hE dd_X5_bale_0 1 rfl rfl ?_
  refine J_invSri hE (As := [.int i1]) (st := []) (tX5_isBale E.2.1 V S i1) m_X5_isBale s_X5_isBale rfl ml_RX5_213 (Nat.le_of_ble_eq_true rfl) (Nat.le_of_ble_eq_true rfl) rfl (Nat.le_of_ble_eq_true rfl) dd_X5_bale_1 (fun r1 => ?_)
  refine J_if_ne hE (tgt := 9) dd_X5_bale_4 (by decide) (fun c11 => ?_) (fun c11 => ?_)
  · refine J_aload_n hE dd_X5_bale_9 0 rfl rfl ?_
    refine J_invVwv hE (e := fun x => x) (As := []) (st := []) (tX5_starts E.2.1 hv S ) (hv.ob _) m_X5_starts rfl ml_RX5_199 (Nat.le_of_ble_eq_true rfl) (Nat.le_of_ble_eq_true rfl) rfl (Nat.le_of_ble_eq_true rfl) dd_X5_bale_10 (fun q2 => ?_)
    refine J_letS (fun S3 => ?_)
    refine J_iload_n hE dd_X5_bale_13 2 rfl rfl ?_
    refine J_if_ne hE (tgt := 25) dd_X5_bale_14 (by decide) (fun c10 => ?_) (fun c10 => ?_)
    · refine J_iload_n hE dd_X5_bale_25 2 rfl rfl ?_
      refine J_iconst hE (v := (1 : Int32)) dd_X5_bale_26 (by decide) ?_
      refine J_icmp_ne hE (tgt := 38) dd_X5_bale_27 (by decide) (fun c8 => ?_) (fun c8 => ?_)
      · refine J_iload_n hE dd_X5_bale_38 2 rfl rfl ?_
        refine J_bipush hE (v := (10 : Int32)) dd_X5_bale_39 (by decide) ?_
        refine J_isub hE dd_X5_bale_41 ?_
        refine J_i2l hE dd_X5_bale_42 ?_
        refine J_lconst hE (v := (0 : Int64)) dd_X5_bale_43 (by decide) ?_
        refine J_ldc2 hE (v := (4 : Int64)) dd_X5_bale_44 cl_RX5_216 ?_
        refine J_invSri hE (As := [.long ((i2 - (10 : Int32)).toInt64), .long (0 : Int64), .long (4 : Int64)]) (st := []) (tX5_in E.2.1 V S3 ((i2 - (10 : Int32)).toInt64) (0 : Int64) (4 : Int64)) m_X5_in s_X5_in rfl ml_RX5_71 (Nat.le_of_ble_eq_true rfl) (Nat.le_of_ble_eq_true rfl) rfl (Nat.le_of_ble_eq_true rfl) dd_X5_bale_47 (fun r4 => ?_)
        refine J_if_eq hE (tgt := 65) dd_X5_bale_50 (by decide) (fun c6 => ?_) (fun c6 => ?_)
        · refine J_iconst hE (v := (-1 : Int32)) dd_X5_bale_65 (by decide) ?_
          exact J_iret hE dd_X5_bale_66 rfl rfl
        · refine J_aload_n hE dd_X5_bale_53 0 rfl rfl ?_
          refine J_iload_n hE dd_X5_bale_54 1 rfl rfl ?_
          refine J_iload_n hE dd_X5_bale_55 2 rfl rfl ?_
          refine J_bipush hE (v := (10 : Int32)) dd_X5_bale_56 (by decide) ?_
          refine J_isub hE dd_X5_bale_58 ?_
          refine J_invVri hE (As := [.int i1, .int (i2 - (10 : Int32))]) (st := []) (tX5_boltAt E.2.1 hv S3 i1 (i2 - (10 : Int32))) (hv.ob _) m_X5_boltAt rfl ml_RX5_169 (Nat.le_of_ble_eq_true rfl) (Nat.le_of_ble_eq_true rfl) rfl (Nat.le_of_ble_eq_true rfl) dd_X5_bale_59 (fun r5 => ?_)
          refine J_goto hE (tgt := 66) dd_X5_bale_62 (by decide) ?_
          exact J_iret hE dd_X5_bale_66 rfl rfl
      · refine J_aload_n hE dd_X5_bale_30 0 rfl rfl ?_
        refine J_iload_n hE dd_X5_bale_31 1 rfl rfl ?_
        refine J_invVri hE (As := [.int i1]) (st := []) (tX5_dutyOf E.2.1 hv S3 i1) (hv.ob _) m_X5_dutyOf rfl ml_RX5_189 (Nat.le_of_ble_eq_true rfl) (Nat.le_of_ble_eq_true rfl) rfl (Nat.le_of_ble_eq_true rfl) dd_X5_bale_32 (fun r7 => ?_)
        refine J_goto hE (tgt := 66) dd_X5_bale_35 (by decide) ?_
        exact J_iret hE dd_X5_bale_66 rfl rfl
    · refine J_aload_n hE dd_X5_bale_17 0 rfl rfl ?_
      refine J_iload_n hE dd_X5_bale_18 1 rfl rfl ?_
      refine J_invVri hE (As := [.int i1]) (st := []) (tX5_liesIn E.2.1 hv S3 i1) (hv.ob _) m_X5_liesIn rfl ml_RX5_166 (Nat.le_of_ble_eq_true rfl) (Nat.le_of_ble_eq_true rfl) rfl (Nat.le_of_ble_eq_true rfl) dd_X5_bale_19 (fun r9 => ?_)
      refine J_goto hE (tgt := 66) dd_X5_bale_22 (by decide) ?_
      exact J_iret hE dd_X5_bale_66 rfl rfl
  · refine J_iconst hE (v := (-1 : Int32)) dd_X5_bale_7 (by decide) ?_
    exact J_iret hE dd_X5_bale_8 rfl rfl
theorem dd_X5_becomes_0 : jd cX5_becomes 0 (.aload_n 0) 1 1 := ⟨by decide +kernel, rfl⟩
theorem dd_X5_becomes_1 : jd cX5_becomes 1 (.getfield 7) 3 4 := ⟨by decide +kernel, rfl⟩
theorem dd_X5_becomes_4 : jd cX5_becomes 4 (.iload_n 1) 1 5 := ⟨by decide +kernel, rfl⟩
theorem dd_X5_becomes_5 : jd cX5_becomes 5 (.iaload) 1 6 := ⟨by decide +kernel, rfl⟩
theorem dd_X5_becomes_6 : jd cX5_becomes 6 (.istore_n 3) 1 7 := ⟨by decide +kernel, rfl⟩
theorem dd_X5_becomes_7 : jd cX5_becomes 7 (.aload_n 0) 1 8 := ⟨by decide +kernel, rfl⟩
theorem dd_X5_becomes_8 : jd cX5_becomes 8 (.getfield 7) 3 11 := ⟨by decide +kernel, rfl⟩
theorem dd_X5_becomes_11 : jd cX5_becomes 11 (.iload_n 1) 1 12 := ⟨by decide +kernel, rfl⟩
theorem dd_X5_becomes_12 : jd cX5_becomes 12 (.iload_n 2) 1 13 := ⟨by decide +kernel, rfl⟩
theorem dd_X5_becomes_13 : jd cX5_becomes 13 (.iastore) 1 14 := ⟨by decide +kernel, rfl⟩
theorem dd_X5_becomes_14 : jd cX5_becomes 14 (.iload_n 3) 1 15 := ⟨by decide +kernel, rfl⟩
theorem dd_X5_becomes_15 : jd cX5_becomes 15 (.ireturn) 1 16 := ⟨by decide +kernel, rfl⟩
theorem m_X5_becomes : jmV yX5_becomes cX5_becomes 4 (some .int) 2 := ⟨⟨(jj_m (w := Cond.code yX5_becomes cX5_becomes 4 (some .int)) (List.mem_of_getElem? (i := 1063) (by decide +kernel)) rfl), (jj_m (w := Cond.initialized yX5_becomes.cls) (List.mem_of_getElem? (i := 69) (by decide +kernel)) rfl), ⟨by decide, by decide⟩, by decide +kernel⟩, (jj_m (w := Cond.instanceMethod yX5_becomes) (List.mem_of_getElem? (i := 1062) (by decide +kernel)) rfl), (jj_m (w := Cond.selects yX5_becomes.cls yX5_becomes yX5_becomes) (List.mem_of_getElem? (i := 45) (by decide +kernel)) rfl)⟩
def fX5_becomes (i1 : Int32) (i2 : Int32) (S : M2) : Option (Int32 × M2) :=
  bnd i1 186 <|
  lt ((S 0 i1.toNatClampNeg)) fun x1 =>
  bnd i1 186 <|
  lt (va_up S 0 (upd (S 0) i1.toNatClampNeg i2)) fun S2 =>
  some (x1, S2)

set_option maxHeartbeats 4000000 in
set_option maxRecDepth 100000 in
theorem tX5_becomes (l : Launch) {V : JV M2} {b : Nat} {a : Nat → Nat} (hv : vX5 V b a) (S : M2) (i1 : Int32) (i2 : Int32) : JC l V yX5_becomes cX5_becomes 4 (some .int) jj_i 0 [.ref b, .int i1, .int i2] S ((fX5_becomes i1 i2 S).map (fun q => (q.1, q.2))) := by
  refine jj_of (by decide) (Nat.le_of_ble_eq_true rfl) (fun E hlE hE => ?_)
  unfold fX5_becomes
  refine J_sub (L' := [(0, .ref b), (1, .int i1), (2, .int i2)]) [0, 1, 2] rfl ?_
  refine J_aload_n hE dd_X5_becomes_0 0 rfl rfl ?_
  refine J_get hE (hv.ob _) jc_X5 0 (by decide) fl_RX5_7 (v := .ref (a 0)) rfl dd_X5_becomes_1 ?_
  refine J_iload_n hE dd_X5_becomes_4 1 rfl rfl ?_
  refine J_ald hE (hv.arr 0 (n := 186) (ty := .int) (by decide) _) dd_X5_becomes_5 ?_
  refine J_leti (fun x1 => ?_)
  refine J_istore_n hE (L' := [(3, .int x1), (0, .ref b), (1, .int i1), (2, .int i2)]) dd_X5_becomes_6 (Nat.le_of_ble_eq_true rfl) rfl rfl ?_
  refine J_aload_n hE dd_X5_becomes_7 1 rfl rfl ?_
  refine J_get hE (hv.ob _) jc_X5 0 (by decide) fl_RX5_7 (v := .ref (a 0)) rfl dd_X5_becomes_8 ?_
  refine J_iload_n hE dd_X5_becomes_11 2 rfl rfl ?_
  refine J_iload_n hE dd_X5_becomes_12 3 rfl rfl ?_
  refine J_ast hE hv 0 (N := 186) (by decide) dd_X5_becomes_13 ?_
  refine J_letS (fun S2 => ?_)
  refine J_iload_n hE dd_X5_becomes_14 0 rfl rfl ?_
  exact J_iret hE dd_X5_becomes_15 rfl rfl
theorem dd_X5_folds_0 : jd cX5_folds 0 (.aload_n 0) 1 1 := ⟨by decide +kernel, rfl⟩
theorem dd_X5_folds_1 : jd cX5_folds 1 (.iload_n 1) 1 2 := ⟨by decide +kernel, rfl⟩
theorem dd_X5_folds_2 : jd cX5_folds 2 (.iconst 4) 1 3 := ⟨by decide +kernel, rfl⟩
theorem dd_X5_folds_3 : jd cX5_folds 3 (.invokevirtual 155) 3 6 := ⟨by decide +kernel, rfl⟩
theorem dd_X5_folds_6 : jd cX5_folds 6 (.istore 4) 2 8 := ⟨by decide +kernel, rfl⟩
theorem dd_X5_folds_8 : jd cX5_folds 8 (.iconst 0) 1 9 := ⟨by decide +kernel, rfl⟩
theorem dd_X5_folds_9 : jd cX5_folds 9 (.istore 5) 2 11 := ⟨by decide +kernel, rfl⟩
theorem dd_X5_folds_11 : jd cX5_folds 11 (.iload 5) 2 13 := ⟨by decide +kernel, rfl⟩
theorem dd_X5_folds_13 : jd cX5_folds 13 (.aload_n 0) 1 14 := ⟨by decide +kernel, rfl⟩
theorem dd_X5_folds_14 : jd cX5_folds 14 (.getfield 63) 3 17 := ⟨by decide +kernel, rfl⟩
theorem dd_X5_folds_20 : jd cX5_folds 20 (.aload_n 0) 1 21 := ⟨by decide +kernel, rfl⟩
theorem dd_X5_folds_21 : jd cX5_folds 21 (.iload 5) 2 23 := ⟨by decide +kernel, rfl⟩
theorem dd_X5_folds_23 : jd cX5_folds 23 (.iconst 4) 1 24 := ⟨by decide +kernel, rfl⟩
theorem dd_X5_folds_24 : jd cX5_folds 24 (.invokevirtual 155) 3 27 := ⟨by decide +kernel, rfl⟩
theorem dd_X5_folds_27 : jd cX5_folds 27 (.iload 4) 2 29 := ⟨by decide +kernel, rfl⟩
theorem dd_X5_folds_32 : jd cX5_folds 32 (.aload_n 0) 1 33 := ⟨by decide +kernel, rfl⟩
theorem dd_X5_folds_33 : jd cX5_folds 33 (.iload 5) 2 35 := ⟨by decide +kernel, rfl⟩
theorem dd_X5_folds_35 : jd cX5_folds 35 (.iconst 5) 1 36 := ⟨by decide +kernel, rfl⟩
theorem dd_X5_folds_36 : jd cX5_folds 36 (.invokevirtual 155) 3 39 := ⟨by decide +kernel, rfl⟩
theorem dd_X5_folds_39 : jd cX5_folds 39 (.aload_n 0) 1 40 := ⟨by decide +kernel, rfl⟩
theorem dd_X5_folds_40 : jd cX5_folds 40 (.iload_n 1) 1 41 := ⟨by decide +kernel, rfl⟩
theorem dd_X5_folds_41 : jd cX5_folds 41 (.iconst 5) 1 42 := ⟨by decide +kernel, rfl⟩
theorem dd_X5_folds_42 : jd cX5_folds 42 (.invokevirtual 155) 3 45 := ⟨by decide +kernel, rfl⟩
theorem dd_X5_folds_48 : jd cX5_folds 48 (.iconst 1) 1 49 := ⟨by decide +kernel, rfl⟩
theorem dd_X5_folds_49 : jd cX5_folds 49 (.goto 4) 3 52 := ⟨by decide +kernel, rfl⟩
theorem dd_X5_folds_45 : jd cX5_folds 45 (.if_icmp .le 7) 3 48 := ⟨by decide +kernel, rfl⟩
theorem dd_X5_folds_29 : jd cX5_folds 29 (.if_icmp .ne 23) 3 32 := ⟨by decide +kernel, rfl⟩
theorem dd_X5_folds_52 : jd cX5_folds 52 (.iconst 0) 1 53 := ⟨by decide +kernel, rfl⟩
theorem dd_X5_folds_53 : jd cX5_folds 53 (.istore 6) 2 55 := ⟨by decide +kernel, rfl⟩
theorem dd_X5_folds_55 : jd cX5_folds 55 (.aload_n 0) 1 56 := ⟨by decide +kernel, rfl⟩
theorem dd_X5_folds_56 : jd cX5_folds 56 (.iload 5) 2 58 := ⟨by decide +kernel, rfl⟩
theorem dd_X5_folds_58 : jd cX5_folds 58 (.iconst 5) 1 59 := ⟨by decide +kernel, rfl⟩
theorem dd_X5_folds_59 : jd cX5_folds 59 (.aload_n 0) 1 60 := ⟨by decide +kernel, rfl⟩
theorem dd_X5_folds_60 : jd cX5_folds 60 (.iload 5) 2 62 := ⟨by decide +kernel, rfl⟩
theorem dd_X5_folds_62 : jd cX5_folds 62 (.iconst 5) 1 63 := ⟨by decide +kernel, rfl⟩
theorem dd_X5_folds_63 : jd cX5_folds 63 (.invokevirtual 155) 3 66 := ⟨by decide +kernel, rfl⟩
theorem dd_X5_folds_66 : jd cX5_folds 66 (.iload 6) 2 68 := ⟨by decide +kernel, rfl⟩
theorem dd_X5_folds_68 : jd cX5_folds 68 (.invokestatic 129) 3 71 := ⟨by decide +kernel, rfl⟩
theorem dd_X5_folds_71 : jd cX5_folds 71 (.isub) 1 72 := ⟨by decide +kernel, rfl⟩
theorem dd_X5_folds_72 : jd cX5_folds 72 (.invokevirtual 176) 3 75 := ⟨by decide +kernel, rfl⟩
theorem dd_X5_folds_75 : jd cX5_folds 75 (.iinc 5 1) 3 78 := ⟨by decide +kernel, rfl⟩
theorem dd_X5_folds_78 : jd cX5_folds 78 (.goto (-67)) 3 81 := ⟨by decide +kernel, rfl⟩
theorem dd_X5_folds_17 : jd cX5_folds 17 (.if_icmp .ge 64) 3 20 := ⟨by decide +kernel, rfl⟩
theorem dd_X5_folds_81 : jd cX5_folds 81 (.aload_n 0) 1 82 := ⟨by decide +kernel, rfl⟩
theorem dd_X5_folds_82 : jd cX5_folds 82 (.iload_n 1) 1 83 := ⟨by decide +kernel, rfl⟩
theorem dd_X5_folds_83 : jd cX5_folds 83 (.iconst 4) 1 84 := ⟨by decide +kernel, rfl⟩
theorem dd_X5_folds_84 : jd cX5_folds 84 (.bipush (-4)) 2 86 := ⟨by decide +kernel, rfl⟩
theorem dd_X5_folds_86 : jd cX5_folds 86 (.invokevirtual 176) 3 89 := ⟨by decide +kernel, rfl⟩
theorem dd_X5_folds_89 : jd cX5_folds 89 (.iconst 0) 1 90 := ⟨by decide +kernel, rfl⟩
theorem dd_X5_folds_90 : jd cX5_folds 90 (.istore 5) 2 92 := ⟨by decide +kernel, rfl⟩
theorem dd_X5_folds_92 : jd cX5_folds 92 (.iload 5) 2 94 := ⟨by decide +kernel, rfl⟩
theorem dd_X5_folds_94 : jd cX5_folds 94 (.aload_n 0) 1 95 := ⟨by decide +kernel, rfl⟩
theorem dd_X5_folds_95 : jd cX5_folds 95 (.getfield 63) 3 98 := ⟨by decide +kernel, rfl⟩
theorem dd_X5_folds_101 : jd cX5_folds 101 (.aload_n 0) 1 102 := ⟨by decide +kernel, rfl⟩
theorem dd_X5_folds_102 : jd cX5_folds 102 (.iload 5) 2 104 := ⟨by decide +kernel, rfl⟩
theorem dd_X5_folds_104 : jd cX5_folds 104 (.iconst 5) 1 105 := ⟨by decide +kernel, rfl⟩
theorem dd_X5_folds_105 : jd cX5_folds 105 (.aload_n 0) 1 106 := ⟨by decide +kernel, rfl⟩
theorem dd_X5_folds_106 : jd cX5_folds 106 (.iload 5) 2 108 := ⟨by decide +kernel, rfl⟩
theorem dd_X5_folds_108 : jd cX5_folds 108 (.iconst 5) 1 109 := ⟨by decide +kernel, rfl⟩
theorem dd_X5_folds_109 : jd cX5_folds 109 (.invokevirtual 155) 3 112 := ⟨by decide +kernel, rfl⟩
theorem dd_X5_folds_112 : jd cX5_folds 112 (.iload_n 3) 1 113 := ⟨by decide +kernel, rfl⟩
theorem dd_X5_folds_116 : jd cX5_folds 116 (.aload_n 0) 1 117 := ⟨by decide +kernel, rfl⟩
theorem dd_X5_folds_117 : jd cX5_folds 117 (.iload 5) 2 119 := ⟨by decide +kernel, rfl⟩
theorem dd_X5_folds_119 : jd cX5_folds 119 (.iconst 4) 1 120 := ⟨by decide +kernel, rfl⟩
theorem dd_X5_folds_120 : jd cX5_folds 120 (.invokevirtual 155) 3 123 := ⟨by decide +kernel, rfl⟩
theorem dd_X5_folds_123 : jd cX5_folds 123 (.iload_n 2) 1 124 := ⟨by decide +kernel, rfl⟩
theorem dd_X5_folds_127 : jd cX5_folds 127 (.iconst 1) 1 128 := ⟨by decide +kernel, rfl⟩
theorem dd_X5_folds_128 : jd cX5_folds 128 (.goto 4) 3 131 := ⟨by decide +kernel, rfl⟩
theorem dd_X5_folds_124 : jd cX5_folds 124 (.if_icmp .ne 7) 3 127 := ⟨by decide +kernel, rfl⟩
theorem dd_X5_folds_113 : jd cX5_folds 113 (.ifCond .eq 18) 3 116 := ⟨by decide +kernel, rfl⟩
theorem dd_X5_folds_131 : jd cX5_folds 131 (.iconst 0) 1 132 := ⟨by decide +kernel, rfl⟩
theorem dd_X5_folds_132 : jd cX5_folds 132 (.invokestatic 129) 3 135 := ⟨by decide +kernel, rfl⟩
theorem dd_X5_folds_135 : jd cX5_folds 135 (.iadd) 1 136 := ⟨by decide +kernel, rfl⟩
theorem dd_X5_folds_136 : jd cX5_folds 136 (.invokevirtual 176) 3 139 := ⟨by decide +kernel, rfl⟩
theorem dd_X5_folds_139 : jd cX5_folds 139 (.iinc 5 1) 3 142 := ⟨by decide +kernel, rfl⟩
theorem dd_X5_folds_142 : jd cX5_folds 142 (.goto (-50)) 3 145 := ⟨by decide +kernel, rfl⟩
theorem dd_X5_folds_98 : jd cX5_folds 98 (.if_icmp .ge 47) 3 101 := ⟨by decide +kernel, rfl⟩
theorem dd_X5_folds_145 : jd cX5_folds 145 (.aload_n 0) 1 146 := ⟨by decide +kernel, rfl⟩
theorem dd_X5_folds_146 : jd cX5_folds 146 (.iload_n 2) 1 147 := ⟨by decide +kernel, rfl⟩
theorem dd_X5_folds_147 : jd cX5_folds 147 (.invokevirtual 166) 3 150 := ⟨by decide +kernel, rfl⟩
theorem dd_X5_folds_150 : jd cX5_folds 150 (.istore 5) 2 152 := ⟨by decide +kernel, rfl⟩
theorem dd_X5_folds_152 : jd cX5_folds 152 (.aload_n 0) 1 153 := ⟨by decide +kernel, rfl⟩
theorem dd_X5_folds_153 : jd cX5_folds 153 (.iload_n 1) 1 154 := ⟨by decide +kernel, rfl⟩
theorem dd_X5_folds_154 : jd cX5_folds 154 (.iconst 4) 1 155 := ⟨by decide +kernel, rfl⟩
theorem dd_X5_folds_155 : jd cX5_folds 155 (.iload_n 2) 1 156 := ⟨by decide +kernel, rfl⟩
theorem dd_X5_folds_156 : jd cX5_folds 156 (.invokevirtual 176) 3 159 := ⟨by decide +kernel, rfl⟩
theorem dd_X5_folds_159 : jd cX5_folds 159 (.aload_n 0) 1 160 := ⟨by decide +kernel, rfl⟩
theorem dd_X5_folds_160 : jd cX5_folds 160 (.iload_n 1) 1 161 := ⟨by decide +kernel, rfl⟩
theorem dd_X5_folds_161 : jd cX5_folds 161 (.iconst 5) 1 162 := ⟨by decide +kernel, rfl⟩
theorem dd_X5_folds_162 : jd cX5_folds 162 (.iload_n 3) 1 163 := ⟨by decide +kernel, rfl⟩
theorem dd_X5_folds_170 : jd cX5_folds 170 (.iload 5) 2 172 := ⟨by decide +kernel, rfl⟩
theorem dd_X5_folds_172 : jd cX5_folds 172 (.invokevirtual 176) 3 175 := ⟨by decide +kernel, rfl⟩
theorem dd_X5_folds_175 : jd cX5_folds 175 (.return_) 1 176 := ⟨by decide +kernel, rfl⟩
theorem dd_X5_folds_166 : jd cX5_folds 166 (.iconst 0) 1 167 := ⟨by decide +kernel, rfl⟩
theorem dd_X5_folds_167 : jd cX5_folds 167 (.goto 5) 3 170 := ⟨by decide +kernel, rfl⟩
theorem dd_X5_folds_163 : jd cX5_folds 163 (.ifCond .eq 7) 3 166 := ⟨by decide +kernel, rfl⟩
theorem m_X5_folds : jmV yX5_folds cX5_folds 7 none 3 := ⟨⟨(jj_m (w := Cond.code yX5_folds cX5_folds 7 none) (List.mem_of_getElem? (i := 1043) (by decide +kernel)) rfl), (jj_m (w := Cond.initialized yX5_folds.cls) (List.mem_of_getElem? (i := 69) (by decide +kernel)) rfl), ⟨by decide, by decide⟩, by decide +kernel⟩, (jj_m (w := Cond.instanceMethod yX5_folds) (List.mem_of_getElem? (i := 1042) (by decide +kernel)) rfl), (jj_m (w := Cond.selects yX5_folds.cls yX5_folds yX5_folds) (List.mem_of_getElem? (i := 42) (by decide +kernel)) rfl)⟩
def fX5_folds_L11 (i1 : Int32) (i2 : Int32) (i3 : Int32) (r1 : Int32) (k81 : M2 → Option (M2)) : Nat → Int32 → M2 → Option (M2)
  | 0, _, _ => none
  | n_ + 1, v2, S3 =>
    if (S3 3 0) ≤ v2 then
      k81 S3
    else
      (fX5_of v2 (4 : Int32) S3).bind fun r4 =>
      jn (α := Option (M2)) (β := Int32) (fun j6 =>
        jn (α := Option (M2)) (β := Unit) (fun j5 =>
          if r4 = r1 then
            (fX5_of v2 (5 : Int32) S3).bind fun r7 =>
            (fX5_of i1 (5 : Int32) S3).bind fun r8 =>
            if r7 ≤ r8 then
              j5 ()
            else
              j6 (1 : Int32)
          else
            j5 ()) (fun _ => 
          j6 (0 : Int32))) (fun p12 => 
        (fX5_of v2 (5 : Int32) S3).bind fun r13 =>
        (fX5_flag p12).bind fun r14 =>
        (fX5_becomesOf v2 (5 : Int32) (r13 - r14) S3).bind fun q15 =>
        lt (q15) fun S16 =>
        lt (v2 + (1 : Int32)) fun x17 =>
        fX5_folds_L11 i1 i2 i3 r1 k81 n_ x17 S16)

def fX5_folds_L92 (i1 : Int32) (i2 : Int32) (i3 : Int32) (k145 : M2 → Option (M2)) : Nat → Int32 → M2 → Option (M2)
  | 0, _, _ => none
  | n_ + 1, v22, S23 =>
    if (S23 3 0) ≤ v22 then
      k145 S23
    else
      (fX5_of v22 (5 : Int32) S23).bind fun r24 =>
      jn (α := Option (M2)) (β := Int32) (fun j26 =>
        jn (α := Option (M2)) (β := Unit) (fun j25 =>
          if i3 = 0 then
            j25 ()
          else
            (fX5_of v22 (4 : Int32) S23).bind fun r27 =>
            if r27 = i2 then
              j26 (1 : Int32)
            else
              j25 ()) (fun _ => 
          j26 (0 : Int32))) (fun p31 => 
        (fX5_flag p31).bind fun r32 =>
        (fX5_becomesOf v22 (5 : Int32) (r24 + r32) S23).bind fun q33 =>
        lt (q33) fun S34 =>
        lt (v22 + (1 : Int32)) fun x35 =>
        fX5_folds_L92 i1 i2 i3 k145 n_ x35 S34)

def fX5_folds (i1 : Int32) (i2 : Int32) (i3 : Int32) (S : M2) : Option (M2) :=
  (fX5_of i1 (4 : Int32) S).bind fun r1 =>
  fX5_folds_L11 i1 i2 i3 r1
    (fun p19 =>
      (fX5_becomesOf i1 (4 : Int32) (-4 : Int32) p19).bind fun q20 =>
      lt (q20) fun S21 =>
      fX5_folds_L92 i1 i2 i3
        (fun p37 =>
          (fX5_liesIn i2 p37).bind fun r38 =>
          (fX5_becomesOf i1 (4 : Int32) i2 p37).bind fun q39 =>
          lt (q39) fun S40 =>
          if i3 = 0 then
            (fX5_becomesOf i1 (5 : Int32) r38 S40).bind fun q41 =>
            lt (q41) fun S42 =>
            some S42
          else
            (fX5_becomesOf i1 (5 : Int32) (0 : Int32) S40).bind fun q43 =>
            lt (q43) fun S44 =>
            some S44)
        400 (0 : Int32) S21)
    400 (0 : Int32) S

set_option maxHeartbeats 4000000 in
set_option maxRecDepth 100000 in
theorem tX5_folds_L11 {V : JV M2} {b : Nat} {a : Nat → Nat} (hv : vX5 V b a) (i1 : Int32) (i2 : Int32) (i3 : Int32) (r1 : Int32) {E : JE (M2) Unit} (hE : JOk V E cX5_folds yX5_folds.cls 7 2 none jj_v) {k81 : M2 → Option (M2)} (hk81 : ∀ p, J V E (fun q => ((), q)) (k81 p) 81 [(0, .ref b), (1, .int i1), (2, .int i2), (3, .int i3)] [] p) : ∀ (n_ : Nat) (v2 : Int32) (S3 : M2), J V E (fun q => ((), q)) (fX5_folds_L11 i1 i2 i3 r1 k81 n_ v2 S3) 11 [(0, .ref b), (1, .int i1), (2, .int i2), (3, .int i3), (4, .int r1), (5, .int v2)] [] S3 := by
  intro n_
  induction n_ with
  | zero =>
    intros
    exact J_none
  | succ n_ ih =>
    intros v2 S3
    rw [fX5_folds_L11]
    refine J_iload hE dd_X5_folds_11 5 rfl ?_
    refine J_aload_n hE dd_X5_folds_13 0 rfl rfl ?_
    refine J_get hE (hv.ob _) jc_X5 3 (by decide) fl_RX5_63 (v := .int (S3 3 0)) rfl dd_X5_folds_14 ?_
    refine J_icmp_ge hE (tgt := 81) dd_X5_folds_17 (by decide) (fun c18 => ?_) (fun c18 => ?_)
    · refine J_sub [0, 1, 2, 3] rfl ?_
      exact hk81 S3
    · refine J_aload_n hE dd_X5_folds_20 0 rfl rfl ?_
      refine J_iload hE dd_X5_folds_21 5 rfl ?_
      refine J_iconst hE (v := (4 : Int32)) dd_X5_folds_23 (by decide) ?_
      refine J_invVri hE (As := [.int v2, .int (4 : Int32)]) (st := []) (tX5_of E.2.1 hv S3 v2 (4 : Int32)) (hv.ob _) m_X5_of rfl ml_RX5_155 (Nat.le_of_ble_eq_true rfl) (Nat.le_of_ble_eq_true rfl) rfl (Nat.le_of_ble_eq_true rfl) dd_X5_folds_24 (fun r4 => ?_)
      refine J_iload hE dd_X5_folds_27 4 rfl ?_
      refine J_jn (m := 53) (Lf := fun p12 => [(0, .ref b), (1, .int i1), (2, .int i2), (3, .int i3), (4, .int r1), (5, .int v2)]) (sf := fun p12 => [.int p12]) (Xf := fun p12 => S3) (fun p12 => ?_) (fun hj6 => ?_)
      · show J V E _ _ 53 [(0, .ref b), (1, .int i1), (2, .int i2), (3, .int i3), (4, .int r1), (5, .int v2)] [.int p12] S3
        refine J_istore hE (L' := [(6, .int p12), (0, .ref b), (1, .int i1), (2, .int i2), (3, .int i3), (4, .int r1), (5, .int v2)]) dd_X5_folds_53 (Nat.le_of_ble_eq_true rfl) rfl ?_
        refine J_aload_n hE dd_X5_folds_55 1 rfl rfl ?_
        refine J_iload hE dd_X5_folds_56 6 rfl ?_
        refine J_iconst hE (v := (5 : Int32)) dd_X5_folds_58 (by decide) ?_
        refine J_aload_n hE dd_X5_folds_59 1 rfl rfl ?_
        refine J_iload hE dd_X5_folds_60 6 rfl ?_
        refine J_iconst hE (v := (5 : Int32)) dd_X5_folds_62 (by decide) ?_
        refine J_invVri hE (As := [.int v2, .int (5 : Int32)]) (st := [.int (5 : Int32), .int v2, .ref b]) (tX5_of E.2.1 hv S3 v2 (5 : Int32)) (hv.ob _) m_X5_of rfl ml_RX5_155 (Nat.le_of_ble_eq_true rfl) (Nat.le_of_ble_eq_true rfl) rfl (Nat.le_of_ble_eq_true rfl) dd_X5_folds_63 (fun r13 => ?_)
        refine J_iload hE dd_X5_folds_66 0 rfl ?_
        refine J_invSri hE (As := [.int p12]) (st := [.int r13, .int (5 : Int32), .int v2, .ref b]) (tX5_flag E.2.1 V S3 p12) m_X5_flag s_X5_flag rfl ml_RX5_129 (Nat.le_of_ble_eq_true rfl) (Nat.le_of_ble_eq_true rfl) rfl (Nat.le_of_ble_eq_true rfl) dd_X5_folds_68 (fun r14 => ?_)
        refine J_isub hE dd_X5_folds_71 ?_
        refine J_invVwv hE (e := fun x => x) (As := [.int v2, .int (5 : Int32), .int (r13 - r14)]) (st := []) (tX5_becomesOf E.2.1 hv S3 v2 (5 : Int32) (r13 - r14)) (hv.ob _) m_X5_becomesOf rfl ml_RX5_176 (Nat.le_of_ble_eq_true rfl) (Nat.le_of_ble_eq_true rfl) rfl (Nat.le_of_ble_eq_true rfl) dd_X5_folds_72 (fun q15 => ?_)
        refine J_letS (fun S16 => ?_)
        refine J_iincL hE (v := (v2 + (1 : Int32))) (Lf := fun x17 => [(5, .int x17), (6, .int p12), (0, .ref b), (1, .int i1), (2, .int i2), (3, .int i3), (4, .int r1)]) dd_X5_folds_75 (j := 6) rfl (congrArg (v2 + ·) (by decide)) (Nat.le_of_ble_eq_true rfl) (fun _ => rfl) (fun x17 => ?_)
        refine J_goto hE (tgt := 11) dd_X5_folds_78 (by decide) ?_
        refine J_sub [2, 3, 4, 5, 6, 0] rfl ?_
        exact ih x17 S16
      · refine J_jn (m := 52) (Lf := fun _ => [(0, .ref b), (1, .int i1), (2, .int i2), (3, .int i3), (4, .int r1), (5, .int v2)]) (sf := fun _ => []) (Xf := fun _ => S3) (fun _ => ?_) (fun hj5 => ?_)
        · show J V E _ _ 52 [(0, .ref b), (1, .int i1), (2, .int i2), (3, .int i3), (4, .int r1), (5, .int v2)] [] S3
          refine J_iconst hE (v := (0 : Int32)) dd_X5_folds_52 (by decide) ?_
          refine J_sub [0, 1, 2, 3, 4, 5] rfl ?_
          exact hj6 (0 : Int32)
        · refine J_icmp_ne hE (tgt := 52) dd_X5_folds_29 (by decide) (fun c10 => ?_) (fun c10 => ?_)
          · refine J_sub [0, 1, 2, 3, 4, 5] rfl ?_
            exact hj5 ()
          · refine J_aload_n hE dd_X5_folds_32 0 rfl rfl ?_
            refine J_iload hE dd_X5_folds_33 5 rfl ?_
            refine J_iconst hE (v := (5 : Int32)) dd_X5_folds_35 (by decide) ?_
            refine J_invVri hE (As := [.int v2, .int (5 : Int32)]) (st := []) (tX5_of E.2.1 hv S3 v2 (5 : Int32)) (hv.ob _) m_X5_of rfl ml_RX5_155 (Nat.le_of_ble_eq_true rfl) (Nat.le_of_ble_eq_true rfl) rfl (Nat.le_of_ble_eq_true rfl) dd_X5_folds_36 (fun r7 => ?_)
            refine J_aload_n hE dd_X5_folds_39 0 rfl rfl ?_
            refine J_iload_n hE dd_X5_folds_40 1 rfl rfl ?_
            refine J_iconst hE (v := (5 : Int32)) dd_X5_folds_41 (by decide) ?_
            refine J_invVri hE (As := [.int i1, .int (5 : Int32)]) (st := [.int r7]) (tX5_of E.2.1 hv S3 i1 (5 : Int32)) (hv.ob _) m_X5_of rfl ml_RX5_155 (Nat.le_of_ble_eq_true rfl) (Nat.le_of_ble_eq_true rfl) rfl (Nat.le_of_ble_eq_true rfl) dd_X5_folds_42 (fun r8 => ?_)
            refine J_icmp_le hE (tgt := 52) dd_X5_folds_45 (by decide) (fun c9 => ?_) (fun c9 => ?_)
            · refine J_sub [0, 1, 2, 3, 4, 5] rfl ?_
              exact hj5 ()
            · refine J_iconst hE (v := (1 : Int32)) dd_X5_folds_48 (by decide) ?_
              refine J_goto hE (tgt := 53) dd_X5_folds_49 (by decide) ?_
              refine J_sub [0, 1, 2, 3, 4, 5] rfl ?_
              exact hj6 (1 : Int32)
set_option maxHeartbeats 4000000 in
set_option maxRecDepth 100000 in
theorem tX5_folds_L92 {V : JV M2} {b : Nat} {a : Nat → Nat} (hv : vX5 V b a) (i1 : Int32) (i2 : Int32) (i3 : Int32) {E : JE (M2) Unit} (hE : JOk V E cX5_folds yX5_folds.cls 7 2 none jj_v) {k145 : M2 → Option (M2)} (hk145 : ∀ p, J V E (fun q => ((), q)) (k145 p) 145 [(0, .ref b), (1, .int i1), (2, .int i2), (3, .int i3)] [] p) : ∀ (n_ : Nat) (v22 : Int32) (S23 : M2), J V E (fun q => ((), q)) (fX5_folds_L92 i1 i2 i3 k145 n_ v22 S23) 92 [(0, .ref b), (1, .int i1), (2, .int i2), (3, .int i3), (5, .int v22)] [] S23 := by
  intro n_
  induction n_ with
  | zero =>
    intros
    exact J_none
  | succ n_ ih =>
    intros v22 S23
    rw [fX5_folds_L92]
    refine J_iload hE dd_X5_folds_92 4 rfl ?_
    refine J_aload_n hE dd_X5_folds_94 0 rfl rfl ?_
    refine J_get hE (hv.ob _) jc_X5 3 (by decide) fl_RX5_63 (v := .int (S23 3 0)) rfl dd_X5_folds_95 ?_
    refine J_icmp_ge hE (tgt := 145) dd_X5_folds_98 (by decide) (fun c36 => ?_) (fun c36 => ?_)
    · refine J_sub [0, 1, 2, 3] rfl ?_
      exact hk145 S23
    · refine J_aload_n hE dd_X5_folds_101 0 rfl rfl ?_
      refine J_iload hE dd_X5_folds_102 4 rfl ?_
      refine J_iconst hE (v := (5 : Int32)) dd_X5_folds_104 (by decide) ?_
      refine J_aload_n hE dd_X5_folds_105 0 rfl rfl ?_
      refine J_iload hE dd_X5_folds_106 4 rfl ?_
      refine J_iconst hE (v := (5 : Int32)) dd_X5_folds_108 (by decide) ?_
      refine J_invVri hE (As := [.int v22, .int (5 : Int32)]) (st := [.int (5 : Int32), .int v22, .ref b]) (tX5_of E.2.1 hv S23 v22 (5 : Int32)) (hv.ob _) m_X5_of rfl ml_RX5_155 (Nat.le_of_ble_eq_true rfl) (Nat.le_of_ble_eq_true rfl) rfl (Nat.le_of_ble_eq_true rfl) dd_X5_folds_109 (fun r24 => ?_)
      refine J_iload_n hE dd_X5_folds_112 3 rfl rfl ?_
      refine J_jn (m := 132) (Lf := fun p31 => [(0, .ref b), (1, .int i1), (2, .int i2), (3, .int i3), (5, .int v22)]) (sf := fun p31 => [.int p31, .int r24, .int (5 : Int32), .int v22, .ref b]) (Xf := fun p31 => S23) (fun p31 => ?_) (fun hj26 => ?_)
      · show J V E _ _ 132 [(0, .ref b), (1, .int i1), (2, .int i2), (3, .int i3), (5, .int v22)] [.int p31, .int r24, .int (5 : Int32), .int v22, .ref b] S23
        refine J_invSri hE (As := [.int p31]) (st := [.int r24, .int (5 : Int32), .int v22, .ref b]) (tX5_flag E.2.1 V S23 p31) m_X5_flag s_X5_flag rfl ml_RX5_129 (Nat.le_of_ble_eq_true rfl) (Nat.le_of_ble_eq_true rfl) rfl (Nat.le_of_ble_eq_true rfl) dd_X5_folds_132 (fun r32 => ?_)
        refine J_iadd hE dd_X5_folds_135 ?_
        refine J_invVwv hE (e := fun x => x) (As := [.int v22, .int (5 : Int32), .int (r24 + r32)]) (st := []) (tX5_becomesOf E.2.1 hv S23 v22 (5 : Int32) (r24 + r32)) (hv.ob _) m_X5_becomesOf rfl ml_RX5_176 (Nat.le_of_ble_eq_true rfl) (Nat.le_of_ble_eq_true rfl) rfl (Nat.le_of_ble_eq_true rfl) dd_X5_folds_136 (fun q33 => ?_)
        refine J_letS (fun S34 => ?_)
        refine J_iincL hE (v := (v22 + (1 : Int32))) (Lf := fun x35 => [(5, .int x35), (0, .ref b), (1, .int i1), (2, .int i2), (3, .int i3)]) dd_X5_folds_139 (j := 4) rfl (congrArg (v22 + ·) (by decide)) (Nat.le_of_ble_eq_true rfl) (fun _ => rfl) (fun x35 => ?_)
        refine J_goto hE (tgt := 92) dd_X5_folds_142 (by decide) ?_
        refine J_sub [1, 2, 3, 4, 0] rfl ?_
        exact ih x35 S34
      · refine J_jn (m := 131) (Lf := fun _ => [(0, .ref b), (1, .int i1), (2, .int i2), (3, .int i3), (5, .int v22)]) (sf := fun _ => [.int r24, .int (5 : Int32), .int v22, .ref b]) (Xf := fun _ => S23) (fun _ => ?_) (fun hj25 => ?_)
        · show J V E _ _ 131 [(0, .ref b), (1, .int i1), (2, .int i2), (3, .int i3), (5, .int v22)] [.int r24, .int (5 : Int32), .int v22, .ref b] S23
          refine J_iconst hE (v := (0 : Int32)) dd_X5_folds_131 (by decide) ?_
          refine J_sub [0, 1, 2, 3, 4] rfl ?_
          exact hj26 (0 : Int32)
        · refine J_if_eq hE (tgt := 131) dd_X5_folds_113 (by decide) (fun c29 => ?_) (fun c29 => ?_)
          · refine J_sub [0, 1, 2, 3, 4] rfl ?_
            exact hj25 ()
          · refine J_aload_n hE dd_X5_folds_116 0 rfl rfl ?_
            refine J_iload hE dd_X5_folds_117 4 rfl ?_
            refine J_iconst hE (v := (4 : Int32)) dd_X5_folds_119 (by decide) ?_
            refine J_invVri hE (As := [.int v22, .int (4 : Int32)]) (st := [.int r24, .int (5 : Int32), .int v22, .ref b]) (tX5_of E.2.1 hv S23 v22 (4 : Int32)) (hv.ob _) m_X5_of rfl ml_RX5_155 (Nat.le_of_ble_eq_true rfl) (Nat.le_of_ble_eq_true rfl) rfl (Nat.le_of_ble_eq_true rfl) dd_X5_folds_120 (fun r27 => ?_)
            refine J_iload_n hE dd_X5_folds_123 2 rfl rfl ?_
            refine J_icmp_ne hE (tgt := 131) dd_X5_folds_124 (by decide) (fun c28 => ?_) (fun c28 => ?_)
            · refine J_sub [0, 1, 2, 3, 4] rfl ?_
              exact hj25 ()
            · refine J_iconst hE (v := (1 : Int32)) dd_X5_folds_127 (by decide) ?_
              refine J_goto hE (tgt := 132) dd_X5_folds_128 (by decide) ?_
              refine J_sub [0, 1, 2, 3, 4] rfl ?_
              exact hj26 (1 : Int32)
set_option maxHeartbeats 4000000 in
set_option maxRecDepth 100000 in
theorem tX5_folds (l : Launch) {V : JV M2} {b : Nat} {a : Nat → Nat} (hv : vX5 V b a) (S : M2) (i1 : Int32) (i2 : Int32) (i3 : Int32) : JC l V yX5_folds cX5_folds 7 none jj_v 2 [.ref b, .int i1, .int i2, .int i3] S ((fX5_folds i1 i2 i3 S).map (fun q => ((), q))) := by
  refine jj_of (by decide) (Nat.le_of_ble_eq_true rfl) (fun E hlE hE => ?_)
  unfold fX5_folds
  refine J_sub (L' := [(0, .ref b), (1, .int i1), (2, .int i2), (3, .int i3)]) [0, 1, 2, 3] rfl ?_
  refine J_aload_n hE dd_X5_folds_0 0 rfl rfl ?_
  refine J_iload_n hE dd_X5_folds_1 1 rfl rfl ?_
  refine J_iconst hE (v := (4 : Int32)) dd_X5_folds_2 (by decide) ?_
  refine J_invVri hE (As := [.int i1, .int (4 : Int32)]) (st := []) (tX5_of E.2.1 hv S i1 (4 : Int32)) (hv.ob _) m_X5_of rfl ml_RX5_155 (Nat.le_of_ble_eq_true rfl) (Nat.le_of_ble_eq_true rfl) rfl (Nat.le_of_ble_eq_true rfl) dd_X5_folds_3 (fun r1 => ?_)
  refine J_istore hE (L' := [(4, .int r1), (0, .ref b), (1, .int i1), (2, .int i2), (3, .int i3)]) dd_X5_folds_6 (Nat.le_of_ble_eq_true rfl) rfl ?_
  refine J_iconst hE (v := (0 : Int32)) dd_X5_folds_8 (by decide) ?_
  refine J_istore hE (L' := [(5, .int (0 : Int32)), (4, .int r1), (0, .ref b), (1, .int i1), (2, .int i2), (3, .int i3)]) dd_X5_folds_9 (Nat.le_of_ble_eq_true rfl) rfl ?_
  refine J_sub [2, 3, 4, 5, 1, 0] rfl ?_
  refine tX5_folds_L11 hv i1 i2 i3 r1 hE (fun p19 => ?_) 400 (0 : Int32) S
  show J V E _ _ 81 [(0, .ref b), (1, .int i1), (2, .int i2), (3, .int i3)] [] p19
  refine J_aload_n hE dd_X5_folds_81 0 rfl rfl ?_
  refine J_iload_n hE dd_X5_folds_82 1 rfl rfl ?_
  refine J_iconst hE (v := (4 : Int32)) dd_X5_folds_83 (by decide) ?_
  refine J_bipush hE (v := (-4 : Int32)) dd_X5_folds_84 (by decide) ?_
  refine J_invVwv hE (e := fun x => x) (As := [.int i1, .int (4 : Int32), .int (-4 : Int32)]) (st := []) (tX5_becomesOf E.2.1 hv p19 i1 (4 : Int32) (-4 : Int32)) (hv.ob _) m_X5_becomesOf rfl ml_RX5_176 (Nat.le_of_ble_eq_true rfl) (Nat.le_of_ble_eq_true rfl) rfl (Nat.le_of_ble_eq_true rfl) dd_X5_folds_86 (fun q20 => ?_)
  refine J_letS (fun S21 => ?_)
  refine J_iconst hE (v := (0 : Int32)) dd_X5_folds_89 (by decide) ?_
  refine J_istore hE (L' := [(5, .int (0 : Int32)), (0, .ref b), (1, .int i1), (2, .int i2), (3, .int i3)]) dd_X5_folds_90 (Nat.le_of_ble_eq_true rfl) rfl ?_
  refine J_sub [1, 2, 3, 4, 0] rfl ?_
  refine tX5_folds_L92 hv i1 i2 i3 hE (fun p37 => ?_) 400 (0 : Int32) S21
  show J V E _ _ 145 [(0, .ref b), (1, .int i1), (2, .int i2), (3, .int i3)] [] p37
  refine J_aload_n hE dd_X5_folds_145 0 rfl rfl ?_
  refine J_iload_n hE dd_X5_folds_146 2 rfl rfl ?_
  refine J_invVri hE (As := [.int i2]) (st := []) (tX5_liesIn E.2.1 hv p37 i2) (hv.ob _) m_X5_liesIn rfl ml_RX5_166 (Nat.le_of_ble_eq_true rfl) (Nat.le_of_ble_eq_true rfl) rfl (Nat.le_of_ble_eq_true rfl) dd_X5_folds_147 (fun r38 => ?_)
  refine J_istore hE (L' := [(5, .int r38), (0, .ref b), (1, .int i1), (2, .int i2), (3, .int i3)]) dd_X5_folds_150 (Nat.le_of_ble_eq_true rfl) rfl ?_
  refine J_aload_n hE dd_X5_folds_152 1 rfl rfl ?_
  refine J_iload_n hE dd_X5_folds_153 2 rfl rfl ?_
  refine J_iconst hE (v := (4 : Int32)) dd_X5_folds_154 (by decide) ?_
  refine J_iload_n hE dd_X5_folds_155 3 rfl rfl ?_
  refine J_invVwv hE (e := fun x => x) (As := [.int i1, .int (4 : Int32), .int i2]) (st := []) (tX5_becomesOf E.2.1 hv p37 i1 (4 : Int32) i2) (hv.ob _) m_X5_becomesOf rfl ml_RX5_176 (Nat.le_of_ble_eq_true rfl) (Nat.le_of_ble_eq_true rfl) rfl (Nat.le_of_ble_eq_true rfl) dd_X5_folds_156 (fun q39 => ?_)
  refine J_letS (fun S40 => ?_)
  refine J_aload_n hE dd_X5_folds_159 1 rfl rfl ?_
  refine J_iload_n hE dd_X5_folds_160 2 rfl rfl ?_
  refine J_iconst hE (v := (5 : Int32)) dd_X5_folds_161 (by decide) ?_
  refine J_iload_n hE dd_X5_folds_162 4 rfl rfl ?_
  refine J_if_eq hE (tgt := 170) dd_X5_folds_163 (by decide) (fun c45 => ?_) (fun c45 => ?_)
  · refine J_iload hE dd_X5_folds_170 0 rfl ?_
    refine J_invVwv hE (e := fun x => x) (As := [.int i1, .int (5 : Int32), .int r38]) (st := []) (tX5_becomesOf E.2.1 hv S40 i1 (5 : Int32) r38) (hv.ob _) m_X5_becomesOf rfl ml_RX5_176 (Nat.le_of_ble_eq_true rfl) (Nat.le_of_ble_eq_true rfl) rfl (Nat.le_of_ble_eq_true rfl) dd_X5_folds_172 (fun q41 => ?_)
    refine J_letS (fun S42 => ?_)
    exact J_vret hE dd_X5_folds_175 rfl rfl
  · refine J_iconst hE (v := (0 : Int32)) dd_X5_folds_166 (by decide) ?_
    refine J_goto hE (tgt := 172) dd_X5_folds_167 (by decide) ?_
    refine J_invVwv hE (e := fun x => x) (As := [.int i1, .int (5 : Int32), .int (0 : Int32)]) (st := []) (tX5_becomesOf E.2.1 hv S40 i1 (5 : Int32) (0 : Int32)) (hv.ob _) m_X5_becomesOf rfl ml_RX5_176 (Nat.le_of_ble_eq_true rfl) (Nat.le_of_ble_eq_true rfl) rfl (Nat.le_of_ble_eq_true rfl) dd_X5_folds_172 (fun q43 => ?_)
    refine J_letS (fun S44 => ?_)
    exact J_vret hE dd_X5_folds_175 rfl rfl
