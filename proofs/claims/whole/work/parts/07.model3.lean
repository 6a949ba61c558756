theorem dd_X5_waysOf_0 : jd cX5_waysOf 0 (.lconst 1) 1 1 := ⟨by decide +kernel, rfl⟩
theorem dd_X5_waysOf_1 : jd cX5_waysOf 1 (.lstore_n 3) 1 2 := ⟨by decide +kernel, rfl⟩
theorem dd_X5_waysOf_2 : jd cX5_waysOf 2 (.iconst 0) 1 3 := ⟨by decide +kernel, rfl⟩
theorem dd_X5_waysOf_3 : jd cX5_waysOf 3 (.istore 5) 2 5 := ⟨by decide +kernel, rfl⟩
theorem dd_X5_waysOf_5 : jd cX5_waysOf 5 (.iload 5) 2 7 := ⟨by decide +kernel, rfl⟩
theorem dd_X5_waysOf_7 : jd cX5_waysOf 7 (.aload_n 0) 1 8 := ⟨by decide +kernel, rfl⟩
theorem dd_X5_waysOf_8 : jd cX5_waysOf 8 (.getfield 66) 3 11 := ⟨by decide +kernel, rfl⟩
theorem dd_X5_waysOf_14 : jd cX5_waysOf 14 (.lload_n 3) 1 15 := ⟨by decide +kernel, rfl⟩
theorem dd_X5_waysOf_15 : jd cX5_waysOf 15 (.iload_n 1) 1 16 := ⟨by decide +kernel, rfl⟩
theorem dd_X5_waysOf_16 : jd cX5_waysOf 16 (.iload 5) 2 18 := ⟨by decide +kernel, rfl⟩
theorem dd_X5_waysOf_18 : jd cX5_waysOf 18 (.ishr) 1 19 := ⟨by decide +kernel, rfl⟩
theorem dd_X5_waysOf_19 : jd cX5_waysOf 19 (.iconst 1) 1 20 := ⟨by decide +kernel, rfl⟩
theorem dd_X5_waysOf_20 : jd cX5_waysOf 20 (.iand) 1 21 := ⟨by decide +kernel, rfl⟩
theorem dd_X5_waysOf_21 : jd cX5_waysOf 21 (.iconst 1) 1 22 := ⟨by decide +kernel, rfl⟩
theorem dd_X5_waysOf_30 : jd cX5_waysOf 30 (.bipush 10) 2 32 := ⟨by decide +kernel, rfl⟩
theorem dd_X5_waysOf_32 : jd cX5_waysOf 32 (.iload_n 2) 1 33 := ⟨by decide +kernel, rfl⟩
theorem dd_X5_waysOf_33 : jd cX5_waysOf 33 (.isub) 1 34 := ⟨by decide +kernel, rfl⟩
theorem dd_X5_waysOf_34 : jd cX5_waysOf 34 (.i2l) 1 35 := ⟨by decide +kernel, rfl⟩
theorem dd_X5_waysOf_25 : jd cX5_waysOf 25 (.iload_n 2) 1 26 := ⟨by decide +kernel, rfl⟩
theorem dd_X5_waysOf_26 : jd cX5_waysOf 26 (.i2l) 1 27 := ⟨by decide +kernel, rfl⟩
theorem dd_X5_waysOf_27 : jd cX5_waysOf 27 (.goto 8) 3 30 := ⟨by decide +kernel, rfl⟩
theorem dd_X5_waysOf_22 : jd cX5_waysOf 22 (.if_icmp .ne 8) 3 25 := ⟨by decide +kernel, rfl⟩
theorem dd_X5_waysOf_35 : jd cX5_waysOf 35 (.lmul) 1 36 := ⟨by decide +kernel, rfl⟩
theorem dd_X5_waysOf_36 : jd cX5_waysOf 36 (.lstore_n 3) 1 37 := ⟨by decide +kernel, rfl⟩
theorem dd_X5_waysOf_37 : jd cX5_waysOf 37 (.iinc 5 1) 3 40 := ⟨by decide +kernel, rfl⟩
theorem dd_X5_waysOf_40 : jd cX5_waysOf 40 (.goto (-35)) 3 43 := ⟨by decide +kernel, rfl⟩
theorem dd_X5_waysOf_11 : jd cX5_waysOf 11 (.if_icmp .ge 32) 3 14 := ⟨by decide +kernel, rfl⟩
theorem dd_X5_waysOf_43 : jd cX5_waysOf 43 (.lload_n 3) 1 44 := ⟨by decide +kernel, rfl⟩
theorem dd_X5_waysOf_44 : jd cX5_waysOf 44 (.lreturn) 1 45 := ⟨by decide +kernel, rfl⟩
theorem m_X5_waysOf : jmV yX5_waysOf cX5_waysOf 6 (some .long) 2 := ⟨⟨(jj_m (w := Cond.code yX5_waysOf cX5_waysOf 6 (some .long)) (List.mem_of_getElem? (i := 1186) (by decide +kernel)) rfl), (jj_m (w := Cond.initialized yX5_waysOf.cls) (List.mem_of_getElem? (i := 69) (by decide +kernel)) rfl), ⟨by decide, by decide⟩, by decide +kernel⟩, (jj_m (w := Cond.instanceMethod yX5_waysOf) (List.mem_of_getElem? (i := 1185) (by decide +kernel)) rfl), (jj_m (w := Cond.selects yX5_waysOf.cls yX5_waysOf yX5_waysOf) (List.mem_of_getElem? (i := 58) (by decide +kernel)) rfl)⟩
def fX5_waysOf_L5 (S : M2) (i1 : Int32) (i2 : Int32) (k43 : Int64 → Option (Int64)) : Nat → Int64 → Int32 → Option (Int64)
  | 0, _, _ => none
  | n_ + 1, w1, v2 =>
    if (S 4 0) ≤ v2 then
      k43 w1
    else
      jn (α := Option (Int64)) (β := Int64) (fun j3 =>
        if ((i1 >>> (v2 &&& 31)) &&& (1 : Int32)) = (1 : Int32) then
          j3 (i2.toInt64)
        else
          j3 (((10 : Int32) - i2).toInt64)) (fun p5 => 
        lt ((w1 * p5)) fun y6 =>
        lt (v2 + (1 : Int32)) fun x7 =>
        fX5_waysOf_L5 S i1 i2 k43 n_ y6 x7)

def fX5_waysOf (i1 : Int32) (i2 : Int32) (S : M2) : Option (Int64) :=
  fX5_waysOf_L5 S i1 i2
    (fun p9 =>
      some p9)
    400 (1 : Int64) (0 : Int32)

set_option maxHeartbeats 4000000 in
set_option maxRecDepth 100000 in
theorem tX5_waysOf_L5 {V : JV M2} {b : Nat} {a : Nat → Nat} (hv : vX5 V b a) (S : M2) (i1 : Int32) (i2 : Int32) {E : JE (M2) Int64} (hE : JOk V E cX5_waysOf yX5_waysOf.cls 6 0 (some .long) jj_l) {k43 : Int64 → Option (Int64)} (hk43 : ∀ p, J V E (fun r => (r, S)) (k43 p) 43 [(3, .long p)] [] S) : ∀ (n_ : Nat) (w1 : Int64) (v2 : Int32), J V E (fun r => (r, S)) (fX5_waysOf_L5 S i1 i2 k43 n_ w1 v2) 5 [(0, .ref b), (1, .int i1), (2, .int i2), (3, .long w1), (5, .int v2)] [] S := by
  intro n_
  induction n_ with
  | zero =>
    intros
    exact J_none
  | succ n_ ih =>
    intros w1 v2
    rw [fX5_waysOf_L5]
    refine J_iload hE dd_X5_waysOf_5 4 rfl ?_
    refine J_aload_n hE dd_X5_waysOf_7 0 rfl rfl ?_
    refine J_get hE (hv.ob _) jc_X5 4 (by decide) fl_RX5_66 (v := .int (S 4 0)) rfl dd_X5_waysOf_8 ?_
    refine J_icmp_ge hE (tgt := 43) dd_X5_waysOf_11 (by decide) (fun c8 => ?_) (fun c8 => ?_)
    · refine J_sub [3] rfl ?_
      exact hk43 w1
    · refine J_lload_n hE dd_X5_waysOf_14 3 rfl rfl ?_
      refine J_iload_n hE dd_X5_waysOf_15 1 rfl rfl ?_
      refine J_iload hE dd_X5_waysOf_16 4 rfl ?_
      refine J_ishr hE dd_X5_waysOf_18 ?_
      refine J_iconst hE (v := (1 : Int32)) dd_X5_waysOf_19 (by decide) ?_
      refine J_iand hE dd_X5_waysOf_20 ?_
      refine J_iconst hE (v := (1 : Int32)) dd_X5_waysOf_21 (by decide) ?_
      refine J_jn (m := 35) (Lf := fun p5 => [(0, .ref b), (1, .int i1), (2, .int i2), (5, .int v2)]) (sf := fun p5 => [.long p5, .long w1]) (Xf := fun p5 => S) (fun p5 => ?_) (fun hj3 => ?_)
      · show J V E _ _ 35 [(0, .ref b), (1, .int i1), (2, .int i2), (5, .int v2)] [.long p5, .long w1] S
        refine J_lmul hE dd_X5_waysOf_35 ?_
        refine J_letl (fun y6 => ?_)
        refine J_lstore_n hE (L' := [(3, .long y6), (0, .ref b), (1, .int i1), (2, .int i2), (5, .int v2)]) dd_X5_waysOf_36 (Nat.le_of_ble_eq_true rfl) rfl rfl ?_
        refine J_iincL hE (v := (v2 + (1 : Int32))) (Lf := fun x7 => [(5, .int x7), (3, .long y6), (0, .ref b), (1, .int i1), (2, .int i2)]) dd_X5_waysOf_37 (j := 4) rfl (congrArg (v2 + ·) (by decide)) (Nat.le_of_ble_eq_true rfl) (fun _ => rfl) (fun x7 => ?_)
        refine J_goto hE (tgt := 5) dd_X5_waysOf_40 (by decide) ?_
        refine J_sub [2, 3, 4, 1, 0] rfl ?_
        exact ih y6 x7
      · refine J_icmp_ne hE (tgt := 30) dd_X5_waysOf_22 (by decide) (fun c4 => ?_) (fun c4 => ?_)
        · refine J_bipush hE (v := (10 : Int32)) dd_X5_waysOf_30 (by decide) ?_
          refine J_iload_n hE dd_X5_waysOf_32 2 rfl rfl ?_
          refine J_isub hE dd_X5_waysOf_33 ?_
          refine J_i2l hE dd_X5_waysOf_34 ?_
          refine J_sub [0, 1, 2, 4] rfl ?_
          exact hj3 (((10 : Int32) - i2).toInt64)
        · refine J_iload_n hE dd_X5_waysOf_25 2 rfl rfl ?_
          refine J_i2l hE dd_X5_waysOf_26 ?_
          refine J_goto hE (tgt := 35) dd_X5_waysOf_27 (by decide) ?_
          refine J_sub [0, 1, 2, 4] rfl ?_
          exact hj3 (i2.toInt64)
set_option maxHeartbeats 4000000 in
set_option maxRecDepth 100000 in
theorem tX5_waysOf (l : Launch) {V : JV M2} {b : Nat} {a : Nat → Nat} (hv : vX5 V b a) (S : M2) (i1 : Int32) (i2 : Int32) : JC l V yX5_waysOf cX5_waysOf 6 (some .long) jj_l 0 [.ref b, .int i1, .int i2] S ((fX5_waysOf i1 i2 S).map (fun r => (r, S))) := by
  refine jj_of (by decide) (Nat.le_of_ble_eq_true rfl) (fun E hlE hE => ?_)
  unfold fX5_waysOf
  refine J_sub (L' := [(0, .ref b), (1, .int i1), (2, .int i2)]) [0, 1, 2] rfl ?_
  refine J_lconst hE (v := (1 : Int64)) dd_X5_waysOf_0 (by decide) ?_
  refine J_lstore_n hE (L' := [(3, .long (1 : Int64)), (0, .ref b), (1, .int i1), (2, .int i2)]) dd_X5_waysOf_1 (Nat.le_of_ble_eq_true rfl) rfl rfl ?_
  refine J_iconst hE (v := (0 : Int32)) dd_X5_waysOf_2 (by decide) ?_
  refine J_istore hE (L' := [(5, .int (0 : Int32)), (3, .long (1 : Int64)), (0, .ref b), (1, .int i1), (2, .int i2)]) dd_X5_waysOf_3 (Nat.le_of_ble_eq_true rfl) rfl ?_
  refine J_sub [2, 3, 4, 1, 0] rfl ?_
  refine tX5_waysOf_L5 hv S i1 i2 hE (fun p9 => ?_) 400 (1 : Int64) (0 : Int32)
  show J V E _ _ 43 [(3, .long p9)] [] S
  refine J_lload_n hE dd_X5_waysOf_43 0 rfl rfl ?_
  exact J_lret hE dd_X5_waysOf_44 rfl rfl
theorem dd_X5_allWays_0 : jd cX5_allWays 0 (.lconst 1) 1 1 := ⟨by decide +kernel, rfl⟩
theorem dd_X5_allWays_1 : jd cX5_allWays 1 (.lstore_n 1) 1 2 := ⟨by decide +kernel, rfl⟩
theorem dd_X5_allWays_2 : jd cX5_allWays 2 (.iconst 0) 1 3 := ⟨by decide +kernel, rfl⟩
theorem dd_X5_allWays_3 : jd cX5_allWays 3 (.istore_n 3) 1 4 := ⟨by decide +kernel, rfl⟩
theorem dd_X5_allWays_4 : jd cX5_allWays 4 (.iload_n 3) 1 5 := ⟨by decide +kernel, rfl⟩
theorem dd_X5_allWays_5 : jd cX5_allWays 5 (.aload_n 0) 1 6 := ⟨by decide +kernel, rfl⟩
theorem dd_X5_allWays_6 : jd cX5_allWays 6 (.getfield 66) 3 9 := ⟨by decide +kernel, rfl⟩
theorem dd_X5_allWays_12 : jd cX5_allWays 12 (.lload_n 1) 1 13 := ⟨by decide +kernel, rfl⟩
theorem cl_RX5_274 : (Cond.constantLong "MothCustomsModel" 274 (10 : Int64) : Cond) ∈ jj_tb := jj_m (List.mem_of_getElem? (i := 1182) (by decide +kernel)) rfl
theorem dd_X5_allWays_13 : jd cX5_allWays 13 (.ldc2_w 274) 3 16 := ⟨by decide +kernel, rfl⟩
theorem dd_X5_allWays_16 : jd cX5_allWays 16 (.lmul) 1 17 := ⟨by decide +kernel, rfl⟩
theorem dd_X5_allWays_17 : jd cX5_allWays 17 (.lstore_n 1) 1 18 := ⟨by decide +kernel, rfl⟩
theorem dd_X5_allWays_18 : jd cX5_allWays 18 (.iinc 3 1) 3 21 := ⟨by decide +kernel, rfl⟩
theorem dd_X5_allWays_21 : jd cX5_allWays 21 (.goto (-17)) 3 24 := ⟨by decide +kernel, rfl⟩
theorem dd_X5_allWays_9 : jd cX5_allWays 9 (.if_icmp .ge 15) 3 12 := ⟨by decide +kernel, rfl⟩
theorem dd_X5_allWays_24 : jd cX5_allWays 24 (.lload_n 1) 1 25 := ⟨by decide +kernel, rfl⟩
theorem dd_X5_allWays_25 : jd cX5_allWays 25 (.lreturn) 1 26 := ⟨by decide +kernel, rfl⟩
theorem m_X5_allWays : jmV yX5_allWays cX5_allWays 4 (some .long) 0 := ⟨⟨(jj_m (w := Cond.code yX5_allWays cX5_allWays 4 (some .long)) (List.mem_of_getElem? (i := 1190) (by decide +kernel)) rfl), (jj_m (w := Cond.initialized yX5_allWays.cls) (List.mem_of_getElem? (i := 69) (by decide +kernel)) rfl), ⟨by decide, by decide⟩, by decide +kernel⟩, (jj_m (w := Cond.instanceMethod yX5_allWays) (List.mem_of_getElem? (i := 1189) (by decide +kernel)) rfl), (jj_m (w := Cond.selects yX5_allWays.cls yX5_allWays yX5_allWays) (List.mem_of_getElem? (i := 59) (by decide +kernel)) rfl)⟩
def fX5_allWays_L4 (S : M2) (k24 : Int64 → Option (Int64)) : Nat → Int64 → Int32 → Option (Int64)
  | 0, _, _ => none
  | n_ + 1, w1, v2 =>
    if (S 4 0) ≤ v2 then
      k24 w1
    else
      lt ((w1 * (10 : Int64))) fun y3 =>
      lt (v2 + (1 : Int32)) fun x4 =>
      fX5_allWays_L4 S k24 n_ y3 x4

def fX5_allWays  (S : M2) : Option (Int64) :=
  fX5_allWays_L4 S
    (fun p6 =>
      some p6)
    400 (1 : Int64) (0 : Int32)

set_option maxHeartbeats 4000000 in
set_option maxRecDepth 100000 in
theorem tX5_allWays_L4 {V : JV M2} {b : Nat} {a : Nat → Nat} (hv : vX5 V b a) (S : M2) {E : JE (M2) Int64} (hE : JOk V E cX5_allWays yX5_allWays.cls 4 0 (some .long) jj_l) {k24 : Int64 → Option (Int64)} (hk24 : ∀ p, J V E (fun r => (r, S)) (k24 p) 24 [(1, .long p)] [] S) : ∀ (n_ : Nat) (w1 : Int64) (v2 : Int32), J V E (fun r => (r, S)) (fX5_allWays_L4 S k24 n_ w1 v2) 4 [(0, .ref b), (1, .long w1), (3, .int v2)] [] S := by
  intro n_
  induction n_ with
  | zero =>
    intros
    exact J_none
  | succ n_ ih =>
    intros w1 v2
    rw [fX5_allWays_L4]
    refine J_iload_n hE dd_X5_allWays_4 2 rfl rfl ?_
    refine J_aload_n hE dd_X5_allWays_5 0 rfl rfl ?_
    refine J_get hE (hv.ob _) jc_X5 4 (by decide) fl_RX5_66 (v := .int (S 4 0)) rfl dd_X5_allWays_6 ?_
    refine J_icmp_ge hE (tgt := 24) dd_X5_allWays_9 (by decide) (fun c5 => ?_) (fun c5 => ?_)
    · refine J_sub [1] rfl ?_
      exact hk24 w1
    · refine J_lload_n hE dd_X5_allWays_12 1 rfl rfl ?_
      refine J_ldc2 hE (v := (10 : Int64)) dd_X5_allWays_13 cl_RX5_274 ?_
      refine J_lmul hE dd_X5_allWays_16 ?_
      refine J_letl (fun y3 => ?_)
      refine J_lstore_n hE (L' := [(1, .long y3), (0, .ref b), (3, .int v2)]) dd_X5_allWays_17 (Nat.le_of_ble_eq_true rfl) rfl rfl ?_
      refine J_iincL hE (v := (v2 + (1 : Int32))) (Lf := fun x4 => [(3, .int x4), (1, .long y3), (0, .ref b)]) dd_X5_allWays_18 (j := 2) rfl (congrArg (v2 + ·) (by decide)) (Nat.le_of_ble_eq_true rfl) (fun _ => rfl) (fun x4 => ?_)
      refine J_goto hE (tgt := 4) dd_X5_allWays_21 (by decide) ?_
      refine J_sub [2, 1, 0] rfl ?_
      exact ih y3 x4
set_option maxHeartbeats 4000000 in
set_option maxRecDepth 100000 in
theorem tX5_allWays (l : Launch) {V : JV M2} {b : Nat} {a : Nat → Nat} (hv : vX5 V b a) (S : M2)  : JC l V yX5_allWays cX5_allWays 4 (some .long) jj_l 0 [.ref b] S ((fX5_allWays  S).map (fun r => (r, S))) := by
  refine jj_of (by decide) (Nat.le_of_ble_eq_true rfl) (fun E hlE hE => ?_)
  unfold fX5_allWays
  refine J_sub (L' := [(0, .ref b)]) [0] rfl ?_
  refine J_lconst hE (v := (1 : Int64)) dd_X5_allWays_0 (by decide) ?_
  refine J_lstore_n hE (L' := [(1, .long (1 : Int64)), (0, .ref b)]) dd_X5_allWays_1 (Nat.le_of_ble_eq_true rfl) rfl rfl ?_
  refine J_iconst hE (v := (0 : Int32)) dd_X5_allWays_2 (by decide) ?_
  refine J_istore_n hE (L' := [(3, .int (0 : Int32)), (1, .long (1 : Int64)), (0, .ref b)]) dd_X5_allWays_3 (Nat.le_of_ble_eq_true rfl) rfl rfl ?_
  refine J_sub [2, 1, 0] rfl ?_
  refine tX5_allWays_L4 hv S hE (fun p6 => ?_) 400 (1 : Int64) (0 : Int32)
  show J V E _ _ 24 [(1, .long p6)] [] S
  refine J_lload_n hE dd_X5_allWays_24 0 rfl rfl ?_
  exact J_lret hE dd_X5_allWays_25 rfl rfl
theorem dd_X5_mean_0 : jd cX5_mean 0 (.iload_n 1) 1 1 := ⟨by decide +kernel, rfl⟩
theorem dd_X5_mean_1 : jd cX5_mean 1 (.i2l) 1 2 := ⟨by decide +kernel, rfl⟩
theorem dd_X5_mean_2 : jd cX5_mean 2 (.lconst 0) 1 3 := ⟨by decide +kernel, rfl⟩
theorem dd_X5_mean_3 : jd cX5_mean 3 (.ldc2_w 274) 3 6 := ⟨by decide +kernel, rfl⟩
theorem dd_X5_mean_6 : jd cX5_mean 6 (.invokestatic 71) 3 9 := ⟨by decide +kernel, rfl⟩
theorem dd_X5_mean_19 : jd cX5_mean 19 (.ldc2_w 161) 3 22 := ⟨by decide +kernel, rfl⟩
theorem dd_X5_mean_22 : jd cX5_mean 22 (.lreturn) 1 23 := ⟨by decide +kernel, rfl⟩
theorem dd_X5_mean_12 : jd cX5_mean 12 (.iload_n 2) 1 13 := ⟨by decide +kernel, rfl⟩
theorem dd_X5_mean_13 : jd cX5_mean 13 (.invokestatic 239) 3 16 := ⟨by decide +kernel, rfl⟩
theorem dd_X5_mean_23 : jd cX5_mean 23 (.lconst 0) 1 24 := ⟨by decide +kernel, rfl⟩
theorem dd_X5_mean_24 : jd cX5_mean 24 (.lstore_n 3) 1 25 := ⟨by decide +kernel, rfl⟩
theorem dd_X5_mean_25 : jd cX5_mean 25 (.iconst 0) 1 26 := ⟨by decide +kernel, rfl⟩
theorem dd_X5_mean_26 : jd cX5_mean 26 (.istore 5) 2 28 := ⟨by decide +kernel, rfl⟩
theorem dd_X5_mean_28 : jd cX5_mean 28 (.iload 5) 2 30 := ⟨by decide +kernel, rfl⟩
theorem dd_X5_mean_30 : jd cX5_mean 30 (.aload_n 0) 1 31 := ⟨by decide +kernel, rfl⟩
theorem dd_X5_mean_31 : jd cX5_mean 31 (.invokevirtual 183) 3 34 := ⟨by decide +kernel, rfl⟩
theorem dd_X5_mean_37 : jd cX5_mean 37 (.aload_n 0) 1 38 := ⟨by decide +kernel, rfl⟩
theorem dd_X5_mean_38 : jd cX5_mean 38 (.invokevirtual 199) 3 41 := ⟨by decide +kernel, rfl⟩
theorem dd_X5_mean_41 : jd cX5_mean 41 (.aload_n 0) 1 42 := ⟨by decide +kernel, rfl⟩
theorem dd_X5_mean_42 : jd cX5_mean 42 (.iload 5) 2 44 := ⟨by decide +kernel, rfl⟩
theorem dd_X5_mean_44 : jd cX5_mean 44 (.invokevirtual 186) 3 47 := ⟨by decide +kernel, rfl⟩
theorem dd_X5_mean_47 : jd cX5_mean 47 (.lload_n 3) 1 48 := ⟨by decide +kernel, rfl⟩
theorem dd_X5_mean_48 : jd cX5_mean 48 (.aload_n 0) 1 49 := ⟨by decide +kernel, rfl⟩
theorem dd_X5_mean_49 : jd cX5_mean 49 (.invokevirtual 192) 3 52 := ⟨by decide +kernel, rfl⟩
theorem dd_X5_mean_52 : jd cX5_mean 52 (.i2l) 1 53 := ⟨by decide +kernel, rfl⟩
theorem dd_X5_mean_53 : jd cX5_mean 53 (.aload_n 0) 1 54 := ⟨by decide +kernel, rfl⟩
theorem dd_X5_mean_54 : jd cX5_mean 54 (.iload 5) 2 56 := ⟨by decide +kernel, rfl⟩
theorem dd_X5_mean_56 : jd cX5_mean 56 (.iload_n 1) 1 57 := ⟨by decide +kernel, rfl⟩
theorem ml_RX5_276 : (Cond.methodLink "MothCustomsModel" 276 yX5_waysOf : Cond) ∈ jj_tb := jj_m (List.mem_of_getElem? (i := 1183) (by decide +kernel)) rfl
theorem dd_X5_mean_57 : jd cX5_mean 57 (.invokevirtual 276) 3 60 := ⟨by decide +kernel, rfl⟩
theorem dd_X5_mean_60 : jd cX5_mean 60 (.lmul) 1 61 := ⟨by decide +kernel, rfl⟩
theorem dd_X5_mean_61 : jd cX5_mean 61 (.ladd) 1 62 := ⟨by decide +kernel, rfl⟩
theorem dd_X5_mean_62 : jd cX5_mean 62 (.lstore_n 3) 1 63 := ⟨by decide +kernel, rfl⟩
theorem dd_X5_mean_63 : jd cX5_mean 63 (.iinc 5 1) 3 66 := ⟨by decide +kernel, rfl⟩
theorem dd_X5_mean_66 : jd cX5_mean 66 (.goto (-38)) 3 69 := ⟨by decide +kernel, rfl⟩
theorem dd_X5_mean_34 : jd cX5_mean 34 (.if_icmp .gt 35) 3 37 := ⟨by decide +kernel, rfl⟩
theorem dd_X5_mean_69 : jd cX5_mean 69 (.lload_n 3) 1 70 := ⟨by decide +kernel, rfl⟩
theorem dd_X5_mean_70 : jd cX5_mean 70 (.aload_n 0) 1 71 := ⟨by decide +kernel, rfl⟩
theorem ml_RX5_280 : (Cond.methodLink "MothCustomsModel" 280 yX5_allWays : Cond) ∈ jj_tb := jj_m (List.mem_of_getElem? (i := 1187) (by decide +kernel)) rfl
theorem dd_X5_mean_71 : jd cX5_mean 71 (.invokevirtual 280) 3 74 := ⟨by decide +kernel, rfl⟩
theorem dd_X5_mean_74 : jd cX5_mean 74 (.iload_n 2) 1 75 := ⟨by decide +kernel, rfl⟩
theorem ml_RX5_284 : (Cond.methodLink "MothCustomsModel" 284 yX5_told : Cond) ∈ jj_tb := jj_m (List.mem_of_getElem? (i := 1191) (by decide +kernel)) rfl
theorem dd_X5_mean_75 : jd cX5_mean 75 (.invokestatic 284) 3 78 := ⟨by decide +kernel, rfl⟩
theorem dd_X5_mean_78 : jd cX5_mean 78 (.lreturn) 1 79 := ⟨by decide +kernel, rfl⟩
theorem dd_X5_mean_16 : jd cX5_mean 16 (.ifCond .ne 7) 3 19 := ⟨by decide +kernel, rfl⟩
theorem dd_X5_mean_9 : jd cX5_mean 9 (.ifCond .eq 10) 3 12 := ⟨by decide +kernel, rfl⟩
theorem m_X5_mean : jmV yX5_mean cX5_mean 6 (some .long) 2 := ⟨⟨(jj_m (w := Cond.code yX5_mean cX5_mean 6 (some .long)) (List.mem_of_getElem? (i := 1181) (by decide +kernel)) rfl), (jj_m (w := Cond.initialized yX5_mean.cls) (List.mem_of_getElem? (i := 69) (by decide +kernel)) rfl), ⟨by decide, by decide⟩, by decide +kernel⟩, (jj_m (w := Cond.instanceMethod yX5_mean) (List.mem_of_getElem? (i := 1179) (by decide +kernel)) rfl), (jj_m (w := Cond.selects yX5_mean.cls yX5_mean yX5_mean) (List.mem_of_getElem? (i := 1180) (by decide +kernel)) rfl)⟩
def fX5_mean_L28 (i1 : Int32) (i2 : Int32) (k69 : (Int64 × M2) → Option (Int64 × M2)) : Nat → Int64 → Int32 → M2 → Option (Int64 × M2)
  | 0, _, _, _ => none
  | n_ + 1, w3, v4, S5 =>
    (fX5_everyMoth  S5).bind fun r6 =>
    if r6 < v4 then
      k69 (w3, S5)
    else
      (fX5_starts  S5).bind fun q7 =>
      lt (q7) fun S8 =>
      (fX5_nightGoes v4 S8).bind fun q9 =>
      lt (q9) fun S10 =>
      (fX5_dutyAll  S10).bind fun r11 =>
      (fX5_waysOf v4 i1 S10).bind fun r12 =>
      lt ((w3 + ((r11.toInt64) * r12))) fun y13 =>
      lt (v4 + (1 : Int32)) fun x14 =>
      fX5_mean_L28 i1 i2 k69 n_ y13 x14 S10

def fX5_mean (i1 : Int32) (i2 : Int32) (S : M2) : Option (Int64 × M2) :=
  (fX5_in (i1.toInt64) (0 : Int64) (10 : Int64)).bind fun r1 =>
  if r1 = 0 then
    some ((-1 : Int64), S)
  else
    (fX5_isPart i2).bind fun r2 =>
    if r2 = 0 then
      some ((-1 : Int64), S)
    else
      fX5_mean_L28 i1 i2
        (fun p16 =>
          (fX5_allWays  p16.2).bind fun r17 =>
          (fX5_told p16.1 r17 i2).bind fun r18 =>
          some (r18, p16.2))
        400 (0 : Int64) (0 : Int32) S

set_option maxHeartbeats 4000000 in
set_option maxRecDepth 100000 in
theorem tX5_mean_L28 {V : JV M2} {b : Nat} {a : Nat → Nat} (hv : vX5 V b a) (i1 : Int32) (i2 : Int32) {E : JE (M2) Int64} (hE : JOk V E cX5_mean yX5_mean.cls 6 4 (some .long) jj_l) {k69 : (Int64 × M2) → Option (Int64 × M2)} (hk69 : ∀ p, J V E (fun q => (q.1, q.2)) (k69 p) 69 [(0, .ref b), (2, .int i2), (3, .long p.1)] [] p.2) : ∀ (n_ : Nat) (w3 : Int64) (v4 : Int32) (S5 : M2), J V E (fun q => (q.1, q.2)) (fX5_mean_L28 i1 i2 k69 n_ w3 v4 S5) 28 [(0, .ref b), (1, .int i1), (2, .int i2), (3, .long w3), (5, .int v4)] [] S5 := by
  intro n_
  induction n_ with
  | zero =>
    intros
    exact J_none
  | succ n_ ih =>
    intros w3 v4 S5
    rw [fX5_mean_L28]
    refine J_iload hE dd_X5_mean_28 4 rfl ?_
    refine J_aload_n hE dd_X5_mean_30 0 rfl rfl ?_
    refine J_invVri hE (As := []) (st := [.int v4]) (tX5_everyMoth E.2.1 hv S5 ) (hv.ob _) m_X5_everyMoth rfl ml_RX5_183 (Nat.le_of_ble_eq_true rfl) (Nat.le_of_ble_eq_true rfl) rfl (Nat.le_of_ble_eq_true rfl) dd_X5_mean_31 (fun r6 => ?_)
    refine J_icmp_gt hE (tgt := 69) dd_X5_mean_34 (by decide) (fun c15 => ?_) (fun c15 => ?_)
    · refine J_sub [0, 2, 3] rfl ?_
      exact hk69 (w3, S5)
    · refine J_aload_n hE dd_X5_mean_37 0 rfl rfl ?_
      refine J_invVwv hE (e := fun x => x) (As := []) (st := []) (tX5_starts E.2.1 hv S5 ) (hv.ob _) m_X5_starts rfl ml_RX5_199 (Nat.le_of_ble_eq_true rfl) (Nat.le_of_ble_eq_true rfl) rfl (Nat.le_of_ble_eq_true rfl) dd_X5_mean_38 (fun q7 => ?_)
      refine J_letS (fun S8 => ?_)
      refine J_aload_n hE dd_X5_mean_41 0 rfl rfl ?_
      refine J_iload hE dd_X5_mean_42 4 rfl ?_
      refine J_invVwv hE (e := fun x => x) (As := [.int v4]) (st := []) (tX5_nightGoes E.2.1 hv S8 v4) (hv.ob _) m_X5_nightGoes rfl ml_RX5_186 (Nat.le_of_ble_eq_true rfl) (Nat.le_of_ble_eq_true rfl) rfl (Nat.le_of_ble_eq_true rfl) dd_X5_mean_44 (fun q9 => ?_)
      refine J_letS (fun S10 => ?_)
      refine J_lload_n hE dd_X5_mean_47 3 rfl rfl ?_
      refine J_aload_n hE dd_X5_mean_48 0 rfl rfl ?_
      refine J_invVri hE (As := []) (st := [.long w3]) (tX5_dutyAll E.2.1 hv S10 ) (hv.ob _) m_X5_dutyAll rfl ml_RX5_192 (Nat.le_of_ble_eq_true rfl) (Nat.le_of_ble_eq_true rfl) rfl (Nat.le_of_ble_eq_true rfl) dd_X5_mean_49 (fun r11 => ?_)
      refine J_i2l hE dd_X5_mean_52 ?_
      refine J_aload_n hE dd_X5_mean_53 0 rfl rfl ?_
      refine J_iload hE dd_X5_mean_54 4 rfl ?_
      refine J_iload_n hE dd_X5_mean_56 1 rfl rfl ?_
      refine J_invVrl hE (As := [.int v4, .int i1]) (st := [.long (r11.toInt64), .long w3]) (tX5_waysOf E.2.1 hv S10 v4 i1) (hv.ob _) m_X5_waysOf rfl ml_RX5_276 (Nat.le_of_ble_eq_true rfl) (Nat.le_of_ble_eq_true rfl) rfl (Nat.le_of_ble_eq_true rfl) dd_X5_mean_57 (fun r12 => ?_)
      refine J_lmul hE dd_X5_mean_60 ?_
      refine J_ladd hE dd_X5_mean_61 ?_
      refine J_letl (fun y13 => ?_)
      refine J_lstore_n hE (L' := [(3, .long y13), (0, .ref b), (1, .int i1), (2, .int i2), (5, .int v4)]) dd_X5_mean_62 (Nat.le_of_ble_eq_true rfl) rfl rfl ?_
      refine J_iincL hE (v := (v4 + (1 : Int32))) (Lf := fun x14 => [(5, .int x14), (3, .long y13), (0, .ref b), (1, .int i1), (2, .int i2)]) dd_X5_mean_63 (j := 4) rfl (congrArg (v4 + ·) (by decide)) (Nat.le_of_ble_eq_true rfl) (fun _ => rfl) (fun x14 => ?_)
      refine J_goto hE (tgt := 28) dd_X5_mean_66 (by decide) ?_
      refine J_sub [2, 3, 4, 1, 0] rfl ?_
      exact ih y13 x14 S10
set_option maxHeartbeats 4000000 in
set_option maxRecDepth 100000 in
theorem tX5_mean (l : Launch) {V : JV M2} {b : Nat} {a : Nat → Nat} (hv : vX5 V b a) (S : M2) (i1 : Int32) (i2 : Int32) : JC l V yX5_mean cX5_mean 6 (some .long) jj_l 4 [.ref b, .int i1, .int i2] S ((fX5_mean i1 i2 S).map (fun q => (q.1, q.2))) := by
  refine jj_of (by decide) (Nat.le_of_ble_eq_true rfl) (fun E hlE hE => ?_)
  unfold fX5_mean
  refine J_sub (L' := [(0, .ref b), (1, .int i1), (2, .int i2)]) [0, 1, 2] rfl ?_
  refine J_iload_n hE dd_X5_mean_0 1 rfl rfl ?_
  refine J_i2l hE dd_X5_mean_1 ?_
  refine J_lconst hE (v := (0 : Int64)) dd_X5_mean_2 (by decide) ?_
  refine J_ldc2 hE (v := (10 : Int64)) dd_X5_mean_3 cl_RX5_274 ?_
  refine J_invSri hE (As := [.long (i1.toInt64), .long (0 : Int64), .long (10 : Int64)]) (st := []) (tX5_in E.2.1 V S (i1.toInt64) (0 : Int64) (10 : Int64)) m_X5_in s_X5_in rfl ml_RX5_71 (Nat.le_of_ble_eq_true rfl) (Nat.le_of_ble_eq_true rfl) rfl (Nat.le_of_ble_eq_true rfl) dd_X5_mean_6 (fun r1 => ?_)
  refine J_if_eq hE (tgt := 19) dd_X5_mean_9 (by decide) (fun c20 => ?_) (fun c20 => ?_)
  · refine J_ldc2 hE (v := (-1 : Int64)) dd_X5_mean_19 cl_RX5_161 ?_
    exact J_lret hE dd_X5_mean_22 rfl rfl
  · refine J_iload_n hE dd_X5_mean_12 2 rfl rfl ?_
    refine J_invSri hE (As := [.int i2]) (st := []) (tX5_isPart E.2.1 V S i2) m_X5_isPart s_X5_isPart rfl ml_RX5_239 (Nat.le_of_ble_eq_true rfl) (Nat.le_of_ble_eq_true rfl) rfl (Nat.le_of_ble_eq_true rfl) dd_X5_mean_13 (fun r2 => ?_)
    refine J_if_ne hE (tgt := 23) dd_X5_mean_16 (by decide) (fun c19 => ?_) (fun c19 => ?_)
    · refine J_lconst hE (v := (0 : Int64)) dd_X5_mean_23 (by decide) ?_
      refine J_lstore_n hE (L' := [(3, .long (0 : Int64)), (0, .ref b), (1, .int i1), (2, .int i2)]) dd_X5_mean_24 (Nat.le_of_ble_eq_true rfl) rfl rfl ?_
      refine J_iconst hE (v := (0 : Int32)) dd_X5_mean_25 (by decide) ?_
      refine J_istore hE (L' := [(5, .int (0 : Int32)), (3, .long (0 : Int64)), (0, .ref b), (1, .int i1), (2, .int i2)]) dd_X5_mean_26 (Nat.le_of_ble_eq_true rfl) rfl ?_
      refine J_sub [2, 3, 4, 1, 0] rfl ?_
      refine tX5_mean_L28 hv i1 i2 hE (fun p16 => ?_) 400 (0 : Int64) (0 : Int32) S
      show J V E _ _ 69 [(0, .ref b), (2, .int i2), (3, .long p16.1)] [] p16.2
      refine J_lload_n hE dd_X5_mean_69 2 rfl rfl ?_
      refine J_aload_n hE dd_X5_mean_70 0 rfl rfl ?_
      refine J_invVrl hE (As := []) (st := [.long p16.1]) (tX5_allWays E.2.1 hv p16.2 ) (hv.ob _) m_X5_allWays rfl ml_RX5_280 (Nat.le_of_ble_eq_true rfl) (Nat.le_of_ble_eq_true rfl) rfl (Nat.le_of_ble_eq_true rfl) dd_X5_mean_71 (fun r17 => ?_)
      refine J_iload_n hE dd_X5_mean_74 1 rfl rfl ?_
      refine J_invSrl hE (As := [.long p16.1, .long r17, .int i2]) (st := []) (tX5_told E.2.1 V p16.2 p16.1 r17 i2) m_X5_told s_X5_told rfl ml_RX5_284 (Nat.le_of_ble_eq_true rfl) (Nat.le_of_ble_eq_true rfl) rfl (Nat.le_of_ble_eq_true rfl) dd_X5_mean_75 (fun r18 => ?_)
      exact J_lret hE dd_X5_mean_78 rfl rfl
    · refine J_ldc2 hE (v := (-1 : Int64)) dd_X5_mean_19 cl_RX5_161 ?_
      exact J_lret hE dd_X5_mean_22 rfl rfl
theorem dd_X5_luck_0 : jd cX5_luck 0 (.iload_n 1) 1 1 := ⟨by decide +kernel, rfl⟩
theorem dd_X5_luck_1 : jd cX5_luck 1 (.i2l) 1 2 := ⟨by decide +kernel, rfl⟩
theorem dd_X5_luck_2 : jd cX5_luck 2 (.lconst 0) 1 3 := ⟨by decide +kernel, rfl⟩
theorem dd_X5_luck_3 : jd cX5_luck 3 (.ldc2_w 274) 3 6 := ⟨by decide +kernel, rfl⟩
theorem dd_X5_luck_6 : jd cX5_luck 6 (.invokestatic 71) 3 9 := ⟨by decide +kernel, rfl⟩
theorem dd_X5_luck_27 : jd cX5_luck 27 (.ldc2_w 161) 3 30 := ⟨by decide +kernel, rfl⟩
theorem dd_X5_luck_30 : jd cX5_luck 30 (.lreturn) 1 31 := ⟨by decide +kernel, rfl⟩
theorem dd_X5_luck_12 : jd cX5_luck 12 (.aload_n 0) 1 13 := ⟨by decide +kernel, rfl⟩
theorem dd_X5_luck_13 : jd cX5_luck 13 (.iload_n 2) 1 14 := ⟨by decide +kernel, rfl⟩
theorem dd_X5_luck_14 : jd cX5_luck 14 (.invokevirtual 205) 3 17 := ⟨by decide +kernel, rfl⟩
theorem dd_X5_luck_20 : jd cX5_luck 20 (.iload_n 3) 1 21 := ⟨by decide +kernel, rfl⟩
theorem dd_X5_luck_21 : jd cX5_luck 21 (.invokestatic 239) 3 24 := ⟨by decide +kernel, rfl⟩
theorem dd_X5_luck_31 : jd cX5_luck 31 (.lconst 0) 1 32 := ⟨by decide +kernel, rfl⟩
theorem dd_X5_luck_32 : jd cX5_luck 32 (.lstore 4) 2 34 := ⟨by decide +kernel, rfl⟩
theorem dd_X5_luck_34 : jd cX5_luck 34 (.iconst 0) 1 35 := ⟨by decide +kernel, rfl⟩
theorem dd_X5_luck_35 : jd cX5_luck 35 (.istore 6) 2 37 := ⟨by decide +kernel, rfl⟩
theorem dd_X5_luck_37 : jd cX5_luck 37 (.iload 6) 2 39 := ⟨by decide +kernel, rfl⟩
theorem dd_X5_luck_39 : jd cX5_luck 39 (.aload_n 0) 1 40 := ⟨by decide +kernel, rfl⟩
theorem dd_X5_luck_40 : jd cX5_luck 40 (.invokevirtual 183) 3 43 := ⟨by decide +kernel, rfl⟩
theorem dd_X5_luck_46 : jd cX5_luck 46 (.aload_n 0) 1 47 := ⟨by decide +kernel, rfl⟩
theorem dd_X5_luck_47 : jd cX5_luck 47 (.invokevirtual 199) 3 50 := ⟨by decide +kernel, rfl⟩
theorem dd_X5_luck_50 : jd cX5_luck 50 (.aload_n 0) 1 51 := ⟨by decide +kernel, rfl⟩
theorem dd_X5_luck_51 : jd cX5_luck 51 (.iload 6) 2 53 := ⟨by decide +kernel, rfl⟩
theorem dd_X5_luck_53 : jd cX5_luck 53 (.invokevirtual 186) 3 56 := ⟨by decide +kernel, rfl⟩
theorem dd_X5_luck_56 : jd cX5_luck 56 (.lload 4) 2 58 := ⟨by decide +kernel, rfl⟩
theorem dd_X5_luck_58 : jd cX5_luck 58 (.aload_n 0) 1 59 := ⟨by decide +kernel, rfl⟩
theorem dd_X5_luck_59 : jd cX5_luck 59 (.iload_n 2) 1 60 := ⟨by decide +kernel, rfl⟩
theorem dd_X5_luck_60 : jd cX5_luck 60 (.invokevirtual 195) 3 63 := ⟨by decide +kernel, rfl⟩
theorem dd_X5_luck_76 : jd cX5_luck 76 (.lconst 0) 1 77 := ⟨by decide +kernel, rfl⟩
theorem dd_X5_luck_66 : jd cX5_luck 66 (.aload_n 0) 1 67 := ⟨by decide +kernel, rfl⟩
theorem dd_X5_luck_67 : jd cX5_luck 67 (.iload 6) 2 69 := ⟨by decide +kernel, rfl⟩
theorem dd_X5_luck_69 : jd cX5_luck 69 (.iload_n 1) 1 70 := ⟨by decide +kernel, rfl⟩
theorem dd_X5_luck_70 : jd cX5_luck 70 (.invokevirtual 276) 3 73 := ⟨by decide +kernel, rfl⟩
theorem dd_X5_luck_73 : jd cX5_luck 73 (.goto 4) 3 76 := ⟨by decide +kernel, rfl⟩
theorem dd_X5_luck_63 : jd cX5_luck 63 (.ifCond .eq 13) 3 66 := ⟨by decide +kernel, rfl⟩
theorem dd_X5_luck_77 : jd cX5_luck 77 (.ladd) 1 78 := ⟨by decide +kernel, rfl⟩
theorem dd_X5_luck_78 : jd cX5_luck 78 (.lstore 4) 2 80 := ⟨by decide +kernel, rfl⟩
theorem dd_X5_luck_80 : jd cX5_luck 80 (.iinc 6 1) 3 83 := ⟨by decide +kernel, rfl⟩
theorem dd_X5_luck_83 : jd cX5_luck 83 (.goto (-46)) 3 86 := ⟨by decide +kernel, rfl⟩
theorem dd_X5_luck_43 : jd cX5_luck 43 (.if_icmp .gt 43) 3 46 := ⟨by decide +kernel, rfl⟩
theorem dd_X5_luck_86 : jd cX5_luck 86 (.lload 4) 2 88 := ⟨by decide +kernel, rfl⟩
theorem dd_X5_luck_88 : jd cX5_luck 88 (.aload_n 0) 1 89 := ⟨by decide +kernel, rfl⟩
theorem dd_X5_luck_89 : jd cX5_luck 89 (.invokevirtual 280) 3 92 := ⟨by decide +kernel, rfl⟩
theorem dd_X5_luck_92 : jd cX5_luck 92 (.iload_n 3) 1 93 := ⟨by decide +kernel, rfl⟩
theorem dd_X5_luck_93 : jd cX5_luck 93 (.invokestatic 284) 3 96 := ⟨by decide +kernel, rfl⟩
theorem dd_X5_luck_96 : jd cX5_luck 96 (.lreturn) 1 97 := ⟨by decide +kernel, rfl⟩
theorem dd_X5_luck_24 : jd cX5_luck 24 (.ifCond .ne 7) 3 27 := ⟨by decide +kernel, rfl⟩
theorem dd_X5_luck_17 : jd cX5_luck 17 (.ifCond .eq 10) 3 20 := ⟨by decide +kernel, rfl⟩
theorem dd_X5_luck_9 : jd cX5_luck 9 (.ifCond .eq 18) 3 12 := ⟨by decide +kernel, rfl⟩
theorem m_X5_luck : jmV yX5_luck cX5_luck 7 (some .long) 3 := ⟨⟨(jj_m (w := Cond.code yX5_luck cX5_luck 7 (some .long)) (List.mem_of_getElem? (i := 1200) (by decide +kernel)) rfl), (jj_m (w := Cond.initialized yX5_luck.cls) (List.mem_of_getElem? (i := 69) (by decide +kernel)) rfl), ⟨by decide, by decide⟩, by decide +kernel⟩, (jj_m (w := Cond.instanceMethod yX5_luck) (List.mem_of_getElem? (i := 1198) (by decide +kernel)) rfl), (jj_m (w := Cond.selects yX5_luck.cls yX5_luck yX5_luck) (List.mem_of_getElem? (i := 1199) (by decide +kernel)) rfl)⟩
def fX5_luck_L37 (i1 : Int32) (i2 : Int32) (i3 : Int32) (k86 : (Int64 × M2) → Option (Int64 × M2)) : Nat → Int64 → Int32 → M2 → Option (Int64 × M2)
  | 0, _, _, _ => none
  | n_ + 1, w4, v5, S6 =>
    (fX5_everyMoth  S6).bind fun r7 =>
    if r7 < v5 then
      k86 (w4, S6)
    else
      (fX5_starts  S6).bind fun q8 =>
      lt (q8) fun S9 =>
      (fX5_nightGoes v5 S9).bind fun q10 =>
      lt (q10) fun S11 =>
      (fX5_isEaten i2 S11).bind fun r12 =>
      jn (α := Option (Int64 × M2)) (β := Int64) (fun j13 =>
        if r12 = 0 then
          j13 (0 : Int64)
        else
          (fX5_waysOf v5 i1 S11).bind fun r14 =>
          j13 r14) (fun p16 => 
        lt ((w4 + p16)) fun y17 =>
        lt (v5 + (1 : Int32)) fun x18 =>
        fX5_luck_L37 i1 i2 i3 k86 n_ y17 x18 S11)

def fX5_luck (i1 : Int32) (i2 : Int32) (i3 : Int32) (S : M2) : Option (Int64 × M2) :=
  (fX5_in (i1.toInt64) (0 : Int64) (10 : Int64)).bind fun r1 =>
  if r1 = 0 then
    some ((-1 : Int64), S)
  else
    (fX5_isBolt i2 S).bind fun r2 =>
    if r2 = 0 then
      some ((-1 : Int64), S)
    else
      (fX5_isPart i3).bind fun r3 =>
      if r3 = 0 then
        some ((-1 : Int64), S)
      else
        fX5_luck_L37 i1 i2 i3
          (fun p20 =>
            (fX5_allWays  p20.2).bind fun r21 =>
            (fX5_told p20.1 r21 i3).bind fun r22 =>
            some (r22, p20.2))
          400 (0 : Int64) (0 : Int32) S

set_option maxHeartbeats 4000000 in
set_option maxRecDepth 100000 in
theorem tX5_luck_L37 {V : JV M2} {b : Nat} {a : Nat → Nat} (hv : vX5 V b a) (i1 : Int32) (i2 : Int32) (i3 : Int32) {E : JE (M2) Int64} (hE : JOk V E cX5_luck yX5_luck.cls 7 4 (some .long) jj_l) {k86 : (Int64 × M2) → Option (Int64 × M2)} (hk86 : ∀ p, J V E (fun q => (q.1, q.2)) (k86 p) 86 [(0, .ref b), (3, .int i3), (4, .long p.1)] [] p.2) : ∀ (n_ : Nat) (w4 : Int64) (v5 : Int32) (S6 : M2), J V E (fun q => (q.1, q.2)) (fX5_luck_L37 i1 i2 i3 k86 n_ w4 v5 S6) 37 [(0, .ref b), (1, .int i1), (2, .int i2), (3, .int i3), (4, .long w4), (6, .int v5)] [] S6 := by
  intro n_
  induction n_ with
  | zero =>
    intros
    exact J_none
  | succ n_ ih =>
    intros w4 v5 S6
    rw [fX5_luck_L37]
    refine J_iload hE dd_X5_luck_37 5 rfl ?_
    refine J_aload_n hE dd_X5_luck_39 0 rfl rfl ?_
    refine J_invVri hE (As := []) (st := [.int v5]) (tX5_everyMoth E.2.1 hv S6 ) (hv.ob _) m_X5_everyMoth rfl ml_RX5_183 (Nat.le_of_ble_eq_true rfl) (Nat.le_of_ble_eq_true rfl) rfl (Nat.le_of_ble_eq_true rfl) dd_X5_luck_40 (fun r7 => ?_)
    refine J_icmp_gt hE (tgt := 86) dd_X5_luck_43 (by decide) (fun c19 => ?_) (fun c19 => ?_)
    · refine J_sub [0, 3, 4] rfl ?_
      exact hk86 (w4, S6)
    · refine J_aload_n hE dd_X5_luck_46 0 rfl rfl ?_
      refine J_invVwv hE (e := fun x => x) (As := []) (st := []) (tX5_starts E.2.1 hv S6 ) (hv.ob _) m_X5_starts rfl ml_RX5_199 (Nat.le_of_ble_eq_true rfl) (Nat.le_of_ble_eq_true rfl) rfl (Nat.le_of_ble_eq_true rfl) dd_X5_luck_47 (fun q8 => ?_)
      refine J_letS (fun S9 => ?_)
      refine J_aload_n hE dd_X5_luck_50 0 rfl rfl ?_
      refine J_iload hE dd_X5_luck_51 5 rfl ?_
      refine J_invVwv hE (e := fun x => x) (As := [.int v5]) (st := []) (tX5_nightGoes E.2.1 hv S9 v5) (hv.ob _) m_X5_nightGoes rfl ml_RX5_186 (Nat.le_of_ble_eq_true rfl) (Nat.le_of_ble_eq_true rfl) rfl (Nat.le_of_ble_eq_true rfl) dd_X5_luck_53 (fun q10 => ?_)
      refine J_letS (fun S11 => ?_)
      refine J_lload hE dd_X5_luck_56 4 rfl ?_
      refine J_aload_n hE dd_X5_luck_58 0 rfl rfl ?_
      refine J_iload_n hE dd_X5_luck_59 2 rfl rfl ?_
      refine J_invVri hE (As := [.int i2]) (st := [.long w4]) (tX5_isEaten E.2.1 hv S11 i2) (hv.ob _) m_X5_isEaten rfl ml_RX5_195 (Nat.le_of_ble_eq_true rfl) (Nat.le_of_ble_eq_true rfl) rfl (Nat.le_of_ble_eq_true rfl) dd_X5_luck_60 (fun r12 => ?_)
      refine J_jn (m := 77) (Lf := fun p16 => [(0, .ref b), (1, .int i1), (2, .int i2), (3, .int i3), (6, .int v5)]) (sf := fun p16 => [.long p16, .long w4]) (Xf := fun p16 => S11) (fun p16 => ?_) (fun hj13 => ?_)
      · show J V E _ _ 77 [(0, .ref b), (1, .int i1), (2, .int i2), (3, .int i3), (6, .int v5)] [.long p16, .long w4] S11
        refine J_ladd hE dd_X5_luck_77 ?_
        refine J_letl (fun y17 => ?_)
        refine J_lstore hE (L' := [(4, .long y17), (0, .ref b), (1, .int i1), (2, .int i2), (3, .int i3), (6, .int v5)]) dd_X5_luck_78 (Nat.le_of_ble_eq_true rfl) rfl ?_
        refine J_iincL hE (v := (v5 + (1 : Int32))) (Lf := fun x18 => [(6, .int x18), (4, .long y17), (0, .ref b), (1, .int i1), (2, .int i2), (3, .int i3)]) dd_X5_luck_80 (j := 5) rfl (congrArg (v5 + ·) (by decide)) (Nat.le_of_ble_eq_true rfl) (fun _ => rfl) (fun x18 => ?_)
        refine J_goto hE (tgt := 37) dd_X5_luck_83 (by decide) ?_
        refine J_sub [2, 3, 4, 5, 1, 0] rfl ?_
        exact ih y17 x18 S11
      · refine J_if_eq hE (tgt := 76) dd_X5_luck_63 (by decide) (fun c15 => ?_) (fun c15 => ?_)
        · refine J_lconst hE (v := (0 : Int64)) dd_X5_luck_76 (by decide) ?_
          refine J_sub [0, 1, 2, 3, 5] rfl ?_
          exact hj13 (0 : Int64)
        · refine J_aload_n hE dd_X5_luck_66 0 rfl rfl ?_
          refine J_iload hE dd_X5_luck_67 5 rfl ?_
          refine J_iload_n hE dd_X5_luck_69 1 rfl rfl ?_
          refine J_invVrl hE (As := [.int v5, .int i1]) (st := [.long w4]) (tX5_waysOf E.2.1 hv S11 v5 i1) (hv.ob _) m_X5_waysOf rfl ml_RX5_276 (Nat.le_of_ble_eq_true rfl) (Nat.le_of_ble_eq_true rfl) rfl (Nat.le_of_ble_eq_true rfl) dd_X5_luck_70 (fun r14 => ?_)
          refine J_goto hE (tgt := 77) dd_X5_luck_73 (by decide) ?_
          refine J_sub [0, 1, 2, 3, 5] rfl ?_
          exact hj13 r14
set_option maxHeartbeats 4000000 in
set_option maxRecDepth 100000 in
theorem tX5_luck (l : Launch) {V : JV M2} {b : Nat} {a : Nat → Nat} (hv : vX5 V b a) (S : M2) (i1 : Int32) (i2 : Int32) (i3 : Int32) : JC l V yX5_luck cX5_luck 7 (some .long) jj_l 4 [.ref b, .int i1, .int i2, .int i3] S ((fX5_luck i1 i2 i3 S).map (fun q => (q.1, q.2))) := by
  refine jj_of (by decide) (Nat.le_of_ble_eq_true rfl) (fun E hlE hE => ?_)
  unfold fX5_luck
  refine J_sub (L' := [(0, .ref b), (1, .int i1), (2, .int i2), (3, .int i3)]) [0, 1, 2, 3] rfl ?_
  refine J_iload_n hE dd_X5_luck_0 1 rfl rfl ?_
  refine J_i2l hE dd_X5_luck_1 ?_
  refine J_lconst hE (v := (0 : Int64)) dd_X5_luck_2 (by decide) ?_
  refine J_ldc2 hE (v := (10 : Int64)) dd_X5_luck_3 cl_RX5_274 ?_
  refine J_invSri hE (As := [.long (i1.toInt64), .long (0 : Int64), .long (10 : Int64)]) (st := []) (tX5_in E.2.1 V S (i1.toInt64) (0 : Int64) (10 : Int64)) m_X5_in s_X5_in rfl ml_RX5_71 (Nat.le_of_ble_eq_true rfl) (Nat.le_of_ble_eq_true rfl) rfl (Nat.le_of_ble_eq_true rfl) dd_X5_luck_6 (fun r1 => ?_)
  refine J_if_eq hE (tgt := 27) dd_X5_luck_9 (by decide) (fun c25 => ?_) (fun c25 => ?_)
  · refine J_ldc2 hE (v := (-1 : Int64)) dd_X5_luck_27 cl_RX5_161 ?_
    exact J_lret hE dd_X5_luck_30 rfl rfl
  · refine J_aload_n hE dd_X5_luck_12 0 rfl rfl ?_
    refine J_iload_n hE dd_X5_luck_13 2 rfl rfl ?_
    refine J_invVri hE (As := [.int i2]) (st := []) (tX5_isBolt E.2.1 hv S i2) (hv.ob _) m_X5_isBolt rfl ml_RX5_205 (Nat.le_of_ble_eq_true rfl) (Nat.le_of_ble_eq_true rfl) rfl (Nat.le_of_ble_eq_true rfl) dd_X5_luck_14 (fun r2 => ?_)
    refine J_if_eq hE (tgt := 27) dd_X5_luck_17 (by decide) (fun c24 => ?_) (fun c24 => ?_)
    · refine J_ldc2 hE (v := (-1 : Int64)) dd_X5_luck_27 cl_RX5_161 ?_
      exact J_lret hE dd_X5_luck_30 rfl rfl
    · refine J_iload_n hE dd_X5_luck_20 3 rfl rfl ?_
      refine J_invSri hE (As := [.int i3]) (st := []) (tX5_isPart E.2.1 V S i3) m_X5_isPart s_X5_isPart rfl ml_RX5_239 (Nat.le_of_ble_eq_true rfl) (Nat.le_of_ble_eq_true rfl) rfl (Nat.le_of_ble_eq_true rfl) dd_X5_luck_21 (fun r3 => ?_)
      refine J_if_ne hE (tgt := 31) dd_X5_luck_24 (by decide) (fun c23 => ?_) (fun c23 => ?_)
      · refine J_lconst hE (v := (0 : Int64)) dd_X5_luck_31 (by decide) ?_
        refine J_lstore hE (L' := [(4, .long (0 : Int64)), (0, .ref b), (1, .int i1), (2, .int i2), (3, .int i3)]) dd_X5_luck_32 (Nat.le_of_ble_eq_true rfl) rfl ?_
        refine J_iconst hE (v := (0 : Int32)) dd_X5_luck_34 (by decide) ?_
        refine J_istore hE (L' := [(6, .int (0 : Int32)), (4, .long (0 : Int64)), (0, .ref b), (1, .int i1), (2, .int i2), (3, .int i3)]) dd_X5_luck_35 (Nat.le_of_ble_eq_true rfl) rfl ?_
        refine J_sub [2, 3, 4, 5, 1, 0] rfl ?_
        refine tX5_luck_L37 hv i1 i2 i3 hE (fun p20 => ?_) 400 (0 : Int64) (0 : Int32) S
        show J V E _ _ 86 [(0, .ref b), (3, .int i3), (4, .long p20.1)] [] p20.2
        refine J_lload hE dd_X5_luck_86 2 rfl ?_
        refine J_aload_n hE dd_X5_luck_88 0 rfl rfl ?_
        refine J_invVrl hE (As := []) (st := [.long p20.1]) (tX5_allWays E.2.1 hv p20.2 ) (hv.ob _) m_X5_allWays rfl ml_RX5_280 (Nat.le_of_ble_eq_true rfl) (Nat.le_of_ble_eq_true rfl) rfl (Nat.le_of_ble_eq_true rfl) dd_X5_luck_89 (fun r21 => ?_)
        refine J_iload_n hE dd_X5_luck_92 1 rfl rfl ?_
        refine J_invSrl hE (As := [.long p20.1, .long r21, .int i3]) (st := []) (tX5_told E.2.1 V p20.2 p20.1 r21 i3) m_X5_told s_X5_told rfl ml_RX5_284 (Nat.le_of_ble_eq_true rfl) (Nat.le_of_ble_eq_true rfl) rfl (Nat.le_of_ble_eq_true rfl) dd_X5_luck_93 (fun r22 => ?_)
        exact J_lret hE dd_X5_luck_96 rfl rfl
      · refine J_ldc2 hE (v := (-1 : Int64)) dd_X5_luck_27 cl_RX5_161 ?_
        exact J_lret hE dd_X5_luck_30 rfl rfl
theorem dd_X5_see_0 : jd cX5_see 0 (.aload_n 0) 1 1 := ⟨by decide +kernel, rfl⟩
theorem dd_X5_see_1 : jd cX5_see 1 (.iload_n 1) 1 2 := ⟨by decide +kernel, rfl⟩
theorem dd_X5_see_2 : jd cX5_see 2 (.invokevirtual 205) 3 5 := ⟨by decide +kernel, rfl⟩
theorem dd_X5_see_20 : jd cX5_see 20 (.iconst (-1)) 1 21 := ⟨by decide +kernel, rfl⟩
theorem dd_X5_see_21 : jd cX5_see 21 (.ireturn) 1 22 := ⟨by decide +kernel, rfl⟩
theorem dd_X5_see_8 : jd cX5_see 8 (.iload_n 2) 1 9 := ⟨by decide +kernel, rfl⟩
theorem dd_X5_see_9 : jd cX5_see 9 (.i2l) 1 10 := ⟨by decide +kernel, rfl⟩
theorem dd_X5_see_10 : jd cX5_see 10 (.lconst 0) 1 11 := ⟨by decide +kernel, rfl⟩
theorem dd_X5_see_11 : jd cX5_see 11 (.ldc2_w 232) 3 14 := ⟨by decide +kernel, rfl⟩
theorem dd_X5_see_14 : jd cX5_see 14 (.invokestatic 71) 3 17 := ⟨by decide +kernel, rfl⟩
theorem dd_X5_see_22 : jd cX5_see 22 (.aload_n 0) 1 23 := ⟨by decide +kernel, rfl⟩
theorem dd_X5_see_23 : jd cX5_see 23 (.getfield 7) 3 26 := ⟨by decide +kernel, rfl⟩
theorem dd_X5_see_26 : jd cX5_see 26 (.bipush 49) 2 28 := ⟨by decide +kernel, rfl⟩
theorem dd_X5_see_28 : jd cX5_see 28 (.iaload) 1 29 := ⟨by decide +kernel, rfl⟩
theorem dd_X5_see_29 : jd cX5_see 29 (.bipush 6) 2 31 := ⟨by decide +kernel, rfl⟩
theorem dd_X5_see_37 : jd cX5_see 37 (.aload_n 0) 1 38 := ⟨by decide +kernel, rfl⟩
theorem dd_X5_see_38 : jd cX5_see 38 (.getfield 7) 3 41 := ⟨by decide +kernel, rfl⟩
theorem dd_X5_see_41 : jd cX5_see 41 (.bipush 50) 2 43 := ⟨by decide +kernel, rfl⟩
theorem dd_X5_see_43 : jd cX5_see 43 (.iconst 2) 1 44 := ⟨by decide +kernel, rfl⟩
theorem dd_X5_see_44 : jd cX5_see 44 (.aload_n 0) 1 45 := ⟨by decide +kernel, rfl⟩
theorem dd_X5_see_45 : jd cX5_see 45 (.getfield 7) 3 48 := ⟨by decide +kernel, rfl⟩
theorem dd_X5_see_48 : jd cX5_see 48 (.bipush 49) 2 50 := ⟨by decide +kernel, rfl⟩
theorem dd_X5_see_50 : jd cX5_see 50 (.iaload) 1 51 := ⟨by decide +kernel, rfl⟩
theorem dd_X5_see_51 : jd cX5_see 51 (.imul) 1 52 := ⟨by decide +kernel, rfl⟩
theorem dd_X5_see_52 : jd cX5_see 52 (.iadd) 1 53 := ⟨by decide +kernel, rfl⟩
theorem dd_X5_see_53 : jd cX5_see 53 (.iload_n 1) 1 54 := ⟨by decide +kernel, rfl⟩
theorem dd_X5_see_54 : jd cX5_see 54 (.iastore) 1 55 := ⟨by decide +kernel, rfl⟩
theorem dd_X5_see_55 : jd cX5_see 55 (.aload_n 0) 1 56 := ⟨by decide +kernel, rfl⟩
theorem dd_X5_see_56 : jd cX5_see 56 (.getfield 7) 3 59 := ⟨by decide +kernel, rfl⟩
theorem dd_X5_see_59 : jd cX5_see 59 (.bipush 50) 2 61 := ⟨by decide +kernel, rfl⟩
theorem dd_X5_see_61 : jd cX5_see 61 (.iconst 2) 1 62 := ⟨by decide +kernel, rfl⟩
theorem dd_X5_see_62 : jd cX5_see 62 (.aload_n 0) 1 63 := ⟨by decide +kernel, rfl⟩
theorem dd_X5_see_63 : jd cX5_see 63 (.getfield 7) 3 66 := ⟨by decide +kernel, rfl⟩
theorem dd_X5_see_66 : jd cX5_see 66 (.bipush 49) 2 68 := ⟨by decide +kernel, rfl⟩
theorem dd_X5_see_68 : jd cX5_see 68 (.iaload) 1 69 := ⟨by decide +kernel, rfl⟩
theorem dd_X5_see_69 : jd cX5_see 69 (.imul) 1 70 := ⟨by decide +kernel, rfl⟩
theorem dd_X5_see_70 : jd cX5_see 70 (.iadd) 1 71 := ⟨by decide +kernel, rfl⟩
theorem dd_X5_see_71 : jd cX5_see 71 (.iconst 1) 1 72 := ⟨by decide +kernel, rfl⟩
theorem dd_X5_see_72 : jd cX5_see 72 (.iadd) 1 73 := ⟨by decide +kernel, rfl⟩
theorem dd_X5_see_73 : jd cX5_see 73 (.iload_n 2) 1 74 := ⟨by decide +kernel, rfl⟩
theorem dd_X5_see_74 : jd cX5_see 74 (.iastore) 1 75 := ⟨by decide +kernel, rfl⟩
theorem dd_X5_see_75 : jd cX5_see 75 (.aload_n 0) 1 76 := ⟨by decide +kernel, rfl⟩
theorem dd_X5_see_76 : jd cX5_see 76 (.getfield 7) 3 79 := ⟨by decide +kernel, rfl⟩
theorem dd_X5_see_79 : jd cX5_see 79 (.bipush 49) 2 81 := ⟨by decide +kernel, rfl⟩
theorem dd_X5_see_81 : jd cX5_see 81 (.dup2) 1 82 := ⟨by decide +kernel, rfl⟩
theorem dd_X5_see_82 : jd cX5_see 82 (.iaload) 1 83 := ⟨by decide +kernel, rfl⟩
theorem dd_X5_see_83 : jd cX5_see 83 (.iconst 1) 1 84 := ⟨by decide +kernel, rfl⟩
theorem dd_X5_see_84 : jd cX5_see 84 (.iadd) 1 85 := ⟨by decide +kernel, rfl⟩
theorem dd_X5_see_85 : jd cX5_see 85 (.iastore) 1 86 := ⟨by decide +kernel, rfl⟩
theorem dd_X5_see_86 : jd cX5_see 86 (.aload_n 0) 1 87 := ⟨by decide +kernel, rfl⟩
theorem dd_X5_see_87 : jd cX5_see 87 (.getfield 7) 3 90 := ⟨by decide +kernel, rfl⟩
theorem dd_X5_see_90 : jd cX5_see 90 (.bipush 49) 2 92 := ⟨by decide +kernel, rfl⟩
theorem dd_X5_see_92 : jd cX5_see 92 (.iaload) 1 93 := ⟨by decide +kernel, rfl⟩
theorem dd_X5_see_93 : jd cX5_see 93 (.ireturn) 1 94 := ⟨by decide +kernel, rfl⟩
theorem dd_X5_see_34 : jd cX5_see 34 (.bipush (-3)) 2 36 := ⟨by decide +kernel, rfl⟩
theorem dd_X5_see_36 : jd cX5_see 36 (.ireturn) 1 37 := ⟨by decide +kernel, rfl⟩
theorem dd_X5_see_31 : jd cX5_see 31 (.if_icmp .ne 6) 3 34 := ⟨by decide +kernel, rfl⟩
theorem dd_X5_see_17 : jd cX5_see 17 (.ifCond .ne 5) 3 20 := ⟨by decide +kernel, rfl⟩
theorem dd_X5_see_5 : jd cX5_see 5 (.ifCond .eq 15) 3 8 := ⟨by decide +kernel, rfl⟩
theorem m_X5_see : jmV yX5_see cX5_see 3 (some .int) 2 := ⟨⟨(jj_m (w := Cond.code yX5_see cX5_see 3 (some .int)) (List.mem_of_getElem? (i := 1204) (by decide +kernel)) rfl), (jj_m (w := Cond.initialized yX5_see.cls) (List.mem_of_getElem? (i := 69) (by decide +kernel)) rfl), ⟨by decide, by decide⟩, by decide +kernel⟩, (jj_m (w := Cond.instanceMethod yX5_see) (List.mem_of_getElem? (i := 1202) (by decide +kernel)) rfl), (jj_m (w := Cond.selects yX5_see.cls yX5_see yX5_see) (List.mem_of_getElem? (i := 1203) (by decide +kernel)) rfl)⟩
def fX5_see (i1 : Int32) (i2 : Int32) (S : M2) : Option (Int32 × M2) :=
  (fX5_isBolt i1 S).bind fun r1 =>
  if r1 = 0 then
    some ((-1 : Int32), S)
  else
    (fX5_in (i2.toInt64) (0 : Int64) (9 : Int64)).bind fun r2 =>
    if r2 = 0 then
      some ((-1 : Int32), S)
    else
      bnd (49 : Int32) 186 <|
      if (S 0 (49 : Int32).toNatClampNeg) = (6 : Int32) then
        some ((-3 : Int32), S)
      else
        bnd (49 : Int32) 186 <|
        bnd ((50 : Int32) + ((2 : Int32) * (S 0 (49 : Int32).toNatClampNeg))) 186 <|
        lt (va_up S 0 (upd (S 0) ((50 : Int32) + ((2 : Int32) * (S 0 (49 : Int32).toNatClampNeg))).toNatClampNeg i1)) fun S3 =>
        bnd (49 : Int32) 186 <|
        bnd (((50 : Int32) + ((2 : Int32) * (S3 0 (49 : Int32).toNatClampNeg))) + (1 : Int32)) 186 <|
        lt (va_up S3 0 (upd (S3 0) (((50 : Int32) + ((2 : Int32) * (S3 0 (49 : Int32).toNatClampNeg))) + (1 : Int32)).toNatClampNeg i2)) fun S4 =>
        bnd (49 : Int32) 186 <|
        bnd (49 : Int32) 186 <|
        lt (va_up S4 0 (upd (S4 0) (49 : Int32).toNatClampNeg ((S4 0 (49 : Int32).toNatClampNeg) + (1 : Int32)))) fun S5 =>
        bnd (49 : Int32) 186 <|
        some ((S5 0 (49 : Int32).toNatClampNeg), S5)

set_option maxHeartbeats 4000000 in
set_option maxRecDepth 100000 in
theorem tX5_see (l : Launch) {V : JV M2} {b : Nat} {a : Nat → Nat} (hv : vX5 V b a) (S : M2) (i1 : Int32) (i2 : Int32) : JC l V yX5_see cX5_see 3 (some .int) jj_i 2 [.ref b, .int i1, .int i2] S ((fX5_see i1 i2 S).map (fun q => (q.1, q.2))) := by
  refine jj_of (by decide) (Nat.le_of_ble_eq_true rfl) (fun E hlE hE => ?_)
  unfold fX5_see
  refine J_sub (L' := [(0, .ref b), (1, .int i1), (2, .int i2)]) [0, 1, 2] rfl ?_
  refine J_aload_n hE dd_X5_see_0 0 rfl rfl ?_
  refine J_iload_n hE dd_X5_see_1 1 rfl rfl ?_
  refine J_invVri hE (As := [.int i1]) (st := []) (tX5_isBolt E.2.1 hv S i1) (hv.ob _) m_X5_isBolt rfl ml_RX5_205 (Nat.le_of_ble_eq_true rfl) (Nat.le_of_ble_eq_true rfl) rfl (Nat.le_of_ble_eq_true rfl) dd_X5_see_2 (fun r1 => ?_)
  refine J_if_eq hE (tgt := 20) dd_X5_see_5 (by decide) (fun c8 => ?_) (fun c8 => ?_)
  · refine J_iconst hE (v := (-1 : Int32)) dd_X5_see_20 (by decide) ?_
    exact J_iret hE dd_X5_see_21 rfl rfl
  · refine J_iload_n hE dd_X5_see_8 2 rfl rfl ?_
    refine J_i2l hE dd_X5_see_9 ?_
    refine J_lconst hE (v := (0 : Int64)) dd_X5_see_10 (by decide) ?_
    refine J_ldc2 hE (v := (9 : Int64)) dd_X5_see_11 cl_RX5_232 ?_
    refine J_invSri hE (As := [.long (i2.toInt64), .long (0 : Int64), .long (9 : Int64)]) (st := []) (tX5_in E.2.1 V S (i2.toInt64) (0 : Int64) (9 : Int64)) m_X5_in s_X5_in rfl ml_RX5_71 (Nat.le_of_ble_eq_true rfl) (Nat.le_of_ble_eq_true rfl) rfl (Nat.le_of_ble_eq_true rfl) dd_X5_see_14 (fun r2 => ?_)
    refine J_if_ne hE (tgt := 22) dd_X5_see_17 (by decide) (fun c7 => ?_) (fun c7 => ?_)
    · refine J_aload_n hE dd_X5_see_22 0 rfl rfl ?_
      refine J_get hE (hv.ob _) jc_X5 0 (by decide) fl_RX5_7 (v := .ref (a 0)) rfl dd_X5_see_23 ?_
      refine J_bipush hE (v := (49 : Int32)) dd_X5_see_26 (by decide) ?_
      refine J_ald hE (hv.arr 0 (n := 186) (ty := .int) (by decide) _) dd_X5_see_28 ?_
      refine J_bipush hE (v := (6 : Int32)) dd_X5_see_29 (by decide) ?_
      refine J_icmp_ne hE (tgt := 37) dd_X5_see_31 (by decide) (fun c6 => ?_) (fun c6 => ?_)
      · refine J_aload_n hE dd_X5_see_37 0 rfl rfl ?_
        refine J_get hE (hv.ob _) jc_X5 0 (by decide) fl_RX5_7 (v := .ref (a 0)) rfl dd_X5_see_38 ?_
        refine J_bipush hE (v := (50 : Int32)) dd_X5_see_41 (by decide) ?_
        refine J_iconst hE (v := (2 : Int32)) dd_X5_see_43 (by decide) ?_
        refine J_aload_n hE dd_X5_see_44 0 rfl rfl ?_
        refine J_get hE (hv.ob _) jc_X5 0 (by decide) fl_RX5_7 (v := .ref (a 0)) rfl dd_X5_see_45 ?_
        refine J_bipush hE (v := (49 : Int32)) dd_X5_see_48 (by decide) ?_
        refine J_ald hE (hv.arr 0 (n := 186) (ty := .int) (by decide) _) dd_X5_see_50 ?_
        refine J_imul hE dd_X5_see_51 ?_
        refine J_iadd hE dd_X5_see_52 ?_
        refine J_iload_n hE dd_X5_see_53 1 rfl rfl ?_
        refine J_ast hE hv 0 (N := 186) (by decide) dd_X5_see_54 ?_
        refine J_letS (fun S3 => ?_)
        refine J_aload_n hE dd_X5_see_55 0 rfl rfl ?_
        refine J_get hE (hv.ob _) jc_X5 0 (by decide) fl_RX5_7 (v := .ref (a 0)) rfl dd_X5_see_56 ?_
        refine J_bipush hE (v := (50 : Int32)) dd_X5_see_59 (by decide) ?_
        refine J_iconst hE (v := (2 : Int32)) dd_X5_see_61 (by decide) ?_
        refine J_aload_n hE dd_X5_see_62 0 rfl rfl ?_
        refine J_get hE (hv.ob _) jc_X5 0 (by decide) fl_RX5_7 (v := .ref (a 0)) rfl dd_X5_see_63 ?_
        refine J_bipush hE (v := (49 : Int32)) dd_X5_see_66 (by decide) ?_
        refine J_ald hE (hv.arr 0 (n := 186) (ty := .int) (by decide) _) dd_X5_see_68 ?_
        refine J_imul hE dd_X5_see_69 ?_
        refine J_iadd hE dd_X5_see_70 ?_
        refine J_iconst hE (v := (1 : Int32)) dd_X5_see_71 (by decide) ?_
        refine J_iadd hE dd_X5_see_72 ?_
        refine J_iload_n hE dd_X5_see_73 2 rfl rfl ?_
        refine J_ast hE hv 0 (N := 186) (by decide) dd_X5_see_74 ?_
        refine J_letS (fun S4 => ?_)
        refine J_aload_n hE dd_X5_see_75 0 rfl rfl ?_
        refine J_get hE (hv.ob _) jc_X5 0 (by decide) fl_RX5_7 (v := .ref (a 0)) rfl dd_X5_see_76 ?_
        refine J_bipush hE (v := (49 : Int32)) dd_X5_see_79 (by decide) ?_
        refine J_dup2 hE dd_X5_see_81 rfl rfl ?_
        refine J_ald hE (hv.arr 0 (n := 186) (ty := .int) (by decide) _) dd_X5_see_82 ?_
        refine J_iconst hE (v := (1 : Int32)) dd_X5_see_83 (by decide) ?_
        refine J_iadd hE dd_X5_see_84 ?_
        refine J_ast hE hv 0 (N := 186) (by decide) dd_X5_see_85 ?_
        refine J_letS (fun S5 => ?_)
        refine J_aload_n hE dd_X5_see_86 0 rfl rfl ?_
        refine J_get hE (hv.ob _) jc_X5 0 (by decide) fl_RX5_7 (v := .ref (a 0)) rfl dd_X5_see_87 ?_
        refine J_bipush hE (v := (49 : Int32)) dd_X5_see_90 (by decide) ?_
        refine J_ald hE (hv.arr 0 (n := 186) (ty := .int) (by decide) _) dd_X5_see_92 ?_
        exact J_iret hE dd_X5_see_93 rfl rfl
      · refine J_bipush hE (v := (-3 : Int32)) dd_X5_see_34 (by decide) ?_
        exact J_iret hE dd_X5_see_36 rfl rfl
    · refine J_iconst hE (v := (-1 : Int32)) dd_X5_see_20 (by decide) ?_
      exact J_iret hE dd_X5_see_21 rfl rfl
theorem dd_X5_forget_0 : jd cX5_forget 0 (.iload_n 1) 1 1 := ⟨by decide +kernel, rfl⟩
theorem dd_X5_forget_1 : jd cX5_forget 1 (.i2l) 1 2 := ⟨by decide +kernel, rfl⟩
theorem dd_X5_forget_2 : jd cX5_forget 2 (.lconst 0) 1 3 := ⟨by decide +kernel, rfl⟩
theorem dd_X5_forget_3 : jd cX5_forget 3 (.aload_n 0) 1 4 := ⟨by decide +kernel, rfl⟩
theorem dd_X5_forget_4 : jd cX5_forget 4 (.getfield 7) 3 7 := ⟨by decide +kernel, rfl⟩
theorem dd_X5_forget_7 : jd cX5_forget 7 (.bipush 49) 2 9 := ⟨by decide +kernel, rfl⟩
theorem dd_X5_forget_9 : jd cX5_forget 9 (.iaload) 1 10 := ⟨by decide +kernel, rfl⟩
theorem dd_X5_forget_10 : jd cX5_forget 10 (.i2l) 1 11 := ⟨by decide +kernel, rfl⟩
theorem dd_X5_forget_11 : jd cX5_forget 11 (.invokestatic 71) 3 14 := ⟨by decide +kernel, rfl⟩
theorem dd_X5_forget_27 : jd cX5_forget 27 (.iconst (-1)) 1 28 := ⟨by decide +kernel, rfl⟩
theorem dd_X5_forget_28 : jd cX5_forget 28 (.ireturn) 1 29 := ⟨by decide +kernel, rfl⟩
theorem dd_X5_forget_17 : jd cX5_forget 17 (.aload_n 0) 1 18 := ⟨by decide +kernel, rfl⟩
theorem dd_X5_forget_18 : jd cX5_forget 18 (.bipush 49) 2 20 := ⟨by decide +kernel, rfl⟩
theorem dd_X5_forget_20 : jd cX5_forget 20 (.iload_n 1) 1 21 := ⟨by decide +kernel, rfl⟩
theorem dd_X5_forget_21 : jd cX5_forget 21 (.invokevirtual 229) 3 24 := ⟨by decide +kernel, rfl⟩
theorem dd_X5_forget_24 : jd cX5_forget 24 (.goto 4) 3 27 := ⟨by decide +kernel, rfl⟩
theorem dd_X5_forget_14 : jd cX5_forget 14 (.ifCond .eq 13) 3 17 := ⟨by decide +kernel, rfl⟩
theorem m_X5_forget : jmV yX5_forget cX5_forget 2 (some .int) 1 := ⟨⟨(jj_m (w := Cond.code yX5_forget cX5_forget 2 (some .int)) (List.mem_of_getElem? (i := 1208) (by decide +kernel)) rfl), (jj_m (w := Cond.initialized yX5_forget.cls) (List.mem_of_getElem? (i := 69) (by decide +kernel)) rfl), ⟨by decide, by decide⟩, by decide +kernel⟩, (jj_m (w := Cond.instanceMethod yX5_forget) (List.mem_of_getElem? (i := 1206) (by decide +kernel)) rfl), (jj_m (w := Cond.selects yX5_forget.cls yX5_forget yX5_forget) (List.mem_of_getElem? (i := 1207) (by decide +kernel)) rfl)⟩
def fX5_forget (i1 : Int32) (S : M2) : Option (Int32 × M2) :=
  bnd (49 : Int32) 186 <|
  (fX5_in (i1.toInt64) (0 : Int64) ((S 0 (49 : Int32).toNatClampNeg).toInt64)).bind fun r1 =>
  if r1 = 0 then
    some ((-1 : Int32), S)
  else
    (fX5_becomes (49 : Int32) i1 S).bind fun q2 =>
    lt (q2.2) fun S3 =>
    some (q2.1, S3)

set_option maxHeartbeats 4000000 in
set_option maxRecDepth 100000 in
theorem tX5_forget (l : Launch) {V : JV M2} {b : Nat} {a : Nat → Nat} (hv : vX5 V b a) (S : M2) (i1 : Int32) : JC l V yX5_forget cX5_forget 2 (some .int) jj_i 1 [.ref b, .int i1] S ((fX5_forget i1 S).map (fun q => (q.1, q.2))) := by
  refine jj_of (by decide) (Nat.le_of_ble_eq_true rfl) (fun E hlE hE => ?_)
  unfold fX5_forget
  refine J_sub (L' := [(0, .ref b), (1, .int i1)]) [0, 1] rfl ?_
  refine J_iload_n hE dd_X5_forget_0 1 rfl rfl ?_
  refine J_i2l hE dd_X5_forget_1 ?_
  refine J_lconst hE (v := (0 : Int64)) dd_X5_forget_2 (by decide) ?_
  refine J_aload_n hE dd_X5_forget_3 0 rfl rfl ?_
  refine J_get hE (hv.ob _) jc_X5 0 (by decide) fl_RX5_7 (v := .ref (a 0)) rfl dd_X5_forget_4 ?_
  refine J_bipush hE (v := (49 : Int32)) dd_X5_forget_7 (by decide) ?_
  refine J_ald hE (hv.arr 0 (n := 186) (ty := .int) (by decide) _) dd_X5_forget_9 ?_
  refine J_i2l hE dd_X5_forget_10 ?_
  refine J_invSri hE (As := [.long (i1.toInt64), .long (0 : Int64), .long ((S 0 (49 : Int32).toNatClampNeg).toInt64)]) (st := []) (tX5_in E.2.1 V S (i1.toInt64) (0 : Int64) ((S 0 (49 : Int32).toNatClampNeg).toInt64)) m_X5_in s_X5_in rfl ml_RX5_71 (Nat.le_of_ble_eq_true rfl) (Nat.le_of_ble_eq_true rfl) rfl (Nat.le_of_ble_eq_true rfl) dd_X5_forget_11 (fun r1 => ?_)
  refine J_if_eq hE (tgt := 27) dd_X5_forget_14 (by decide) (fun c4 => ?_) (fun c4 => ?_)
  · refine J_iconst hE (v := (-1 : Int32)) dd_X5_forget_27 (by decide) ?_
    exact J_iret hE dd_X5_forget_28 rfl rfl
  · refine J_aload_n hE dd_X5_forget_17 0 rfl rfl ?_
    refine J_bipush hE (v := (49 : Int32)) dd_X5_forget_18 (by decide) ?_
    refine J_iload_n hE dd_X5_forget_20 1 rfl rfl ?_
    refine J_invVwi hE (e := fun x => x) (As := [.int (49 : Int32), .int i1]) (st := []) (tX5_becomes E.2.1 hv S (49 : Int32) i1) (hv.ob _) m_X5_becomes rfl ml_RX5_229 (Nat.le_of_ble_eq_true rfl) (Nat.le_of_ble_eq_true rfl) rfl (Nat.le_of_ble_eq_true rfl) dd_X5_forget_21 (fun q2 => ?_)
    refine J_letS (fun S3 => ?_)
    refine J_goto hE (tgt := 28) dd_X5_forget_24 (by decide) ?_
    exact J_iret hE dd_X5_forget_28 rfl rfl
theorem dd_X5_isSo_0 : jd cX5_isSo 0 (.iconst 1) 1 1 := ⟨by decide +kernel, rfl⟩
theorem dd_X5_isSo_1 : jd cX5_isSo 1 (.istore_n 2) 1 2 := ⟨by decide +kernel, rfl⟩
theorem dd_X5_isSo_2 : jd cX5_isSo 2 (.iconst 0) 1 3 := ⟨by decide +kernel, rfl⟩
theorem dd_X5_isSo_3 : jd cX5_isSo 3 (.istore_n 3) 1 4 := ⟨by decide +kernel, rfl⟩
theorem dd_X5_isSo_4 : jd cX5_isSo 4 (.iload_n 3) 1 5 := ⟨by decide +kernel, rfl⟩
theorem dd_X5_isSo_5 : jd cX5_isSo 5 (.aload_n 0) 1 6 := ⟨by decide +kernel, rfl⟩
theorem dd_X5_isSo_6 : jd cX5_isSo 6 (.getfield 7) 3 9 := ⟨by decide +kernel, rfl⟩
theorem dd_X5_isSo_9 : jd cX5_isSo 9 (.bipush 49) 2 11 := ⟨by decide +kernel, rfl⟩
theorem dd_X5_isSo_11 : jd cX5_isSo 11 (.iaload) 1 12 := ⟨by decide +kernel, rfl⟩
theorem dd_X5_isSo_15 : jd cX5_isSo 15 (.aload_n 0) 1 16 := ⟨by decide +kernel, rfl⟩
theorem dd_X5_isSo_16 : jd cX5_isSo 16 (.getfield 7) 3 19 := ⟨by decide +kernel, rfl⟩
theorem dd_X5_isSo_19 : jd cX5_isSo 19 (.bipush 50) 2 21 := ⟨by decide +kernel, rfl⟩
theorem dd_X5_isSo_21 : jd cX5_isSo 21 (.iconst 2) 1 22 := ⟨by decide +kernel, rfl⟩
theorem dd_X5_isSo_22 : jd cX5_isSo 22 (.iload_n 3) 1 23 := ⟨by decide +kernel, rfl⟩
theorem dd_X5_isSo_23 : jd cX5_isSo 23 (.imul) 1 24 := ⟨by decide +kernel, rfl⟩
theorem dd_X5_isSo_24 : jd cX5_isSo 24 (.iadd) 1 25 := ⟨by decide +kernel, rfl⟩
theorem dd_X5_isSo_25 : jd cX5_isSo 25 (.iaload) 1 26 := ⟨by decide +kernel, rfl⟩
theorem dd_X5_isSo_26 : jd cX5_isSo 26 (.istore 4) 2 28 := ⟨by decide +kernel, rfl⟩
theorem dd_X5_isSo_28 : jd cX5_isSo 28 (.iload_n 1) 1 29 := ⟨by decide +kernel, rfl⟩
theorem dd_X5_isSo_29 : jd cX5_isSo 29 (.iload 4) 2 31 := ⟨by decide +kernel, rfl⟩
theorem dd_X5_isSo_31 : jd cX5_isSo 31 (.ishr) 1 32 := ⟨by decide +kernel, rfl⟩
theorem dd_X5_isSo_32 : jd cX5_isSo 32 (.iconst 1) 1 33 := ⟨by decide +kernel, rfl⟩
theorem dd_X5_isSo_33 : jd cX5_isSo 33 (.iand) 1 34 := ⟨by decide +kernel, rfl⟩
theorem dd_X5_isSo_34 : jd cX5_isSo 34 (.iconst 1) 1 35 := ⟨by decide +kernel, rfl⟩
theorem dd_X5_isSo_38 : jd cX5_isSo 38 (.aload_n 0) 1 39 := ⟨by decide +kernel, rfl⟩
theorem dd_X5_isSo_39 : jd cX5_isSo 39 (.iload 4) 2 41 := ⟨by decide +kernel, rfl⟩
theorem dd_X5_isSo_41 : jd cX5_isSo 41 (.iconst 2) 1 42 := ⟨by decide +kernel, rfl⟩
theorem dd_X5_isSo_42 : jd cX5_isSo 42 (.invokevirtual 155) 3 45 := ⟨by decide +kernel, rfl⟩
theorem dd_X5_isSo_45 : jd cX5_isSo 45 (.aload_n 0) 1 46 := ⟨by decide +kernel, rfl⟩
theorem dd_X5_isSo_46 : jd cX5_isSo 46 (.iload 4) 2 48 := ⟨by decide +kernel, rfl⟩
theorem dd_X5_isSo_48 : jd cX5_isSo 48 (.iconst 1) 1 49 := ⟨by decide +kernel, rfl⟩
theorem dd_X5_isSo_49 : jd cX5_isSo 49 (.invokevirtual 155) 3 52 := ⟨by decide +kernel, rfl⟩
theorem dd_X5_isSo_55 : jd cX5_isSo 55 (.iconst 1) 1 56 := ⟨by decide +kernel, rfl⟩
theorem dd_X5_isSo_56 : jd cX5_isSo 56 (.goto 4) 3 59 := ⟨by decide +kernel, rfl⟩
theorem dd_X5_isSo_52 : jd cX5_isSo 52 (.if_icmp .ge 7) 3 55 := ⟨by decide +kernel, rfl⟩
theorem dd_X5_isSo_35 : jd cX5_isSo 35 (.if_icmp .ne 24) 3 38 := ⟨by decide +kernel, rfl⟩
theorem dd_X5_isSo_59 : jd cX5_isSo 59 (.iconst 0) 1 60 := ⟨by decide +kernel, rfl⟩
theorem dd_X5_isSo_60 : jd cX5_isSo 60 (.invokestatic 129) 3 63 := ⟨by decide +kernel, rfl⟩
theorem dd_X5_isSo_63 : jd cX5_isSo 63 (.istore 5) 2 65 := ⟨by decide +kernel, rfl⟩
theorem dd_X5_isSo_65 : jd cX5_isSo 65 (.iload_n 2) 1 66 := ⟨by decide +kernel, rfl⟩
theorem dd_X5_isSo_69 : jd cX5_isSo 69 (.aload_n 0) 1 70 := ⟨by decide +kernel, rfl⟩
theorem dd_X5_isSo_70 : jd cX5_isSo 70 (.iload 4) 2 72 := ⟨by decide +kernel, rfl⟩
theorem dd_X5_isSo_72 : jd cX5_isSo 72 (.iconst 2) 1 73 := ⟨by decide +kernel, rfl⟩
theorem dd_X5_isSo_73 : jd cX5_isSo 73 (.invokevirtual 155) 3 76 := ⟨by decide +kernel, rfl⟩
theorem dd_X5_isSo_76 : jd cX5_isSo 76 (.iload 5) 2 78 := ⟨by decide +kernel, rfl⟩
theorem dd_X5_isSo_78 : jd cX5_isSo 78 (.iadd) 1 79 := ⟨by decide +kernel, rfl⟩
theorem dd_X5_isSo_79 : jd cX5_isSo 79 (.aload_n 0) 1 80 := ⟨by decide +kernel, rfl⟩
theorem dd_X5_isSo_80 : jd cX5_isSo 80 (.getfield 7) 3 83 := ⟨by decide +kernel, rfl⟩
theorem dd_X5_isSo_83 : jd cX5_isSo 83 (.bipush 50) 2 85 := ⟨by decide +kernel, rfl⟩
theorem dd_X5_isSo_85 : jd cX5_isSo 85 (.iconst 2) 1 86 := ⟨by decide +kernel, rfl⟩
theorem dd_X5_isSo_86 : jd cX5_isSo 86 (.iload_n 3) 1 87 := ⟨by decide +kernel, rfl⟩
theorem dd_X5_isSo_87 : jd cX5_isSo 87 (.imul) 1 88 := ⟨by decide +kernel, rfl⟩
theorem dd_X5_isSo_88 : jd cX5_isSo 88 (.iadd) 1 89 := ⟨by decide +kernel, rfl⟩
theorem dd_X5_isSo_89 : jd cX5_isSo 89 (.iconst 1) 1 90 := ⟨by decide +kernel, rfl⟩
theorem dd_X5_isSo_90 : jd cX5_isSo 90 (.iadd) 1 91 := ⟨by decide +kernel, rfl⟩
theorem dd_X5_isSo_91 : jd cX5_isSo 91 (.iaload) 1 92 := ⟨by decide +kernel, rfl⟩
theorem dd_X5_isSo_95 : jd cX5_isSo 95 (.iconst 1) 1 96 := ⟨by decide +kernel, rfl⟩
theorem dd_X5_isSo_96 : jd cX5_isSo 96 (.goto 4) 3 99 := ⟨by decide +kernel, rfl⟩
theorem dd_X5_isSo_92 : jd cX5_isSo 92 (.if_icmp .ne 7) 3 95 := ⟨by decide +kernel, rfl⟩
theorem dd_X5_isSo_66 : jd cX5_isSo 66 (.ifCond .eq 33) 3 69 := ⟨by decide +kernel, rfl⟩
theorem dd_X5_isSo_99 : jd cX5_isSo 99 (.iconst 0) 1 100 := ⟨by decide +kernel, rfl⟩
theorem dd_X5_isSo_100 : jd cX5_isSo 100 (.istore_n 2) 1 101 := ⟨by decide +kernel, rfl⟩
theorem dd_X5_isSo_101 : jd cX5_isSo 101 (.iinc 3 1) 3 104 := ⟨by decide +kernel, rfl⟩
theorem dd_X5_isSo_104 : jd cX5_isSo 104 (.goto (-100)) 3 107 := ⟨by decide +kernel, rfl⟩
theorem dd_X5_isSo_12 : jd cX5_isSo 12 (.if_icmp .ge 95) 3 15 := ⟨by decide +kernel, rfl⟩
theorem dd_X5_isSo_107 : jd cX5_isSo 107 (.iload_n 2) 1 108 := ⟨by decide +kernel, rfl⟩
theorem dd_X5_isSo_108 : jd cX5_isSo 108 (.ireturn) 1 109 := ⟨by decide +kernel, rfl⟩
theorem m_X5_isSo : jmV yX5_isSo cX5_isSo 6 (some .boolean) 1 := ⟨⟨(jj_m (w := Cond.code yX5_isSo cX5_isSo 6 (some .boolean)) (List.mem_of_getElem? (i := 1216) (by decide +kernel)) rfl), (jj_m (w := Cond.initialized yX5_isSo.cls) (List.mem_of_getElem? (i := 69) (by decide +kernel)) rfl), ⟨by decide, by decide⟩, by decide +kernel⟩, (jj_m (w := Cond.instanceMethod yX5_isSo) (List.mem_of_getElem? (i := 1215) (by decide +kernel)) rfl), (jj_m (w := Cond.selects yX5_isSo.cls yX5_isSo yX5_isSo) (List.mem_of_getElem? (i := 60) (by decide +kernel)) rfl)⟩
def fX5_isSo_L4 (S : M2) (i1 : Int32) (k107 : Int32 → Option (Int32)) : Nat → Int32 → Int32 → Option (Int32)
  | 0, _, _ => none
  | n_ + 1, v1, v2 =>
    bnd (49 : Int32) 186 <|
    if (S 0 (49 : Int32).toNatClampNeg) ≤ v2 then
      k107 v1
    else
      bnd ((50 : Int32) + ((2 : Int32) * v2)) 186 <|
      lt ((S 0 ((50 : Int32) + ((2 : Int32) * v2)).toNatClampNeg)) fun x3 =>
      jn (α := Option (Int32)) (β := Int32) (fun j5 =>
        jn (α := Option (Int32)) (β := Unit) (fun j4 =>
          if ((i1 >>> (x3 &&& 31)) &&& (1 : Int32)) = (1 : Int32) then
            (fX5_of x3 (2 : Int32) S).bind fun r6 =>
            (fX5_of x3 (1 : Int32) S).bind fun r7 =>
            if r7 ≤ r6 then
              j4 ()
            else
              j5 (1 : Int32)
          else
            j4 ()) (fun _ => 
          j5 (0 : Int32))) (fun p11 => 
        (fX5_flag p11).bind fun r12 =>
        jn (α := Option (Int32)) (β := Int32) (fun j14 =>
          jn (α := Option (Int32)) (β := Unit) (fun j13 =>
            if v1 = 0 then
              j13 ()
            else
              (fX5_of x3 (2 : Int32) S).bind fun r15 =>
              bnd (((50 : Int32) + ((2 : Int32) * v2)) + (1 : Int32)) 186 <|
              if (r15 + r12) = (S 0 (((50 : Int32) + ((2 : Int32) * v2)) + (1 : Int32)).toNatClampNeg) then
                j14 (1 : Int32)
              else
                j13 ()) (fun _ => 
            j14 (0 : Int32))) (fun p19 => 
          lt (v2 + (1 : Int32)) fun x20 =>
          fX5_isSo_L4 S i1 k107 n_ p19 x20))

def fX5_isSo (i1 : Int32) (S : M2) : Option (Int32) :=
  fX5_isSo_L4 S i1
    (fun p22 =>
      zb p22 (some p22))
    400 (1 : Int32) (0 : Int32)

set_option maxHeartbeats 4000000 in
set_option maxRecDepth 100000 in
theorem tX5_isSo_L4 {V : JV M2} {b : Nat} {a : Nat → Nat} (hv : vX5 V b a) (S : M2) (i1 : Int32) {E : JE (M2) Int32} (hE : JOk V E cX5_isSo yX5_isSo.cls 6 1 (some .boolean) jj_i) {k107 : Int32 → Option (Int32)} (hk107 : ∀ p, J V E (fun r => (r, S)) (k107 p) 107 [(2, .int p)] [] S) : ∀ (n_ : Nat) (v1 : Int32) (v2 : Int32), J V E (fun r => (r, S)) (fX5_isSo_L4 S i1 k107 n_ v1 v2) 4 [(0, .ref b), (1, .int i1), (2, .int v1), (3, .int v2)] [] S := by
  intro n_
  induction n_ with
  | zero =>
    intros
    exact J_none
  | succ n_ ih =>
    intros v1 v2
    rw [fX5_isSo_L4]
    refine J_iload_n hE dd_X5_isSo_4 3 rfl rfl ?_
    refine J_aload_n hE dd_X5_isSo_5 0 rfl rfl ?_
    refine J_get hE (hv.ob _) jc_X5 0 (by decide) fl_RX5_7 (v := .ref (a 0)) rfl dd_X5_isSo_6 ?_
    refine J_bipush hE (v := (49 : Int32)) dd_X5_isSo_9 (by decide) ?_
    refine J_ald hE (hv.arr 0 (n := 186) (ty := .int) (by decide) _) dd_X5_isSo_11 ?_
    refine J_icmp_ge hE (tgt := 107) dd_X5_isSo_12 (by decide) (fun c21 => ?_) (fun c21 => ?_)
    · refine J_sub [2] rfl ?_
      exact hk107 v1
    · refine J_aload_n hE dd_X5_isSo_15 0 rfl rfl ?_
      refine J_get hE (hv.ob _) jc_X5 0 (by decide) fl_RX5_7 (v := .ref (a 0)) rfl dd_X5_isSo_16 ?_
      refine J_bipush hE (v := (50 : Int32)) dd_X5_isSo_19 (by decide) ?_
      refine J_iconst hE (v := (2 : Int32)) dd_X5_isSo_21 (by decide) ?_
      refine J_iload_n hE dd_X5_isSo_22 3 rfl rfl ?_
      refine J_imul hE dd_X5_isSo_23 ?_
      refine J_iadd hE dd_X5_isSo_24 ?_
      refine J_ald hE (hv.arr 0 (n := 186) (ty := .int) (by decide) _) dd_X5_isSo_25 ?_
      refine J_leti (fun x3 => ?_)
      refine J_istore hE (L' := [(4, .int x3), (0, .ref b), (1, .int i1), (2, .int v1), (3, .int v2)]) dd_X5_isSo_26 (Nat.le_of_ble_eq_true rfl) rfl ?_
      refine J_iload_n hE dd_X5_isSo_28 2 rfl rfl ?_
      refine J_iload hE dd_X5_isSo_29 0 rfl ?_
      refine J_ishr hE dd_X5_isSo_31 ?_
      refine J_iconst hE (v := (1 : Int32)) dd_X5_isSo_32 (by decide) ?_
      refine J_iand hE dd_X5_isSo_33 ?_
      refine J_iconst hE (v := (1 : Int32)) dd_X5_isSo_34 (by decide) ?_
      refine J_jn (m := 60) (Lf := fun p11 => [(0, .ref b), (1, .int i1), (2, .int v1), (3, .int v2), (4, .int x3)]) (sf := fun p11 => [.int p11]) (Xf := fun p11 => S) (fun p11 => ?_) (fun hj5 => ?_)
      · show J V E _ _ 60 [(0, .ref b), (1, .int i1), (2, .int v1), (3, .int v2), (4, .int x3)] [.int p11] S
        refine J_invSri hE (As := [.int p11]) (st := []) (tX5_flag E.2.1 V S p11) m_X5_flag s_X5_flag rfl ml_RX5_129 (Nat.le_of_ble_eq_true rfl) (Nat.le_of_ble_eq_true rfl) rfl (Nat.le_of_ble_eq_true rfl) dd_X5_isSo_60 (fun r12 => ?_)
        refine J_istore hE (L' := [(5, .int r12), (0, .ref b), (1, .int i1), (2, .int v1), (3, .int v2), (4, .int x3)]) dd_X5_isSo_63 (Nat.le_of_ble_eq_true rfl) rfl ?_
        refine J_iload_n hE dd_X5_isSo_65 3 rfl rfl ?_
        refine J_jn (m := 100) (Lf := fun p19 => [(0, .ref b), (1, .int i1), (3, .int v2)]) (sf := fun p19 => [.int p19]) (Xf := fun p19 => S) (fun p19 => ?_) (fun hj14 => ?_)
        · show J V E _ _ 100 [(0, .ref b), (1, .int i1), (3, .int v2)] [.int p19] S
          refine J_istore_n hE (L' := [(2, .int p19), (0, .ref b), (1, .int i1), (3, .int v2)]) dd_X5_isSo_100 (Nat.le_of_ble_eq_true rfl) rfl rfl ?_
          refine J_iincL hE (v := (v2 + (1 : Int32))) (Lf := fun x20 => [(3, .int x20), (2, .int p19), (0, .ref b), (1, .int i1)]) dd_X5_isSo_101 (j := 3) rfl (congrArg (v2 + ·) (by decide)) (Nat.le_of_ble_eq_true rfl) (fun _ => rfl) (fun x20 => ?_)
          refine J_goto hE (tgt := 4) dd_X5_isSo_104 (by decide) ?_
          refine J_sub [2, 3, 1, 0] rfl ?_
          exact ih p19 x20
        · refine J_jn (m := 99) (Lf := fun _ => [(0, .ref b), (1, .int i1), (3, .int v2)]) (sf := fun _ => []) (Xf := fun _ => S) (fun _ => ?_) (fun hj13 => ?_)
          · show J V E _ _ 99 [(0, .ref b), (1, .int i1), (3, .int v2)] [] S
            refine J_iconst hE (v := (0 : Int32)) dd_X5_isSo_99 (by decide) ?_
            refine J_sub [0, 1, 2] rfl ?_
            exact hj14 (0 : Int32)
          · refine J_if_eq hE (tgt := 99) dd_X5_isSo_66 (by decide) (fun c17 => ?_) (fun c17 => ?_)
            · refine J_sub [1, 2, 4] rfl ?_
              exact hj13 ()
            · refine J_aload_n hE dd_X5_isSo_69 1 rfl rfl ?_
              refine J_iload hE dd_X5_isSo_70 5 rfl ?_
              refine J_iconst hE (v := (2 : Int32)) dd_X5_isSo_72 (by decide) ?_
              refine J_invVri hE (As := [.int x3, .int (2 : Int32)]) (st := []) (tX5_of E.2.1 hv S x3 (2 : Int32)) (hv.ob _) m_X5_of rfl ml_RX5_155 (Nat.le_of_ble_eq_true rfl) (Nat.le_of_ble_eq_true rfl) rfl (Nat.le_of_ble_eq_true rfl) dd_X5_isSo_73 (fun r15 => ?_)
              refine J_iload hE dd_X5_isSo_76 0 rfl ?_
              refine J_iadd hE dd_X5_isSo_78 ?_
              refine J_aload_n hE dd_X5_isSo_79 1 rfl rfl ?_
              refine J_get hE (hv.ob _) jc_X5 0 (by decide) fl_RX5_7 (v := .ref (a 0)) rfl dd_X5_isSo_80 ?_
              refine J_bipush hE (v := (50 : Int32)) dd_X5_isSo_83 (by decide) ?_
              refine J_iconst hE (v := (2 : Int32)) dd_X5_isSo_85 (by decide) ?_
              refine J_iload_n hE dd_X5_isSo_86 4 rfl rfl ?_
              refine J_imul hE dd_X5_isSo_87 ?_
              refine J_iadd hE dd_X5_isSo_88 ?_
              refine J_iconst hE (v := (1 : Int32)) dd_X5_isSo_89 (by decide) ?_
              refine J_iadd hE dd_X5_isSo_90 ?_
              refine J_ald hE (hv.arr 0 (n := 186) (ty := .int) (by decide) _) dd_X5_isSo_91 ?_
              refine J_icmp_ne hE (tgt := 99) dd_X5_isSo_92 (by decide) (fun c16 => ?_) (fun c16 => ?_)
              · refine J_sub [1, 2, 4] rfl ?_
                exact hj13 ()
              · refine J_iconst hE (v := (1 : Int32)) dd_X5_isSo_95 (by decide) ?_
                refine J_goto hE (tgt := 100) dd_X5_isSo_96 (by decide) ?_
                refine J_sub [1, 2, 4] rfl ?_
                exact hj14 (1 : Int32)
      · refine J_jn (m := 59) (Lf := fun _ => [(0, .ref b), (1, .int i1), (2, .int v1), (3, .int v2), (4, .int x3)]) (sf := fun _ => []) (Xf := fun _ => S) (fun _ => ?_) (fun hj4 => ?_)
        · show J V E _ _ 59 [(0, .ref b), (1, .int i1), (2, .int v1), (3, .int v2), (4, .int x3)] [] S
          refine J_iconst hE (v := (0 : Int32)) dd_X5_isSo_59 (by decide) ?_
          refine J_sub [0, 1, 2, 3, 4] rfl ?_
          exact hj5 (0 : Int32)
        · refine J_icmp_ne hE (tgt := 59) dd_X5_isSo_35 (by decide) (fun c9 => ?_) (fun c9 => ?_)
          · refine J_sub [1, 2, 3, 4, 0] rfl ?_
            exact hj4 ()
          · refine J_aload_n hE dd_X5_isSo_38 1 rfl rfl ?_
            refine J_iload hE dd_X5_isSo_39 0 rfl ?_
            refine J_iconst hE (v := (2 : Int32)) dd_X5_isSo_41 (by decide) ?_
            refine J_invVri hE (As := [.int x3, .int (2 : Int32)]) (st := []) (tX5_of E.2.1 hv S x3 (2 : Int32)) (hv.ob _) m_X5_of rfl ml_RX5_155 (Nat.le_of_ble_eq_true rfl) (Nat.le_of_ble_eq_true rfl) rfl (Nat.le_of_ble_eq_true rfl) dd_X5_isSo_42 (fun r6 => ?_)
            refine J_aload_n hE dd_X5_isSo_45 1 rfl rfl ?_
            refine J_iload hE dd_X5_isSo_46 0 rfl ?_
            refine J_iconst hE (v := (1 : Int32)) dd_X5_isSo_48 (by decide) ?_
            refine J_invVri hE (As := [.int x3, .int (1 : Int32)]) (st := [.int r6]) (tX5_of E.2.1 hv S x3 (1 : Int32)) (hv.ob _) m_X5_of rfl ml_RX5_155 (Nat.le_of_ble_eq_true rfl) (Nat.le_of_ble_eq_true rfl) rfl (Nat.le_of_ble_eq_true rfl) dd_X5_isSo_49 (fun r7 => ?_)
            refine J_icmp_ge hE (tgt := 59) dd_X5_isSo_52 (by decide) (fun c8 => ?_) (fun c8 => ?_)
            · refine J_sub [1, 2, 3, 4, 0] rfl ?_
              exact hj4 ()
            · refine J_iconst hE (v := (1 : Int32)) dd_X5_isSo_55 (by decide) ?_
              refine J_goto hE (tgt := 60) dd_X5_isSo_56 (by decide) ?_
              refine J_sub [1, 2, 3, 4, 0] rfl ?_
              exact hj5 (1 : Int32)
set_option maxHeartbeats 4000000 in
set_option maxRecDepth 100000 in
theorem tX5_isSo (l : Launch) {V : JV M2} {b : Nat} {a : Nat → Nat} (hv : vX5 V b a) (S : M2) (i1 : Int32) : JC l V yX5_isSo cX5_isSo 6 (some .boolean) jj_i 1 [.ref b, .int i1] S ((fX5_isSo i1 S).map (fun r => (r, S))) := by
  refine jj_of (by decide) (Nat.le_of_ble_eq_true rfl) (fun E hlE hE => ?_)
  unfold fX5_isSo
  refine J_sub (L' := [(0, .ref b), (1, .int i1)]) [0, 1] rfl ?_
  refine J_iconst hE (v := (1 : Int32)) dd_X5_isSo_0 (by decide) ?_
  refine J_istore_n hE (L' := [(2, .int (1 : Int32)), (0, .ref b), (1, .int i1)]) dd_X5_isSo_1 (Nat.le_of_ble_eq_true rfl) rfl rfl ?_
  refine J_iconst hE (v := (0 : Int32)) dd_X5_isSo_2 (by decide) ?_
  refine J_istore_n hE (L' := [(3, .int (0 : Int32)), (2, .int (1 : Int32)), (0, .ref b), (1, .int i1)]) dd_X5_isSo_3 (Nat.le_of_ble_eq_true rfl) rfl rfl ?_
  refine J_sub [2, 3, 1, 0] rfl ?_
  refine tX5_isSo_L4 hv S i1 hE (fun p22 => ?_) 400 (1 : Int32) (0 : Int32)
  show J V E _ _ 107 [(2, .int p22)] [] S
  refine J_iload_n hE dd_X5_isSo_107 0 rfl rfl ?_
  refine J_zb (fun hz => ?_)
  exact J_zret hE hz dd_X5_isSo_108 rfl rfl
theorem dd_X5_tastes_0 : jd cX5_tastes 0 (.aload_n 0) 1 1 := ⟨by decide +kernel, rfl⟩
theorem dd_X5_tastes_1 : jd cX5_tastes 1 (.iload_n 1) 1 2 := ⟨by decide +kernel, rfl⟩
theorem dd_X5_tastes_2 : jd cX5_tastes 2 (.invokevirtual 210) 3 5 := ⟨by decide +kernel, rfl⟩
theorem dd_X5_tastes_10 : jd cX5_tastes 10 (.iconst 0) 1 11 := ⟨by decide +kernel, rfl⟩
theorem dd_X5_tastes_11 : jd cX5_tastes 11 (.istore_n 2) 1 12 := ⟨by decide +kernel, rfl⟩
theorem dd_X5_tastes_12 : jd cX5_tastes 12 (.iconst 0) 1 13 := ⟨by decide +kernel, rfl⟩
theorem dd_X5_tastes_13 : jd cX5_tastes 13 (.istore_n 3) 1 14 := ⟨by decide +kernel, rfl⟩
theorem dd_X5_tastes_14 : jd cX5_tastes 14 (.iload_n 3) 1 15 := ⟨by decide +kernel, rfl⟩
theorem dd_X5_tastes_15 : jd cX5_tastes 15 (.iconst 5) 1 16 := ⟨by decide +kernel, rfl⟩
theorem dd_X5_tastes_19 : jd cX5_tastes 19 (.aload_n 0) 1 20 := ⟨by decide +kernel, rfl⟩
theorem dd_X5_tastes_20 : jd cX5_tastes 20 (.invokevirtual 199) 3 23 := ⟨by decide +kernel, rfl⟩
theorem dd_X5_tastes_23 : jd cX5_tastes 23 (.aload_n 0) 1 24 := ⟨by decide +kernel, rfl⟩
theorem dd_X5_tastes_24 : jd cX5_tastes 24 (.getfield 13) 3 27 := ⟨by decide +kernel, rfl⟩
theorem dd_X5_tastes_27 : jd cX5_tastes 27 (.bipush 30) 2 29 := ⟨by decide +kernel, rfl⟩
theorem dd_X5_tastes_29 : jd cX5_tastes 29 (.iconst 4) 1 30 := ⟨by decide +kernel, rfl⟩
theorem dd_X5_tastes_30 : jd cX5_tastes 30 (.iload_n 1) 1 31 := ⟨by decide +kernel, rfl⟩
theorem dd_X5_tastes_31 : jd cX5_tastes 31 (.imul) 1 32 := ⟨by decide +kernel, rfl⟩
theorem dd_X5_tastes_32 : jd cX5_tastes 32 (.iadd) 1 33 := ⟨by decide +kernel, rfl⟩
theorem dd_X5_tastes_33 : jd cX5_tastes 33 (.iconst 1) 1 34 := ⟨by decide +kernel, rfl⟩
theorem dd_X5_tastes_34 : jd cX5_tastes 34 (.iadd) 1 35 := ⟨by decide +kernel, rfl⟩
theorem dd_X5_tastes_35 : jd cX5_tastes 35 (.iload_n 3) 1 36 := ⟨by decide +kernel, rfl⟩
theorem dd_X5_tastes_36 : jd cX5_tastes 36 (.iastore) 1 37 := ⟨by decide +kernel, rfl⟩
theorem dd_X5_tastes_37 : jd cX5_tastes 37 (.aload_n 0) 1 38 := ⟨by decide +kernel, rfl⟩
theorem dd_X5_tastes_38 : jd cX5_tastes 38 (.iconst 1) 1 39 := ⟨by decide +kernel, rfl⟩
theorem dd_X5_tastes_39 : jd cX5_tastes 39 (.invokevirtual 244) 3 42 := ⟨by decide +kernel, rfl⟩
theorem dd_X5_tastes_42 : jd cX5_tastes 42 (.iload_n 2) 1 43 := ⟨by decide +kernel, rfl⟩
theorem dd_X5_tastes_43 : jd cX5_tastes 43 (.aload_n 0) 1 44 := ⟨by decide +kernel, rfl⟩
theorem dd_X5_tastes_44 : jd cX5_tastes 44 (.iconst 0) 1 45 := ⟨by decide +kernel, rfl⟩
theorem ml_RX5_288 : (Cond.methodLink "MothCustomsModel" 288 yX5_isSo : Cond) ∈ jj_tb := jj_m (List.mem_of_getElem? (i := 1213) (by decide +kernel)) rfl
theorem dd_X5_tastes_45 : jd cX5_tastes 45 (.invokevirtual 288) 3 48 := ⟨by decide +kernel, rfl⟩
theorem dd_X5_tastes_48 : jd cX5_tastes 48 (.invokestatic 129) 3 51 := ⟨by decide +kernel, rfl⟩
theorem dd_X5_tastes_51 : jd cX5_tastes 51 (.iload_n 3) 1 52 := ⟨by decide +kernel, rfl⟩
theorem dd_X5_tastes_52 : jd cX5_tastes 52 (.ishl) 1 53 := ⟨by decide +kernel, rfl⟩
theorem dd_X5_tastes_53 : jd cX5_tastes 53 (.ior) 1 54 := ⟨by decide +kernel, rfl⟩
theorem dd_X5_tastes_54 : jd cX5_tastes 54 (.istore_n 2) 1 55 := ⟨by decide +kernel, rfl⟩
theorem dd_X5_tastes_55 : jd cX5_tastes 55 (.iinc 3 1) 3 58 := ⟨by decide +kernel, rfl⟩
theorem dd_X5_tastes_58 : jd cX5_tastes 58 (.goto (-44)) 3 61 := ⟨by decide +kernel, rfl⟩
theorem dd_X5_tastes_16 : jd cX5_tastes 16 (.if_icmp .gt 45) 3 19 := ⟨by decide +kernel, rfl⟩
theorem dd_X5_tastes_61 : jd cX5_tastes 61 (.iload_n 2) 1 62 := ⟨by decide +kernel, rfl⟩
theorem dd_X5_tastes_62 : jd cX5_tastes 62 (.ireturn) 1 63 := ⟨by decide +kernel, rfl⟩
theorem dd_X5_tastes_8 : jd cX5_tastes 8 (.iconst (-1)) 1 9 := ⟨by decide +kernel, rfl⟩
theorem dd_X5_tastes_9 : jd cX5_tastes 9 (.ireturn) 1 10 := ⟨by decide +kernel, rfl⟩
theorem dd_X5_tastes_5 : jd cX5_tastes 5 (.ifCond .ne 5) 3 8 := ⟨by decide +kernel, rfl⟩
theorem m_X5_tastes : jmV yX5_tastes cX5_tastes 4 (some .int) 1 := ⟨⟨(jj_m (w := Cond.code yX5_tastes cX5_tastes 4 (some .int)) (List.mem_of_getElem? (i := 1212) (by decide +kernel)) rfl), (jj_m (w := Cond.initialized yX5_tastes.cls) (List.mem_of_getElem? (i := 69) (by decide +kernel)) rfl), ⟨by decide, by decide⟩, by decide +kernel⟩, (jj_m (w := Cond.instanceMethod yX5_tastes) (List.mem_of_getElem? (i := 1210) (by decide +kernel)) rfl), (jj_m (w := Cond.selects yX5_tastes.cls yX5_tastes yX5_tastes) (List.mem_of_getElem? (i := 1211) (by decide +kernel)) rfl)⟩
def fX5_tastes_L14 (i1 : Int32) (k61 : (Int32 × M2) → Option (Int32 × M2)) : Nat → Int32 → Int32 → M2 → Option (Int32 × M2)
  | 0, _, _, _ => none
  | n_ + 1, v2, v3, S4 =>
    if (5 : Int32) < v3 then
      k61 (v2, S4)
    else
      (fX5_starts  S4).bind fun q5 =>
      lt (q5) fun S6 =>
      bnd (((30 : Int32) + ((4 : Int32) * i1)) + (1 : Int32)) 62 <|
      lt (va_up S6 1 (upd (S6 1) (((30 : Int32) + ((4 : Int32) * i1)) + (1 : Int32)).toNatClampNeg v3)) fun S7 =>
      (fX5_nightsGo (1 : Int32) S7).bind fun q8 =>
      lt (q8) fun S9 =>
      (fX5_isSo (0 : Int32) S9).bind fun r10 =>
      (fX5_flag r10).bind fun r11 =>
      lt ((v2 ||| (r11 <<< (v3 &&& 31)))) fun x12 =>
      lt (v3 + (1 : Int32)) fun x13 =>
      fX5_tastes_L14 i1 k61 n_ x12 x13 S9

def fX5_tastes (i1 : Int32) (S : M2) : Option (Int32 × M2) :=
  (fX5_isMoth i1 S).bind fun r1 =>
  if r1 = 0 then
    some ((-1 : Int32), S)
  else
    fX5_tastes_L14 i1
      (fun p15 =>
        some (p15.1, p15.2))
      400 (0 : Int32) (0 : Int32) S

set_option maxHeartbeats 4000000 in
set_option maxRecDepth 100000 in
theorem tX5_tastes_L14 {V : JV M2} {b : Nat} {a : Nat → Nat} (hv : vX5 V b a) (i1 : Int32) {E : JE (M2) Int32} (hE : JOk V E cX5_tastes yX5_tastes.cls 4 5 (some .int) jj_i) {k61 : (Int32 × M2) → Option (Int32 × M2)} (hk61 : ∀ p, J V E (fun q => (q.1, q.2)) (k61 p) 61 [(2, .int p.1)] [] p.2) : ∀ (n_ : Nat) (v2 : Int32) (v3 : Int32) (S4 : M2), J V E (fun q => (q.1, q.2)) (fX5_tastes_L14 i1 k61 n_ v2 v3 S4) 14 [(0, .ref b), (1, .int i1), (2, .int v2), (3, .int v3)] [] S4 := by
  intro n_
  induction n_ with
  | zero =>
    intros
    exact J_none
  | succ n_ ih =>
    intros v2 v3 S4
    rw [fX5_tastes_L14]
    refine J_iload_n hE dd_X5_tastes_14 3 rfl rfl ?_
    refine J_iconst hE (v := (5 : Int32)) dd_X5_tastes_15 (by decide) ?_
    refine J_icmp_gt hE (tgt := 61) dd_X5_tastes_16 (by decide) (fun c14 => ?_) (fun c14 => ?_)
    · refine J_sub [2] rfl ?_
      exact hk61 (v2, S4)
    · refine J_aload_n hE dd_X5_tastes_19 0 rfl rfl ?_
      refine J_invVwv hE (e := fun x => x) (As := []) (st := []) (tX5_starts E.2.1 hv S4 ) (hv.ob _) m_X5_starts rfl ml_RX5_199 (Nat.le_of_ble_eq_true rfl) (Nat.le_of_ble_eq_true rfl) rfl (Nat.le_of_ble_eq_true rfl) dd_X5_tastes_20 (fun q5 => ?_)
      refine J_letS (fun S6 => ?_)
      refine J_aload_n hE dd_X5_tastes_23 0 rfl rfl ?_
      refine J_get hE (hv.ob _) jc_X5 1 (by decide) fl_RX5_13 (v := .ref (a 1)) rfl dd_X5_tastes_24 ?_
      refine J_bipush hE (v := (30 : Int32)) dd_X5_tastes_27 (by decide) ?_
      refine J_iconst hE (v := (4 : Int32)) dd_X5_tastes_29 (by decide) ?_
      refine J_iload_n hE dd_X5_tastes_30 1 rfl rfl ?_
      refine J_imul hE dd_X5_tastes_31 ?_
      refine J_iadd hE dd_X5_tastes_32 ?_
      refine J_iconst hE (v := (1 : Int32)) dd_X5_tastes_33 (by decide) ?_
      refine J_iadd hE dd_X5_tastes_34 ?_
      refine J_iload_n hE dd_X5_tastes_35 3 rfl rfl ?_
      refine J_ast hE hv 1 (N := 62) (by decide) dd_X5_tastes_36 ?_
      refine J_letS (fun S7 => ?_)
      refine J_aload_n hE dd_X5_tastes_37 0 rfl rfl ?_
      refine J_iconst hE (v := (1 : Int32)) dd_X5_tastes_38 (by decide) ?_
      refine J_invVwv hE (e := fun x => x) (As := [.int (1 : Int32)]) (st := []) (tX5_nightsGo E.2.1 hv S7 (1 : Int32)) (hv.ob _) m_X5_nightsGo rfl ml_RX5_244 (Nat.le_of_ble_eq_true rfl) (Nat.le_of_ble_eq_true rfl) rfl (Nat.le_of_ble_eq_true rfl) dd_X5_tastes_39 (fun q8 => ?_)
      refine J_letS (fun S9 => ?_)
      refine J_iload_n hE dd_X5_tastes_42 2 rfl rfl ?_
      refine J_aload_n hE dd_X5_tastes_43 0 rfl rfl ?_
      refine J_iconst hE (v := (0 : Int32)) dd_X5_tastes_44 (by decide) ?_
      refine J_invVri hE (As := [.int (0 : Int32)]) (st := [.int v2]) (tX5_isSo E.2.1 hv S9 (0 : Int32)) (hv.ob _) m_X5_isSo rfl ml_RX5_288 (Nat.le_of_ble_eq_true rfl) (Nat.le_of_ble_eq_true rfl) rfl (Nat.le_of_ble_eq_true rfl) dd_X5_tastes_45 (fun r10 => ?_)
      refine J_invSri hE (As := [.int r10]) (st := [.int v2]) (tX5_flag E.2.1 V S9 r10) m_X5_flag s_X5_flag rfl ml_RX5_129 (Nat.le_of_ble_eq_true rfl) (Nat.le_of_ble_eq_true rfl) rfl (Nat.le_of_ble_eq_true rfl) dd_X5_tastes_48 (fun r11 => ?_)
      refine J_iload_n hE dd_X5_tastes_51 3 rfl rfl ?_
      refine J_ishl hE dd_X5_tastes_52 ?_
      refine J_ior hE dd_X5_tastes_53 ?_
      refine J_leti (fun x12 => ?_)
      refine J_istore_n hE (L' := [(2, .int x12), (0, .ref b), (1, .int i1), (3, .int v3)]) dd_X5_tastes_54 (Nat.le_of_ble_eq_true rfl) rfl rfl ?_
      refine J_iincL hE (v := (v3 + (1 : Int32))) (Lf := fun x13 => [(3, .int x13), (2, .int x12), (0, .ref b), (1, .int i1)]) dd_X5_tastes_55 (j := 3) rfl (congrArg (v3 + ·) (by decide)) (Nat.le_of_ble_eq_true rfl) (fun _ => rfl) (fun x13 => ?_)
      refine J_goto hE (tgt := 14) dd_X5_tastes_58 (by decide) ?_
      refine J_sub [2, 3, 1, 0] rfl ?_
      exact ih x12 x13 S9
set_option maxHeartbeats 4000000 in
set_option maxRecDepth 100000 in
theorem tX5_tastes (l : Launch) {V : JV M2} {b : Nat} {a : Nat → Nat} (hv : vX5 V b a) (S : M2) (i1 : Int32) : JC l V yX5_tastes cX5_tastes 4 (some .int) jj_i 5 [.ref b, .int i1] S ((fX5_tastes i1 S).map (fun q => (q.1, q.2))) := by
  refine jj_of (by decide) (Nat.le_of_ble_eq_true rfl) (fun E hlE hE => ?_)
  unfold fX5_tastes
  refine J_sub (L' := [(0, .ref b), (1, .int i1)]) [0, 1] rfl ?_
  refine J_aload_n hE dd_X5_tastes_0 0 rfl rfl ?_
  refine J_iload_n hE dd_X5_tastes_1 1 rfl rfl ?_
  refine J_invVri hE (As := [.int i1]) (st := []) (tX5_isMoth E.2.1 hv S i1) (hv.ob _) m_X5_isMoth rfl ml_RX5_210 (Nat.le_of_ble_eq_true rfl) (Nat.le_of_ble_eq_true rfl) rfl (Nat.le_of_ble_eq_true rfl) dd_X5_tastes_2 (fun r1 => ?_)
  refine J_if_ne hE (tgt := 10) dd_X5_tastes_5 (by decide) (fun c16 => ?_) (fun c16 => ?_)
  · refine J_iconst hE (v := (0 : Int32)) dd_X5_tastes_10 (by decide) ?_
    refine J_istore_n hE (L' := [(2, .int (0 : Int32)), (0, .ref b), (1, .int i1)]) dd_X5_tastes_11 (Nat.le_of_ble_eq_true rfl) rfl rfl ?_
    refine J_iconst hE (v := (0 : Int32)) dd_X5_tastes_12 (by decide) ?_
    refine J_istore_n hE (L' := [(3, .int (0 : Int32)), (2, .int (0 : Int32)), (0, .ref b), (1, .int i1)]) dd_X5_tastes_13 (Nat.le_of_ble_eq_true rfl) rfl rfl ?_
    refine J_sub [2, 3, 1, 0] rfl ?_
    refine tX5_tastes_L14 hv i1 hE (fun p15 => ?_) 400 (0 : Int32) (0 : Int32) S
    show J V E _ _ 61 [(2, .int p15.1)] [] p15.2
    refine J_iload_n hE dd_X5_tastes_61 0 rfl rfl ?_
    exact J_iret hE dd_X5_tastes_62 rfl rfl
  · refine J_iconst hE (v := (-1 : Int32)) dd_X5_tastes_8 (by decide) ?_
    exact J_iret hE dd_X5_tastes_9 rfl rfl
theorem dd_X5_bought_0 : jd cX5_bought 0 (.iconst 0) 1 1 := ⟨by decide +kernel, rfl⟩
theorem dd_X5_bought_1 : jd cX5_bought 1 (.istore_n 1) 1 2 := ⟨by decide +kernel, rfl⟩
theorem dd_X5_bought_2 : jd cX5_bought 2 (.iconst 0) 1 3 := ⟨by decide +kernel, rfl⟩
theorem dd_X5_bought_3 : jd cX5_bought 3 (.istore_n 2) 1 4 := ⟨by decide +kernel, rfl⟩
theorem dd_X5_bought_4 : jd cX5_bought 4 (.iload_n 2) 1 5 := ⟨by decide +kernel, rfl⟩
theorem dd_X5_bought_5 : jd cX5_bought 5 (.aload_n 0) 1 6 := ⟨by decide +kernel, rfl⟩
theorem dd_X5_bought_6 : jd cX5_bought 6 (.getfield 66) 3 9 := ⟨by decide +kernel, rfl⟩
theorem dd_X5_bought_12 : jd cX5_bought 12 (.aload_n 0) 1 13 := ⟨by decide +kernel, rfl⟩
theorem dd_X5_bought_13 : jd cX5_bought 13 (.invokevirtual 199) 3 16 := ⟨by decide +kernel, rfl⟩
theorem dd_X5_bought_16 : jd cX5_bought 16 (.aload_n 0) 1 17 := ⟨by decide +kernel, rfl⟩
theorem dd_X5_bought_17 : jd cX5_bought 17 (.aload_n 0) 1 18 := ⟨by decide +kernel, rfl⟩
theorem dd_X5_bought_18 : jd cX5_bought 18 (.invokevirtual 183) 3 21 := ⟨by decide +kernel, rfl⟩
theorem dd_X5_bought_21 : jd cX5_bought 21 (.iconst 1) 1 22 := ⟨by decide +kernel, rfl⟩
theorem dd_X5_bought_22 : jd cX5_bought 22 (.iload_n 2) 1 23 := ⟨by decide +kernel, rfl⟩
theorem dd_X5_bought_23 : jd cX5_bought 23 (.ishl) 1 24 := ⟨by decide +kernel, rfl⟩
theorem dd_X5_bought_24 : jd cX5_bought 24 (.iconst (-1)) 1 25 := ⟨by decide +kernel, rfl⟩
theorem dd_X5_bought_25 : jd cX5_bought 25 (.ixor) 1 26 := ⟨by decide +kernel, rfl⟩
theorem dd_X5_bought_26 : jd cX5_bought 26 (.iand) 1 27 := ⟨by decide +kernel, rfl⟩
theorem dd_X5_bought_27 : jd cX5_bought 27 (.invokevirtual 186) 3 30 := ⟨by decide +kernel, rfl⟩
theorem dd_X5_bought_30 : jd cX5_bought 30 (.iload_n 1) 1 31 := ⟨by decide +kernel, rfl⟩
theorem dd_X5_bought_31 : jd cX5_bought 31 (.aload_n 0) 1 32 := ⟨by decide +kernel, rfl⟩
theorem dd_X5_bought_32 : jd cX5_bought 32 (.iconst 0) 1 33 := ⟨by decide +kernel, rfl⟩
theorem dd_X5_bought_33 : jd cX5_bought 33 (.invokevirtual 288) 3 36 := ⟨by decide +kernel, rfl⟩
theorem dd_X5_bought_36 : jd cX5_bought 36 (.invokestatic 129) 3 39 := ⟨by decide +kernel, rfl⟩
theorem dd_X5_bought_39 : jd cX5_bought 39 (.iload_n 2) 1 40 := ⟨by decide +kernel, rfl⟩
theorem dd_X5_bought_40 : jd cX5_bought 40 (.ishl) 1 41 := ⟨by decide +kernel, rfl⟩
theorem dd_X5_bought_41 : jd cX5_bought 41 (.ior) 1 42 := ⟨by decide +kernel, rfl⟩
theorem dd_X5_bought_42 : jd cX5_bought 42 (.istore_n 1) 1 43 := ⟨by decide +kernel, rfl⟩
theorem dd_X5_bought_43 : jd cX5_bought 43 (.iinc 2 1) 3 46 := ⟨by decide +kernel, rfl⟩
theorem dd_X5_bought_46 : jd cX5_bought 46 (.goto (-42)) 3 49 := ⟨by decide +kernel, rfl⟩
theorem dd_X5_bought_9 : jd cX5_bought 9 (.if_icmp .ge 40) 3 12 := ⟨by decide +kernel, rfl⟩
theorem dd_X5_bought_49 : jd cX5_bought 49 (.iload_n 1) 1 50 := ⟨by decide +kernel, rfl⟩
theorem dd_X5_bought_50 : jd cX5_bought 50 (.ireturn) 1 51 := ⟨by decide +kernel, rfl⟩
theorem m_X5_bought : jmV yX5_bought cX5_bought 3 (some .int) 0 := ⟨⟨(jj_m (w := Cond.code yX5_bought cX5_bought 3 (some .int)) (List.mem_of_getElem? (i := 1220) (by decide +kernel)) rfl), (jj_m (w := Cond.initialized yX5_bought.cls) (List.mem_of_getElem? (i := 69) (by decide +kernel)) rfl), ⟨by decide, by decide⟩, by decide +kernel⟩, (jj_m (w := Cond.instanceMethod yX5_bought) (List.mem_of_getElem? (i := 1218) (by decide +kernel)) rfl), (jj_m (w := Cond.selects yX5_bought.cls yX5_bought yX5_bought) (List.mem_of_getElem? (i := 1219) (by decide +kernel)) rfl)⟩
def fX5_bought_L4  (k49 : (Int32 × M2) → Option (Int32 × M2)) : Nat → Int32 → Int32 → M2 → Option (Int32 × M2)
  | 0, _, _, _ => none
  | n_ + 1, v1, v2, S3 =>
    if (S3 4 0) ≤ v2 then
      k49 (v1, S3)
    else
      (fX5_starts  S3).bind fun q4 =>
      lt (q4) fun S5 =>
      (fX5_everyMoth  S5).bind fun r6 =>
      (fX5_nightGoes (r6 &&& (((1 : Int32) <<< (v2 &&& 31)) ^^^ (-1 : Int32))) S5).bind fun q7 =>
      lt (q7) fun S8 =>
      (fX5_isSo (0 : Int32) S8).bind fun r9 =>
      (fX5_flag r9).bind fun r10 =>
      lt ((v1 ||| (r10 <<< (v2 &&& 31)))) fun x11 =>
      lt (v2 + (1 : Int32)) fun x12 =>
      fX5_bought_L4 k49 n_ x11 x12 S8

def fX5_bought  (S : M2) : Option (Int32 × M2) :=
  fX5_bought_L4 
    (fun p14 =>
      some (p14.1, p14.2))
    400 (0 : Int32) (0 : Int32) S

set_option maxHeartbeats 4000000 in
set_option maxRecDepth 100000 in
theorem tX5_bought_L4 {V : JV M2} {b : Nat} {a : Nat → Nat} (hv : vX5 V b a)  {E : JE (M2) Int32} (hE : JOk V E cX5_bought yX5_bought.cls 3 4 (some .int) jj_i) {k49 : (Int32 × M2) → Option (Int32 × M2)} (hk49 : ∀ p, J V E (fun q => (q.1, q.2)) (k49 p) 49 [(1, .int p.1)] [] p.2) : ∀ (n_ : Nat) (v1 : Int32) (v2 : Int32) (S3 : M2), J V E (fun q => (q.1, q.2)) (fX5_bought_L4 k49 n_ v1 v2 S3) 4 [(0, .ref b), (1, .int v1), (2, .int v2)] [] S3 := by
  intro n_
  induction n_ with
  | zero =>
    intros
    exact J_none
  | succ n_ ih =>
    intros v1 v2 S3
    rw [fX5_bought_L4]
    refine J_iload_n hE dd_X5_bought_4 2 rfl rfl ?_
    refine J_aload_n hE dd_X5_bought_5 0 rfl rfl ?_
    refine J_get hE (hv.ob _) jc_X5 4 (by decide) fl_RX5_66 (v := .int (S3 4 0)) rfl dd_X5_bought_6 ?_
    refine J_icmp_ge hE (tgt := 49) dd_X5_bought_9 (by decide) (fun c13 => ?_) (fun c13 => ?_)
    · refine J_sub [1] rfl ?_
      exact hk49 (v1, S3)
    · refine J_aload_n hE dd_X5_bought_12 0 rfl rfl ?_
      refine J_invVwv hE (e := fun x => x) (As := []) (st := []) (tX5_starts E.2.1 hv S3 ) (hv.ob _) m_X5_starts rfl ml_RX5_199 (Nat.le_of_ble_eq_true rfl) (Nat.le_of_ble_eq_true rfl) rfl (Nat.le_of_ble_eq_true rfl) dd_X5_bought_13 (fun q4 => ?_)
      refine J_letS (fun S5 => ?_)
      refine J_aload_n hE dd_X5_bought_16 0 rfl rfl ?_
      refine J_aload_n hE dd_X5_bought_17 0 rfl rfl ?_
      refine J_invVri hE (As := []) (st := [.ref b]) (tX5_everyMoth E.2.1 hv S5 ) (hv.ob _) m_X5_everyMoth rfl ml_RX5_183 (Nat.le_of_ble_eq_true rfl) (Nat.le_of_ble_eq_true rfl) rfl (Nat.le_of_ble_eq_true rfl) dd_X5_bought_18 (fun r6 => ?_)
      refine J_iconst hE (v := (1 : Int32)) dd_X5_bought_21 (by decide) ?_
      refine J_iload_n hE dd_X5_bought_22 2 rfl rfl ?_
      refine J_ishl hE dd_X5_bought_23 ?_
      refine J_iconst hE (v := (-1 : Int32)) dd_X5_bought_24 (by decide) ?_
      refine J_ixor hE dd_X5_bought_25 ?_
      refine J_iand hE dd_X5_bought_26 ?_
      refine J_invVwv hE (e := fun x => x) (As := [.int (r6 &&& (((1 : Int32) <<< (v2 &&& 31)) ^^^ (-1 : Int32)))]) (st := []) (tX5_nightGoes E.2.1 hv S5 (r6 &&& (((1 : Int32) <<< (v2 &&& 31)) ^^^ (-1 : Int32)))) (hv.ob _) m_X5_nightGoes rfl ml_RX5_186 (Nat.le_of_ble_eq_true rfl) (Nat.le_of_ble_eq_true rfl) rfl (Nat.le_of_ble_eq_true rfl) dd_X5_bought_27 (fun q7 => ?_)
      refine J_letS (fun S8 => ?_)
      refine J_iload_n hE dd_X5_bought_30 1 rfl rfl ?_
      refine J_aload_n hE dd_X5_bought_31 0 rfl rfl ?_
      refine J_iconst hE (v := (0 : Int32)) dd_X5_bought_32 (by decide) ?_
      refine J_invVri hE (As := [.int (0 : Int32)]) (st := [.int v1]) (tX5_isSo E.2.1 hv S8 (0 : Int32)) (hv.ob _) m_X5_isSo rfl ml_RX5_288 (Nat.le_of_ble_eq_true rfl) (Nat.le_of_ble_eq_true rfl) rfl (Nat.le_of_ble_eq_true rfl) dd_X5_bought_33 (fun r9 => ?_)
      refine J_invSri hE (As := [.int r9]) (st := [.int v1]) (tX5_flag E.2.1 V S8 r9) m_X5_flag s_X5_flag rfl ml_RX5_129 (Nat.le_of_ble_eq_true rfl) (Nat.le_of_ble_eq_true rfl) rfl (Nat.le_of_ble_eq_true rfl) dd_X5_bought_36 (fun r10 => ?_)
      refine J_iload_n hE dd_X5_bought_39 2 rfl rfl ?_
      refine J_ishl hE dd_X5_bought_40 ?_
      refine J_ior hE dd_X5_bought_41 ?_
      refine J_leti (fun x11 => ?_)
      refine J_istore_n hE (L' := [(1, .int x11), (0, .ref b), (2, .int v2)]) dd_X5_bought_42 (Nat.le_of_ble_eq_true rfl) rfl rfl ?_
      refine J_iincL hE (v := (v2 + (1 : Int32))) (Lf := fun x12 => [(2, .int x12), (1, .int x11), (0, .ref b)]) dd_X5_bought_43 (j := 2) rfl (congrArg (v2 + ·) (by decide)) (Nat.le_of_ble_eq_true rfl) (fun _ => rfl) (fun x12 => ?_)
      refine J_goto hE (tgt := 4) dd_X5_bought_46 (by decide) ?_
      refine J_sub [2, 1, 0] rfl ?_
      exact ih x11 x12 S8
set_option maxHeartbeats 4000000 in
set_option maxRecDepth 100000 in
theorem tX5_bought (l : Launch) {V : JV M2} {b : Nat} {a : Nat → Nat} (hv : vX5 V b a) (S : M2)  : JC l V yX5_bought cX5_bought 3 (some .int) jj_i 4 [.ref b] S ((fX5_bought  S).map (fun q => (q.1, q.2))) := by
  refine jj_of (by decide) (Nat.le_of_ble_eq_true rfl) (fun E hlE hE => ?_)
  unfold fX5_bought
  refine J_sub (L' := [(0, .ref b)]) [0] rfl ?_
  refine J_iconst hE (v := (0 : Int32)) dd_X5_bought_0 (by decide) ?_
  refine J_istore_n hE (L' := [(1, .int (0 : Int32)), (0, .ref b)]) dd_X5_bought_1 (Nat.le_of_ble_eq_true rfl) rfl rfl ?_
  refine J_iconst hE (v := (0 : Int32)) dd_X5_bought_2 (by decide) ?_
  refine J_istore_n hE (L' := [(2, .int (0 : Int32)), (1, .int (0 : Int32)), (0, .ref b)]) dd_X5_bought_3 (Nat.le_of_ble_eq_true rfl) rfl rfl ?_
  refine J_sub [2, 1, 0] rfl ?_
  refine tX5_bought_L4 hv  hE (fun p14 => ?_) 400 (0 : Int32) (0 : Int32) S
  show J V E _ _ 49 [(1, .int p14.1)] [] p14.2
  refine J_iload_n hE dd_X5_bought_49 0 rfl rfl ?_
  exact J_iret hE dd_X5_bought_50 rfl rfl
theorem dd_X5_pricked_0 : jd cX5_pricked 0 (.iload_n 1) 1 1 := ⟨by decide +kernel, rfl⟩
theorem dd_X5_pricked_1 : jd cX5_pricked 1 (.invokestatic 239) 3 4 := ⟨by decide +kernel, rfl⟩
theorem dd_X5_pricked_9 : jd cX5_pricked 9 (.iconst 0) 1 10 := ⟨by decide +kernel, rfl⟩
theorem dd_X5_pricked_10 : jd cX5_pricked 10 (.istore_n 2) 1 11 := ⟨by decide +kernel, rfl⟩
theorem dd_X5_pricked_11 : jd cX5_pricked 11 (.bipush (-4)) 2 13 := ⟨by decide +kernel, rfl⟩
theorem dd_X5_pricked_13 : jd cX5_pricked 13 (.istore_n 3) 1 14 := ⟨by decide +kernel, rfl⟩
theorem dd_X5_pricked_14 : jd cX5_pricked 14 (.aload_n 0) 1 15 := ⟨by decide +kernel, rfl⟩
theorem dd_X5_pricked_15 : jd cX5_pricked 15 (.invokevirtual 199) 3 18 := ⟨by decide +kernel, rfl⟩
theorem dd_X5_pricked_18 : jd cX5_pricked 18 (.aload_n 0) 1 19 := ⟨by decide +kernel, rfl⟩
theorem dd_X5_pricked_19 : jd cX5_pricked 19 (.iconst 1) 1 20 := ⟨by decide +kernel, rfl⟩
theorem dd_X5_pricked_20 : jd cX5_pricked 20 (.invokevirtual 244) 3 23 := ⟨by decide +kernel, rfl⟩
theorem dd_X5_pricked_23 : jd cX5_pricked 23 (.iconst 0) 1 24 := ⟨by decide +kernel, rfl⟩
theorem dd_X5_pricked_24 : jd cX5_pricked 24 (.istore 4) 2 26 := ⟨by decide +kernel, rfl⟩
theorem dd_X5_pricked_26 : jd cX5_pricked 26 (.iload 4) 2 28 := ⟨by decide +kernel, rfl⟩
theorem dd_X5_pricked_28 : jd cX5_pricked 28 (.iconst 1) 1 29 := ⟨by decide +kernel, rfl⟩
theorem dd_X5_pricked_29 : jd cX5_pricked 29 (.aload_n 0) 1 30 := ⟨by decide +kernel, rfl⟩
theorem dd_X5_pricked_30 : jd cX5_pricked 30 (.getfield 63) 3 33 := ⟨by decide +kernel, rfl⟩
theorem dd_X5_pricked_33 : jd cX5_pricked 33 (.ishl) 1 34 := ⟨by decide +kernel, rfl⟩
theorem dd_X5_pricked_37 : jd cX5_pricked 37 (.aload_n 0) 1 38 := ⟨by decide +kernel, rfl⟩
theorem dd_X5_pricked_38 : jd cX5_pricked 38 (.iload 4) 2 40 := ⟨by decide +kernel, rfl⟩
theorem dd_X5_pricked_40 : jd cX5_pricked 40 (.invokevirtual 288) 3 43 := ⟨by decide +kernel, rfl⟩
theorem dd_X5_pricked_46 : jd cX5_pricked 46 (.iload_n 2) 1 47 := ⟨by decide +kernel, rfl⟩
theorem dd_X5_pricked_55 : jd cX5_pricked 55 (.iload_n 3) 1 56 := ⟨by decide +kernel, rfl⟩
theorem dd_X5_pricked_50 : jd cX5_pricked 50 (.iload 4) 2 52 := ⟨by decide +kernel, rfl⟩
theorem dd_X5_pricked_52 : jd cX5_pricked 52 (.goto 4) 3 55 := ⟨by decide +kernel, rfl⟩
theorem dd_X5_pricked_47 : jd cX5_pricked 47 (.ifCond .ne 8) 3 50 := ⟨by decide +kernel, rfl⟩
theorem dd_X5_pricked_56 : jd cX5_pricked 56 (.istore_n 3) 1 57 := ⟨by decide +kernel, rfl⟩
theorem dd_X5_pricked_57 : jd cX5_pricked 57 (.iinc 2 1) 3 60 := ⟨by decide +kernel, rfl⟩
theorem dd_X5_pricked_43 : jd cX5_pricked 43 (.ifCond .eq 17) 3 46 := ⟨by decide +kernel, rfl⟩
theorem dd_X5_pricked_60 : jd cX5_pricked 60 (.iinc 4 1) 3 63 := ⟨by decide +kernel, rfl⟩
theorem dd_X5_pricked_63 : jd cX5_pricked 63 (.goto (-37)) 3 66 := ⟨by decide +kernel, rfl⟩
theorem dd_X5_pricked_34 : jd cX5_pricked 34 (.if_icmp .ge 32) 3 37 := ⟨by decide +kernel, rfl⟩
theorem dd_X5_pricked_66 : jd cX5_pricked 66 (.iload_n 1) 1 67 := ⟨by decide +kernel, rfl⟩
theorem dd_X5_pricked_74 : jd cX5_pricked 74 (.iload_n 3) 1 75 := ⟨by decide +kernel, rfl⟩
theorem dd_X5_pricked_75 : jd cX5_pricked 75 (.ireturn) 1 76 := ⟨by decide +kernel, rfl⟩
theorem dd_X5_pricked_70 : jd cX5_pricked 70 (.iload_n 2) 1 71 := ⟨by decide +kernel, rfl⟩
theorem dd_X5_pricked_71 : jd cX5_pricked 71 (.goto 4) 3 74 := ⟨by decide +kernel, rfl⟩
theorem dd_X5_pricked_67 : jd cX5_pricked 67 (.ifCond .ne 7) 3 70 := ⟨by decide +kernel, rfl⟩
theorem dd_X5_pricked_7 : jd cX5_pricked 7 (.iconst (-1)) 1 8 := ⟨by decide +kernel, rfl⟩
theorem dd_X5_pricked_8 : jd cX5_pricked 8 (.ireturn) 1 9 := ⟨by decide +kernel, rfl⟩
theorem dd_X5_pricked_4 : jd cX5_pricked 4 (.ifCond .ne 5) 3 7 := ⟨by decide +kernel, rfl⟩
theorem m_X5_pricked : jmV yX5_pricked cX5_pricked 5 (some .int) 1 := ⟨⟨(jj_m (w := Cond.code yX5_pricked cX5_pricked 5 (some .int)) (List.mem_of_getElem? (i := 1224) (by decide +kernel)) rfl), (jj_m (w := Cond.initialized yX5_pricked.cls) (List.mem_of_getElem? (i := 69) (by decide +kernel)) rfl), ⟨by decide, by decide⟩, by decide +kernel⟩, (jj_m (w := Cond.instanceMethod yX5_pricked) (List.mem_of_getElem? (i := 1222) (by decide +kernel)) rfl), (jj_m (w := Cond.selects yX5_pricked.cls yX5_pricked yX5_pricked) (List.mem_of_getElem? (i := 1223) (by decide +kernel)) rfl)⟩
def fX5_pricked_L26 (i1 : Int32) (S5 : M2) (k66 : (Int32 × Int32) → Option (Int32 × M2)) : Nat → Int32 → Int32 → Int32 → Option (Int32 × M2)
  | 0, _, _, _ => none
  | n_ + 1, v6, v7, v8 =>
    if ((1 : Int32) <<< ((S5 3 0) &&& 31)) ≤ v8 then
      k66 (v6, v7)
    else
      (fX5_isSo v8 S5).bind fun r9 =>
      jn (α := Option (Int32 × M2)) (β := Int32 × Int32) (fun j10 =>
        if r9 = 0 then
          j10 (v6, v7)
        else
          jn (α := Option (Int32 × M2)) (β := Int32) (fun j11 =>
            if v6 = 0 then
              j11 v8
            else
              j11 v7) (fun p13 => 
            lt (v6 + (1 : Int32)) fun x14 =>
            j10 (x14, p13))) (fun p16 => 
        lt (v8 + (1 : Int32)) fun x17 =>
        fX5_pricked_L26 i1 S5 k66 n_ p16.1 p16.2 x17)

def fX5_pricked (i1 : Int32) (S : M2) : Option (Int32 × M2) :=
  (fX5_isPart i1).bind fun r1 =>
  if r1 = 0 then
    some ((-1 : Int32), S)
  else
    (fX5_starts  S).bind fun q2 =>
    lt (q2) fun S3 =>
    (fX5_nightsGo (1 : Int32) S3).bind fun q4 =>
    lt (q4) fun S5 =>
    fX5_pricked_L26 i1 S5
      (fun p19 =>
        if i1 = 0 then
          some (p19.1, S5)
        else
          some (p19.2, S5))
      400 (0 : Int32) (-4 : Int32) (0 : Int32)

set_option maxHeartbeats 4000000 in
set_option maxRecDepth 100000 in
theorem tX5_pricked_L26 {V : JV M2} {b : Nat} {a : Nat → Nat} (hv : vX5 V b a) (i1 : Int32) (S5 : M2) {E : JE (M2) Int32} (hE : JOk V E cX5_pricked yX5_pricked.cls 5 5 (some .int) jj_i) {k66 : (Int32 × Int32) → Option (Int32 × M2)} (hk66 : ∀ p, J V E (fun q => (q.1, q.2)) (k66 p) 66 [(1, .int i1), (2, .int p.1), (3, .int p.2)] [] S5) : ∀ (n_ : Nat) (v6 : Int32) (v7 : Int32) (v8 : Int32), J V E (fun q => (q.1, q.2)) (fX5_pricked_L26 i1 S5 k66 n_ v6 v7 v8) 26 [(0, .ref b), (1, .int i1), (2, .int v6), (3, .int v7), (4, .int v8)] [] S5 := by
  intro n_
  induction n_ with
  | zero =>
    intros
    exact J_none
  | succ n_ ih =>
    intros v6 v7 v8
    rw [fX5_pricked_L26]
    refine J_iload hE dd_X5_pricked_26 4 rfl ?_
    refine J_iconst hE (v := (1 : Int32)) dd_X5_pricked_28 (by decide) ?_
    refine J_aload_n hE dd_X5_pricked_29 0 rfl rfl ?_
    refine J_get hE (hv.ob _) jc_X5 3 (by decide) fl_RX5_63 (v := .int (S5 3 0)) rfl dd_X5_pricked_30 ?_
    refine J_ishl hE dd_X5_pricked_33 ?_
    refine J_icmp_ge hE (tgt := 66) dd_X5_pricked_34 (by decide) (fun c18 => ?_) (fun c18 => ?_)
    · refine J_sub [1, 2, 3] rfl ?_
      exact hk66 (v6, v7)
    · refine J_aload_n hE dd_X5_pricked_37 0 rfl rfl ?_
      refine J_iload hE dd_X5_pricked_38 4 rfl ?_
      refine J_invVri hE (As := [.int v8]) (st := []) (tX5_isSo E.2.1 hv S5 v8) (hv.ob _) m_X5_isSo rfl ml_RX5_288 (Nat.le_of_ble_eq_true rfl) (Nat.le_of_ble_eq_true rfl) rfl (Nat.le_of_ble_eq_true rfl) dd_X5_pricked_40 (fun r9 => ?_)
      refine J_jn (m := 60) (Lf := fun p16 => [(0, .ref b), (1, .int i1), (2, .int p16.1), (3, .int p16.2), (4, .int v8)]) (sf := fun p16 => []) (Xf := fun p16 => S5) (fun p16 => ?_) (fun hj10 => ?_)
      · show J V E _ _ 60 [(0, .ref b), (1, .int i1), (2, .int p16.1), (3, .int p16.2), (4, .int v8)] [] S5
        refine J_iincL hE (v := (v8 + (1 : Int32))) (Lf := fun x17 => [(4, .int x17), (0, .ref b), (1, .int i1), (2, .int p16.1), (3, .int p16.2)]) dd_X5_pricked_60 (j := 4) rfl (congrArg (v8 + ·) (by decide)) (Nat.le_of_ble_eq_true rfl) (fun _ => rfl) (fun x17 => ?_)
        refine J_goto hE (tgt := 26) dd_X5_pricked_63 (by decide) ?_
        refine J_sub [1, 2, 3, 4, 0] rfl ?_
        exact ih p16.1 p16.2 x17
      · refine J_if_eq hE (tgt := 60) dd_X5_pricked_43 (by decide) (fun c15 => ?_) (fun c15 => ?_)
        · refine J_sub [0, 1, 2, 3, 4] rfl ?_
          exact hj10 (v6, v7)
        · refine J_iload_n hE dd_X5_pricked_46 2 rfl rfl ?_
          refine J_jn (m := 56) (Lf := fun p13 => [(0, .ref b), (1, .int i1), (2, .int v6), (4, .int v8)]) (sf := fun p13 => [.int p13]) (Xf := fun p13 => S5) (fun p13 => ?_) (fun hj11 => ?_)
          · show J V E _ _ 56 [(0, .ref b), (1, .int i1), (2, .int v6), (4, .int v8)] [.int p13] S5
            refine J_istore_n hE (L' := [(3, .int p13), (0, .ref b), (1, .int i1), (2, .int v6), (4, .int v8)]) dd_X5_pricked_56 (Nat.le_of_ble_eq_true rfl) rfl rfl ?_
            refine J_iincL hE (v := (v6 + (1 : Int32))) (Lf := fun x14 => [(2, .int x14), (3, .int p13), (0, .ref b), (1, .int i1), (4, .int v8)]) dd_X5_pricked_57 (j := 3) rfl (congrArg (v6 + ·) (by decide)) (Nat.le_of_ble_eq_true rfl) (fun _ => rfl) (fun x14 => ?_)
            refine J_sub [2, 3, 0, 1, 4] rfl ?_
            exact hj10 (x14, p13)
          · refine J_if_ne hE (tgt := 55) dd_X5_pricked_47 (by decide) (fun c12 => ?_) (fun c12 => ?_)
            · refine J_iload_n hE dd_X5_pricked_55 3 rfl rfl ?_
              refine J_sub [0, 1, 2, 4] rfl ?_
              exact hj11 v7
            · refine J_iload hE dd_X5_pricked_50 4 rfl ?_
              refine J_goto hE (tgt := 56) dd_X5_pricked_52 (by decide) ?_
              refine J_sub [0, 1, 2, 4] rfl ?_
              exact hj11 v8
set_option maxHeartbeats 4000000 in
set_option maxRecDepth 100000 in
theorem tX5_pricked (l : Launch) {V : JV M2} {b : Nat} {a : Nat → Nat} (hv : vX5 V b a) (S : M2) (i1 : Int32) : JC l V yX5_pricked cX5_pricked 5 (some .int) jj_i 5 [.ref b, .int i1] S ((fX5_pricked i1 S).map (fun q => (q.1, q.2))) := by
  refine jj_of (by decide) (Nat.le_of_ble_eq_true rfl) (fun E hlE hE => ?_)
  unfold fX5_pricked
  refine J_sub (L' := [(0, .ref b), (1, .int i1)]) [0, 1] rfl ?_
  refine J_iload_n hE dd_X5_pricked_0 1 rfl rfl ?_
  refine J_invSri hE (As := [.int i1]) (st := []) (tX5_isPart E.2.1 V S i1) m_X5_isPart s_X5_isPart rfl ml_RX5_239 (Nat.le_of_ble_eq_true rfl) (Nat.le_of_ble_eq_true rfl) rfl (Nat.le_of_ble_eq_true rfl) dd_X5_pricked_1 (fun r1 => ?_)
  refine J_if_ne hE (tgt := 9) dd_X5_pricked_4 (by decide) (fun c21 => ?_) (fun c21 => ?_)
  · refine J_iconst hE (v := (0 : Int32)) dd_X5_pricked_9 (by decide) ?_
    refine J_istore_n hE (L' := [(2, .int (0 : Int32)), (0, .ref b), (1, .int i1)]) dd_X5_pricked_10 (Nat.le_of_ble_eq_true rfl) rfl rfl ?_
    refine J_bipush hE (v := (-4 : Int32)) dd_X5_pricked_11 (by decide) ?_
    refine J_istore_n hE (L' := [(3, .int (-4 : Int32)), (2, .int (0 : Int32)), (0, .ref b), (1, .int i1)]) dd_X5_pricked_13 (Nat.le_of_ble_eq_true rfl) rfl rfl ?_
    refine J_aload_n hE dd_X5_pricked_14 2 rfl rfl ?_
    refine J_invVwv hE (e := fun x => x) (As := []) (st := []) (tX5_starts E.2.1 hv S ) (hv.ob _) m_X5_starts rfl ml_RX5_199 (Nat.le_of_ble_eq_true rfl) (Nat.le_of_ble_eq_true rfl) rfl (Nat.le_of_ble_eq_true rfl) dd_X5_pricked_15 (fun q2 => ?_)
    refine J_letS (fun S3 => ?_)
    refine J_aload_n hE dd_X5_pricked_18 2 rfl rfl ?_
    refine J_iconst hE (v := (1 : Int32)) dd_X5_pricked_19 (by decide) ?_
    refine J_invVwv hE (e := fun x => x) (As := [.int (1 : Int32)]) (st := []) (tX5_nightsGo E.2.1 hv S3 (1 : Int32)) (hv.ob _) m_X5_nightsGo rfl ml_RX5_244 (Nat.le_of_ble_eq_true rfl) (Nat.le_of_ble_eq_true rfl) rfl (Nat.le_of_ble_eq_true rfl) dd_X5_pricked_20 (fun q4 => ?_)
    refine J_letS (fun S5 => ?_)
    refine J_iconst hE (v := (0 : Int32)) dd_X5_pricked_23 (by decide) ?_
    refine J_istore hE (L' := [(4, .int (0 : Int32)), (3, .int (-4 : Int32)), (2, .int (0 : Int32)), (0, .ref b), (1, .int i1)]) dd_X5_pricked_24 (Nat.le_of_ble_eq_true rfl) rfl ?_
    refine J_sub [3, 4, 2, 1, 0] rfl ?_
    refine tX5_pricked_L26 hv i1 S5 hE (fun p19 => ?_) 400 (0 : Int32) (-4 : Int32) (0 : Int32)
    show J V E _ _ 66 [(1, .int i1), (2, .int p19.1), (3, .int p19.2)] [] S5
    refine J_iload_n hE dd_X5_pricked_66 0 rfl rfl ?_
    refine J_if_ne hE (tgt := 74) dd_X5_pricked_67 (by decide) (fun c20 => ?_) (fun c20 => ?_)
    · refine J_iload_n hE dd_X5_pricked_74 2 rfl rfl ?_
      exact J_iret hE dd_X5_pricked_75 rfl rfl
    · refine J_iload_n hE dd_X5_pricked_70 1 rfl rfl ?_
      refine J_goto hE (tgt := 75) dd_X5_pricked_71 (by decide) ?_
      exact J_iret hE dd_X5_pricked_75 rfl rfl
  · refine J_iconst hE (v := (-1 : Int32)) dd_X5_pricked_7 (by decide) ?_
    exact J_iret hE dd_X5_pricked_8 rfl rfl
theorem dd_X5_liesBy_0 : jd cX5_liesBy 0 (.iconst 0) 1 1 := ⟨by decide +kernel, rfl⟩
theorem dd_X5_liesBy_1 : jd cX5_liesBy 1 (.istore_n 2) 1 2 := ⟨by decide +kernel, rfl⟩
theorem dd_X5_liesBy_2 : jd cX5_liesBy 2 (.iconst 0) 1 3 := ⟨by decide +kernel, rfl⟩
theorem dd_X5_liesBy_3 : jd cX5_liesBy 3 (.istore_n 3) 1 4 := ⟨by decide +kernel, rfl⟩
theorem dd_X5_liesBy_4 : jd cX5_liesBy 4 (.iload_n 3) 1 5 := ⟨by decide +kernel, rfl⟩
theorem dd_X5_liesBy_5 : jd cX5_liesBy 5 (.aload_n 0) 1 6 := ⟨by decide +kernel, rfl⟩
theorem dd_X5_liesBy_6 : jd cX5_liesBy 6 (.getfield 63) 3 9 := ⟨by decide +kernel, rfl⟩
theorem dd_X5_liesBy_12 : jd cX5_liesBy 12 (.aload_n 0) 1 13 := ⟨by decide +kernel, rfl⟩
theorem dd_X5_liesBy_13 : jd cX5_liesBy 13 (.aload_n 0) 1 14 := ⟨by decide +kernel, rfl⟩
theorem dd_X5_liesBy_14 : jd cX5_liesBy 14 (.getfield 26) 3 17 := ⟨by decide +kernel, rfl⟩
theorem dd_X5_liesBy_17 : jd cX5_liesBy 17 (.iload_n 3) 1 18 := ⟨by decide +kernel, rfl⟩
theorem dd_X5_liesBy_18 : jd cX5_liesBy 18 (.iaload) 1 19 := ⟨by decide +kernel, rfl⟩
theorem dd_X5_liesBy_19 : jd cX5_liesBy 19 (.iconst 4) 1 20 := ⟨by decide +kernel, rfl⟩
theorem dd_X5_liesBy_20 : jd cX5_liesBy 20 (.invokevirtual 155) 3 23 := ⟨by decide +kernel, rfl⟩
theorem dd_X5_liesBy_23 : jd cX5_liesBy 23 (.iload_n 1) 1 24 := ⟨by decide +kernel, rfl⟩
theorem dd_X5_liesBy_27 : jd cX5_liesBy 27 (.aload_n 0) 1 28 := ⟨by decide +kernel, rfl⟩
theorem dd_X5_liesBy_28 : jd cX5_liesBy 28 (.aload_n 0) 1 29 := ⟨by decide +kernel, rfl⟩
theorem dd_X5_liesBy_29 : jd cX5_liesBy 29 (.getfield 26) 3 32 := ⟨by decide +kernel, rfl⟩
theorem dd_X5_liesBy_32 : jd cX5_liesBy 32 (.iload_n 3) 1 33 := ⟨by decide +kernel, rfl⟩
theorem dd_X5_liesBy_33 : jd cX5_liesBy 33 (.iaload) 1 34 := ⟨by decide +kernel, rfl⟩
theorem dd_X5_liesBy_34 : jd cX5_liesBy 34 (.iconst 5) 1 35 := ⟨by decide +kernel, rfl⟩
theorem dd_X5_liesBy_35 : jd cX5_liesBy 35 (.iload_n 2) 1 36 := ⟨by decide +kernel, rfl⟩
theorem dd_X5_liesBy_36 : jd cX5_liesBy 36 (.invokevirtual 176) 3 39 := ⟨by decide +kernel, rfl⟩
theorem dd_X5_liesBy_39 : jd cX5_liesBy 39 (.iinc 2 1) 3 42 := ⟨by decide +kernel, rfl⟩
theorem dd_X5_liesBy_24 : jd cX5_liesBy 24 (.if_icmp .ne 18) 3 27 := ⟨by decide +kernel, rfl⟩
theorem dd_X5_liesBy_42 : jd cX5_liesBy 42 (.iinc 3 1) 3 45 := ⟨by decide +kernel, rfl⟩
theorem dd_X5_liesBy_45 : jd cX5_liesBy 45 (.goto (-41)) 3 48 := ⟨by decide +kernel, rfl⟩
theorem dd_X5_liesBy_9 : jd cX5_liesBy 9 (.if_icmp .ge 39) 3 12 := ⟨by decide +kernel, rfl⟩
theorem dd_X5_liesBy_48 : jd cX5_liesBy 48 (.return_) 1 49 := ⟨by decide +kernel, rfl⟩
theorem m_X5_liesBy : jmV yX5_liesBy cX5_liesBy 4 none 1 := ⟨⟨(jj_m (w := Cond.code yX5_liesBy cX5_liesBy 4 none) (List.mem_of_getElem? (i := 1232) (by decide +kernel)) rfl), (jj_m (w := Cond.initialized yX5_liesBy.cls) (List.mem_of_getElem? (i := 69) (by decide +kernel)) rfl), ⟨by decide, by decide⟩, by decide +kernel⟩, (jj_m (w := Cond.instanceMethod yX5_liesBy) (List.mem_of_getElem? (i := 1231) (by decide +kernel)) rfl), (jj_m (w := Cond.selects yX5_liesBy.cls yX5_liesBy yX5_liesBy) (List.mem_of_getElem? (i := 61) (by decide +kernel)) rfl)⟩
def fX5_liesBy_L4 (i1 : Int32) (k48 : M2 → Option (M2)) : Nat → Int32 → Int32 → M2 → Option (M2)
  | 0, _, _, _ => none
  | n_ + 1, v1, v2, S3 =>
    if (S3 3 0) ≤ v2 then
      k48 S3
    else
      bnd v2 5 <|
      (fX5_of (S3 19 v2.toNatClampNeg) (4 : Int32) S3).bind fun r4 =>
      jn (α := Option (M2)) (β := Int32 × M2) (fun j5 =>
        if r4 = i1 then
          bnd v2 5 <|
          (fX5_becomesOf (S3 19 v2.toNatClampNeg) (5 : Int32) v1 S3).bind fun q6 =>
          lt (q6) fun S7 =>
          lt (v1 + (1 : Int32)) fun x8 =>
          j5 (x8, S7)
        else
          j5 (v1, S3)) (fun p10 => 
        lt (v2 + (1 : Int32)) fun x11 =>
        fX5_liesBy_L4 i1 k48 n_ p10.1 x11 p10.2)

def fX5_liesBy (i1 : Int32) (S : M2) : Option (M2) :=
  fX5_liesBy_L4 i1
    (fun p13 =>
      some p13)
    400 (0 : Int32) (0 : Int32) S

set_option maxHeartbeats 4000000 in
set_option maxRecDepth 100000 in
theorem tX5_liesBy_L4 {V : JV M2} {b : Nat} {a : Nat → Nat} (hv : vX5 V b a) (i1 : Int32) {E : JE (M2) Unit} (hE : JOk V E cX5_liesBy yX5_liesBy.cls 4 1 none jj_v) {k48 : M2 → Option (M2)} (hk48 : ∀ p, J V E (fun q => ((), q)) (k48 p) 48 [] [] p) : ∀ (n_ : Nat) (v1 : Int32) (v2 : Int32) (S3 : M2), J V E (fun q => ((), q)) (fX5_liesBy_L4 i1 k48 n_ v1 v2 S3) 4 [(0, .ref b), (1, .int i1), (2, .int v1), (3, .int v2)] [] S3 := by
  intro n_
  induction n_ with
  | zero =>
    intros
    exact J_none
  | succ n_ ih =>
    intros v1 v2 S3
    rw [fX5_liesBy_L4]
    refine J_iload_n hE dd_X5_liesBy_4 3 rfl rfl ?_
    refine J_aload_n hE dd_X5_liesBy_5 0 rfl rfl ?_
    refine J_get hE (hv.ob _) jc_X5 3 (by decide) fl_RX5_63 (v := .int (S3 3 0)) rfl dd_X5_liesBy_6 ?_
    refine J_icmp_ge hE (tgt := 48) dd_X5_liesBy_9 (by decide) (fun c12 => ?_) (fun c12 => ?_)
    · refine J_sub [] rfl ?_
      exact hk48 S3
    · refine J_aload_n hE dd_X5_liesBy_12 0 rfl rfl ?_
      refine J_aload_n hE dd_X5_liesBy_13 0 rfl rfl ?_
      refine J_get hE (hv.ob _) jc_X5 19 (by decide) fl_RX5_26 (v := .ref (a 19)) rfl dd_X5_liesBy_14 ?_
      refine J_iload_n hE dd_X5_liesBy_17 3 rfl rfl ?_
      refine J_ald hE (hv.arr 19 (n := 5) (ty := .int) (by decide) _) dd_X5_liesBy_18 ?_
      refine J_iconst hE (v := (4 : Int32)) dd_X5_liesBy_19 (by decide) ?_
      refine J_invVri hE (As := [.int (S3 19 v2.toNatClampNeg), .int (4 : Int32)]) (st := []) (tX5_of E.2.1 hv S3 (S3 19 v2.toNatClampNeg) (4 : Int32)) (hv.ob _) m_X5_of rfl ml_RX5_155 (Nat.le_of_ble_eq_true rfl) (Nat.le_of_ble_eq_true rfl) rfl (Nat.le_of_ble_eq_true rfl) dd_X5_liesBy_20 (fun r4 => ?_)
      refine J_iload_n hE dd_X5_liesBy_23 1 rfl rfl ?_
      refine J_jn (m := 42) (Lf := fun p10 => [(0, .ref b), (1, .int i1), (2, .int p10.1), (3, .int v2)]) (sf := fun p10 => []) (Xf := fun p10 => p10.2) (fun p10 => ?_) (fun hj5 => ?_)
      · show J V E _ _ 42 [(0, .ref b), (1, .int i1), (2, .int p10.1), (3, .int v2)] [] p10.2
        refine J_iincL hE (v := (v2 + (1 : Int32))) (Lf := fun x11 => [(3, .int x11), (0, .ref b), (1, .int i1), (2, .int p10.1)]) dd_X5_liesBy_42 (j := 3) rfl (congrArg (v2 + ·) (by decide)) (Nat.le_of_ble_eq_true rfl) (fun _ => rfl) (fun x11 => ?_)
        refine J_goto hE (tgt := 4) dd_X5_liesBy_45 (by decide) ?_
        refine J_sub [1, 2, 3, 0] rfl ?_
        exact ih p10.1 x11 p10.2
      · refine J_icmp_ne hE (tgt := 42) dd_X5_liesBy_24 (by decide) (fun c9 => ?_) (fun c9 => ?_)
        · refine J_sub [0, 1, 2, 3] rfl ?_
          exact hj5 (v1, S3)
        · refine J_aload_n hE dd_X5_liesBy_27 0 rfl rfl ?_
          refine J_aload_n hE dd_X5_liesBy_28 0 rfl rfl ?_
          refine J_get hE (hv.ob _) jc_X5 19 (by decide) fl_RX5_26 (v := .ref (a 19)) rfl dd_X5_liesBy_29 ?_
          refine J_iload_n hE dd_X5_liesBy_32 3 rfl rfl ?_
          refine J_ald hE (hv.arr 19 (n := 5) (ty := .int) (by decide) _) dd_X5_liesBy_33 ?_
          refine J_iconst hE (v := (5 : Int32)) dd_X5_liesBy_34 (by decide) ?_
          refine J_iload_n hE dd_X5_liesBy_35 2 rfl rfl ?_
          refine J_invVwv hE (e := fun x => x) (As := [.int (S3 19 v2.toNatClampNeg), .int (5 : Int32), .int v1]) (st := []) (tX5_becomesOf E.2.1 hv S3 (S3 19 v2.toNatClampNeg) (5 : Int32) v1) (hv.ob _) m_X5_becomesOf rfl ml_RX5_176 (Nat.le_of_ble_eq_true rfl) (Nat.le_of_ble_eq_true rfl) rfl (Nat.le_of_ble_eq_true rfl) dd_X5_liesBy_36 (fun q6 => ?_)
          refine J_letS (fun S7 => ?_)
          refine J_iincL hE (v := (v1 + (1 : Int32))) (Lf := fun x8 => [(2, .int x8), (0, .ref b), (1, .int i1), (3, .int v2)]) dd_X5_liesBy_39 (j := 2) rfl (congrArg (v1 + ·) (by decide)) (Nat.le_of_ble_eq_true rfl) (fun _ => rfl) (fun x8 => ?_)
          refine J_sub [1, 2, 0, 3] rfl ?_
          exact hj5 (x8, S7)
set_option maxHeartbeats 4000000 in
set_option maxRecDepth 100000 in
theorem tX5_liesBy (l : Launch) {V : JV M2} {b : Nat} {a : Nat → Nat} (hv : vX5 V b a) (S : M2) (i1 : Int32) : JC l V yX5_liesBy cX5_liesBy 4 none jj_v 1 [.ref b, .int i1] S ((fX5_liesBy i1 S).map (fun q => ((), q))) := by
  refine jj_of (by decide) (Nat.le_of_ble_eq_true rfl) (fun E hlE hE => ?_)
  unfold fX5_liesBy
  refine J_sub (L' := [(0, .ref b), (1, .int i1)]) [0, 1] rfl ?_
  refine J_iconst hE (v := (0 : Int32)) dd_X5_liesBy_0 (by decide) ?_
  refine J_istore_n hE (L' := [(2, .int (0 : Int32)), (0, .ref b), (1, .int i1)]) dd_X5_liesBy_1 (Nat.le_of_ble_eq_true rfl) rfl rfl ?_
  refine J_iconst hE (v := (0 : Int32)) dd_X5_liesBy_2 (by decide) ?_
  refine J_istore_n hE (L' := [(3, .int (0 : Int32)), (2, .int (0 : Int32)), (0, .ref b), (1, .int i1)]) dd_X5_liesBy_3 (Nat.le_of_ble_eq_true rfl) rfl rfl ?_
  refine J_sub [2, 3, 1, 0] rfl ?_
  refine tX5_liesBy_L4 hv i1 hE (fun p13 => ?_) 400 (0 : Int32) (0 : Int32) S
  show J V E _ _ 48 [] [] p13
  exact J_vret hE dd_X5_liesBy_48 rfl rfl
theorem dd_X5_lain_0 : jd cX5_lain 0 (.iload_n 1) 1 1 := ⟨by decide +kernel, rfl⟩
theorem dd_X5_lain_1 : jd cX5_lain 1 (.invokestatic 213) 3 4 := ⟨by decide +kernel, rfl⟩
theorem dd_X5_lain_9 : jd cX5_lain 9 (.iconst 0) 1 10 := ⟨by decide +kernel, rfl⟩
theorem dd_X5_lain_10 : jd cX5_lain 10 (.istore_n 2) 1 11 := ⟨by decide +kernel, rfl⟩
theorem dd_X5_lain_11 : jd cX5_lain 11 (.iconst 0) 1 12 := ⟨by decide +kernel, rfl⟩
theorem dd_X5_lain_12 : jd cX5_lain 12 (.istore_n 3) 1 13 := ⟨by decide +kernel, rfl⟩
theorem dd_X5_lain_13 : jd cX5_lain 13 (.iload_n 3) 1 14 := ⟨by decide +kernel, rfl⟩
theorem dd_X5_lain_14 : jd cX5_lain 14 (.aload_n 0) 1 15 := ⟨by decide +kernel, rfl⟩
theorem dd_X5_lain_15 : jd cX5_lain 15 (.invokevirtual 251) 3 18 := ⟨by decide +kernel, rfl⟩
theorem dd_X5_lain_21 : jd cX5_lain 21 (.aload_n 0) 1 22 := ⟨by decide +kernel, rfl⟩
theorem dd_X5_lain_22 : jd cX5_lain 22 (.iload_n 3) 1 23 := ⟨by decide +kernel, rfl⟩
theorem dd_X5_lain_23 : jd cX5_lain 23 (.invokevirtual 254) 3 26 := ⟨by decide +kernel, rfl⟩
theorem dd_X5_lain_29 : jd cX5_lain 29 (.aload_n 0) 1 30 := ⟨by decide +kernel, rfl⟩
theorem dd_X5_lain_30 : jd cX5_lain 30 (.invokevirtual 199) 3 33 := ⟨by decide +kernel, rfl⟩
theorem dd_X5_lain_33 : jd cX5_lain 33 (.aload_n 0) 1 34 := ⟨by decide +kernel, rfl⟩
theorem dd_X5_lain_34 : jd cX5_lain 34 (.iload_n 1) 1 35 := ⟨by decide +kernel, rfl⟩
theorem ml_RX5_291 : (Cond.methodLink "MothCustomsModel" 291 yX5_liesBy : Cond) ∈ jj_tb := jj_m (List.mem_of_getElem? (i := 1229) (by decide +kernel)) rfl
theorem dd_X5_lain_35 : jd cX5_lain 35 (.invokevirtual 291) 3 38 := ⟨by decide +kernel, rfl⟩
theorem dd_X5_lain_38 : jd cX5_lain 38 (.aload_n 0) 1 39 := ⟨by decide +kernel, rfl⟩
theorem dd_X5_lain_39 : jd cX5_lain 39 (.iload_n 1) 1 40 := ⟨by decide +kernel, rfl⟩
theorem dd_X5_lain_40 : jd cX5_lain 40 (.iconst 0) 1 41 := ⟨by decide +kernel, rfl⟩
theorem dd_X5_lain_41 : jd cX5_lain 41 (.invokevirtual 169) 3 44 := ⟨by decide +kernel, rfl⟩
theorem dd_X5_lain_44 : jd cX5_lain 44 (.istore 4) 2 46 := ⟨by decide +kernel, rfl⟩
theorem dd_X5_lain_46 : jd cX5_lain 46 (.aload_n 0) 1 47 := ⟨by decide +kernel, rfl⟩
theorem dd_X5_lain_47 : jd cX5_lain 47 (.iconst 1) 1 48 := ⟨by decide +kernel, rfl⟩
theorem dd_X5_lain_48 : jd cX5_lain 48 (.invokevirtual 244) 3 51 := ⟨by decide +kernel, rfl⟩
theorem dd_X5_lain_51 : jd cX5_lain 51 (.iload_n 2) 1 52 := ⟨by decide +kernel, rfl⟩
theorem dd_X5_lain_52 : jd cX5_lain 52 (.iload 4) 2 54 := ⟨by decide +kernel, rfl⟩
theorem dd_X5_lain_54 : jd cX5_lain 54 (.bipush (-4)) 2 56 := ⟨by decide +kernel, rfl⟩
theorem dd_X5_lain_59 : jd cX5_lain 59 (.aload_n 0) 1 60 := ⟨by decide +kernel, rfl⟩
theorem dd_X5_lain_60 : jd cX5_lain 60 (.iconst 0) 1 61 := ⟨by decide +kernel, rfl⟩
theorem dd_X5_lain_61 : jd cX5_lain 61 (.invokevirtual 288) 3 64 := ⟨by decide +kernel, rfl⟩
theorem dd_X5_lain_67 : jd cX5_lain 67 (.iconst 1) 1 68 := ⟨by decide +kernel, rfl⟩
theorem dd_X5_lain_68 : jd cX5_lain 68 (.iload 4) 2 70 := ⟨by decide +kernel, rfl⟩
theorem dd_X5_lain_70 : jd cX5_lain 70 (.ishl) 1 71 := ⟨by decide +kernel, rfl⟩
theorem dd_X5_lain_71 : jd cX5_lain 71 (.goto 4) 3 74 := ⟨by decide +kernel, rfl⟩
theorem dd_X5_lain_64 : jd cX5_lain 64 (.ifCond .eq 10) 3 67 := ⟨by decide +kernel, rfl⟩
theorem dd_X5_lain_56 : jd cX5_lain 56 (.if_icmp .eq 18) 3 59 := ⟨by decide +kernel, rfl⟩
theorem dd_X5_lain_74 : jd cX5_lain 74 (.iconst 0) 1 75 := ⟨by decide +kernel, rfl⟩
theorem dd_X5_lain_75 : jd cX5_lain 75 (.ior) 1 76 := ⟨by decide +kernel, rfl⟩
theorem dd_X5_lain_76 : jd cX5_lain 76 (.istore_n 2) 1 77 := ⟨by decide +kernel, rfl⟩
theorem dd_X5_lain_26 : jd cX5_lain 26 (.ifCond .eq 51) 3 29 := ⟨by decide +kernel, rfl⟩
theorem dd_X5_lain_77 : jd cX5_lain 77 (.iinc 3 1) 3 80 := ⟨by decide +kernel, rfl⟩
theorem dd_X5_lain_80 : jd cX5_lain 80 (.goto (-67)) 3 83 := ⟨by decide +kernel, rfl⟩
theorem dd_X5_lain_18 : jd cX5_lain 18 (.if_icmp .ge 65) 3 21 := ⟨by decide +kernel, rfl⟩
theorem dd_X5_lain_83 : jd cX5_lain 83 (.iload_n 2) 1 84 := ⟨by decide +kernel, rfl⟩
theorem dd_X5_lain_84 : jd cX5_lain 84 (.ireturn) 1 85 := ⟨by decide +kernel, rfl⟩
theorem dd_X5_lain_7 : jd cX5_lain 7 (.iconst (-1)) 1 8 := ⟨by decide +kernel, rfl⟩
theorem dd_X5_lain_8 : jd cX5_lain 8 (.ireturn) 1 9 := ⟨by decide +kernel, rfl⟩
theorem dd_X5_lain_4 : jd cX5_lain 4 (.ifCond .ne 5) 3 7 := ⟨by decide +kernel, rfl⟩
theorem m_X5_lain : jmV yX5_lain cX5_lain 5 (some .int) 1 := ⟨⟨(jj_m (w := Cond.code yX5_lain cX5_lain 5 (some .int)) (List.mem_of_getElem? (i := 1228) (by decide +kernel)) rfl), (jj_m (w := Cond.initialized yX5_lain.cls) (List.mem_of_getElem? (i := 69) (by decide +kernel)) rfl), ⟨by decide, by decide⟩, by decide +kernel⟩, (jj_m (w := Cond.instanceMethod yX5_lain) (List.mem_of_getElem? (i := 1226) (by decide +kernel)) rfl), (jj_m (w := Cond.selects yX5_lain.cls yX5_lain yX5_lain) (List.mem_of_getElem? (i := 1227) (by decide +kernel)) rfl)⟩
def fX5_lain_L13 (i1 : Int32) (k83 : (Int32 × M2) → Option (Int32 × M2)) : Nat → Int32 → Int32 → M2 → Option (Int32 × M2)
  | 0, _, _, _ => none
  | n_ + 1, v2, v3, S4 =>
    (fX5_rows  S4).bind fun r5 =>
    if r5 ≤ v3 then
      k83 (v2, S4)
    else
      (fX5_isRow v3 S4).bind fun q6 =>
      lt (q6.2) fun S7 =>
      jn (α := Option (Int32 × M2)) (β := Int32 × M2) (fun j8 =>
        if q6.1 = 0 then
          j8 (v2, S7)
        else
          (fX5_starts  S7).bind fun q9 =>
          lt (q9) fun S10 =>
          (fX5_liesBy i1 S10).bind fun q11 =>
          lt (q11) fun S12 =>
          (fX5_boltAt i1 (0 : Int32) S12).bind fun r13 =>
          (fX5_nightsGo (1 : Int32) S12).bind fun q14 =>
          lt (q14) fun S15 =>
          jn (α := Option (Int32 × M2)) (β := Int32) (fun j17 =>
            jn (α := Option (Int32 × M2)) (β := Unit) (fun j16 =>
              if r13 = (-4 : Int32) then
                j16 ()
              else
                (fX5_isSo (0 : Int32) S15).bind fun r18 =>
                if r18 = 0 then
                  j16 ()
                else
                  j17 ((1 : Int32) <<< (r13 &&& 31))) (fun _ => 
              j17 (0 : Int32))) (fun p22 => 
            lt ((v2 ||| p22)) fun x23 =>
            j8 (x23, S15))) (fun p25 => 
        lt (v3 + (1 : Int32)) fun x26 =>
        fX5_lain_L13 i1 k83 n_ p25.1 x26 p25.2)

def fX5_lain (i1 : Int32) (S : M2) : Option (Int32 × M2) :=
  (fX5_isBale i1).bind fun r1 =>
  if r1 = 0 then
    some ((-1 : Int32), S)
  else
    fX5_lain_L13 i1
      (fun p28 =>
        some (p28.1, p28.2))
      4000 (0 : Int32) (0 : Int32) S

set_option maxHeartbeats 4000000 in
set_option maxRecDepth 100000 in
theorem tX5_lain_L13 {V : JV M2} {b : Nat} {a : Nat → Nat} (hv : vX5 V b a) (i1 : Int32) {E : JE (M2) Int32} (hE : JOk V E cX5_lain yX5_lain.cls 5 5 (some .int) jj_i) {k83 : (Int32 × M2) → Option (Int32 × M2)} (hk83 : ∀ p, J V E (fun q => (q.1, q.2)) (k83 p) 83 [(2, .int p.1)] [] p.2) : ∀ (n_ : Nat) (v2 : Int32) (v3 : Int32) (S4 : M2), J V E (fun q => (q.1, q.2)) (fX5_lain_L13 i1 k83 n_ v2 v3 S4) 13 [(0, .ref b), (1, .int i1), (2, .int v2), (3, .int v3)] [] S4 := by
  intro n_
  induction n_ with
  | zero =>
    intros
    exact J_none
  | succ n_ ih =>
    intros v2 v3 S4
    rw [fX5_lain_L13]
    refine J_iload_n hE dd_X5_lain_13 3 rfl rfl ?_
    refine J_aload_n hE dd_X5_lain_14 0 rfl rfl ?_
    refine J_invVri hE (As := []) (st := [.int v3]) (tX5_rows E.2.1 hv S4 ) (hv.ob _) m_X5_rows rfl ml_RX5_251 (Nat.le_of_ble_eq_true rfl) (Nat.le_of_ble_eq_true rfl) rfl (Nat.le_of_ble_eq_true rfl) dd_X5_lain_15 (fun r5 => ?_)
    refine J_icmp_ge hE (tgt := 83) dd_X5_lain_18 (by decide) (fun c27 => ?_) (fun c27 => ?_)
    · refine J_sub [2] rfl ?_
      exact hk83 (v2, S4)
    · refine J_aload_n hE dd_X5_lain_21 0 rfl rfl ?_
      refine J_iload_n hE dd_X5_lain_22 3 rfl rfl ?_
      refine J_invVwi hE (e := fun x => x) (As := [.int v3]) (st := []) (tX5_isRow E.2.1 hv S4 v3) (hv.ob _) m_X5_isRow rfl ml_RX5_254 (Nat.le_of_ble_eq_true rfl) (Nat.le_of_ble_eq_true rfl) rfl (Nat.le_of_ble_eq_true rfl) dd_X5_lain_23 (fun q6 => ?_)
      refine J_letS (fun S7 => ?_)
      refine J_jn (m := 77) (Lf := fun p25 => [(0, .ref b), (1, .int i1), (2, .int p25.1), (3, .int v3)]) (sf := fun p25 => []) (Xf := fun p25 => p25.2) (fun p25 => ?_) (fun hj8 => ?_)
      · show J V E _ _ 77 [(0, .ref b), (1, .int i1), (2, .int p25.1), (3, .int v3)] [] p25.2
        refine J_iincL hE (v := (v3 + (1 : Int32))) (Lf := fun x26 => [(3, .int x26), (0, .ref b), (1, .int i1), (2, .int p25.1)]) dd_X5_lain_77 (j := 3) rfl (congrArg (v3 + ·) (by decide)) (Nat.le_of_ble_eq_true rfl) (fun _ => rfl) (fun x26 => ?_)
        refine J_goto hE (tgt := 13) dd_X5_lain_80 (by decide) ?_
        refine J_sub [1, 2, 3, 0] rfl ?_
        exact ih p25.1 x26 p25.2
      · refine J_if_eq hE (tgt := 77) dd_X5_lain_26 (by decide) (fun c24 => ?_) (fun c24 => ?_)
        · refine J_sub [0, 1, 2, 3] rfl ?_
          exact hj8 (v2, S7)
        · refine J_aload_n hE dd_X5_lain_29 0 rfl rfl ?_
          refine J_invVwv hE (e := fun x => x) (As := []) (st := []) (tX5_starts E.2.1 hv S7 ) (hv.ob _) m_X5_starts rfl ml_RX5_199 (Nat.le_of_ble_eq_true rfl) (Nat.le_of_ble_eq_true rfl) rfl (Nat.le_of_ble_eq_true rfl) dd_X5_lain_30 (fun q9 => ?_)
          refine J_letS (fun S10 => ?_)
          refine J_aload_n hE dd_X5_lain_33 0 rfl rfl ?_
          refine J_iload_n hE dd_X5_lain_34 1 rfl rfl ?_
          refine J_invVwv hE (e := fun x => x) (As := [.int i1]) (st := []) (tX5_liesBy E.2.1 hv S10 i1) (hv.ob _) m_X5_liesBy rfl ml_RX5_291 (Nat.le_of_ble_eq_true rfl) (Nat.le_of_ble_eq_true rfl) rfl (Nat.le_of_ble_eq_true rfl) dd_X5_lain_35 (fun q11 => ?_)
          refine J_letS (fun S12 => ?_)
          refine J_aload_n hE dd_X5_lain_38 0 rfl rfl ?_
          refine J_iload_n hE dd_X5_lain_39 1 rfl rfl ?_
          refine J_iconst hE (v := (0 : Int32)) dd_X5_lain_40 (by decide) ?_
          refine J_invVri hE (As := [.int i1, .int (0 : Int32)]) (st := []) (tX5_boltAt E.2.1 hv S12 i1 (0 : Int32)) (hv.ob _) m_X5_boltAt rfl ml_RX5_169 (Nat.le_of_ble_eq_true rfl) (Nat.le_of_ble_eq_true rfl) rfl (Nat.le_of_ble_eq_true rfl) dd_X5_lain_41 (fun r13 => ?_)
          refine J_istore hE (L' := [(4, .int r13), (0, .ref b), (1, .int i1), (2, .int v2), (3, .int v3)]) dd_X5_lain_44 (Nat.le_of_ble_eq_true rfl) rfl ?_
          refine J_aload_n hE dd_X5_lain_46 1 rfl rfl ?_
          refine J_iconst hE (v := (1 : Int32)) dd_X5_lain_47 (by decide) ?_
          refine J_invVwv hE (e := fun x => x) (As := [.int (1 : Int32)]) (st := []) (tX5_nightsGo E.2.1 hv S12 (1 : Int32)) (hv.ob _) m_X5_nightsGo rfl ml_RX5_244 (Nat.le_of_ble_eq_true rfl) (Nat.le_of_ble_eq_true rfl) rfl (Nat.le_of_ble_eq_true rfl) dd_X5_lain_48 (fun q14 => ?_)
          refine J_letS (fun S15 => ?_)
          refine J_iload_n hE dd_X5_lain_51 3 rfl rfl ?_
          refine J_iload hE dd_X5_lain_52 0 rfl ?_
          refine J_bipush hE (v := (-4 : Int32)) dd_X5_lain_54 (by decide) ?_
          refine J_jn (m := 75) (Lf := fun p22 => [(0, .ref b), (1, .int i1), (3, .int v3)]) (sf := fun p22 => [.int p22, .int v2]) (Xf := fun p22 => S15) (fun p22 => ?_) (fun hj17 => ?_)
          · show J V E _ _ 75 [(0, .ref b), (1, .int i1), (3, .int v3)] [.int p22, .int v2] S15
            refine J_ior hE dd_X5_lain_75 ?_
            refine J_leti (fun x23 => ?_)
            refine J_istore_n hE (L' := [(2, .int x23), (0, .ref b), (1, .int i1), (3, .int v3)]) dd_X5_lain_76 (Nat.le_of_ble_eq_true rfl) rfl rfl ?_
            refine J_sub [1, 2, 0, 3] rfl ?_
            exact hj8 (x23, S15)
          · refine J_jn (m := 74) (Lf := fun _ => [(0, .ref b), (1, .int i1), (3, .int v3)]) (sf := fun _ => [.int v2]) (Xf := fun _ => S15) (fun _ => ?_) (fun hj16 => ?_)
            · show J V E _ _ 74 [(0, .ref b), (1, .int i1), (3, .int v3)] [.int v2] S15
              refine J_iconst hE (v := (0 : Int32)) dd_X5_lain_74 (by decide) ?_
              refine J_sub [0, 1, 2] rfl ?_
              exact hj17 (0 : Int32)
            · refine J_icmp_eq hE (tgt := 74) dd_X5_lain_56 (by decide) (fun c20 => ?_) (fun c20 => ?_)
              · refine J_sub [1, 2, 4] rfl ?_
                exact hj16 ()
              · refine J_aload_n hE dd_X5_lain_59 1 rfl rfl ?_
                refine J_iconst hE (v := (0 : Int32)) dd_X5_lain_60 (by decide) ?_
                refine J_invVri hE (As := [.int (0 : Int32)]) (st := [.int v2]) (tX5_isSo E.2.1 hv S15 (0 : Int32)) (hv.ob _) m_X5_isSo rfl ml_RX5_288 (Nat.le_of_ble_eq_true rfl) (Nat.le_of_ble_eq_true rfl) rfl (Nat.le_of_ble_eq_true rfl) dd_X5_lain_61 (fun r18 => ?_)
                refine J_if_eq hE (tgt := 74) dd_X5_lain_64 (by decide) (fun c19 => ?_) (fun c19 => ?_)
                · refine J_sub [1, 2, 4] rfl ?_
                  exact hj16 ()
                · refine J_iconst hE (v := (1 : Int32)) dd_X5_lain_67 (by decide) ?_
                  refine J_iload hE dd_X5_lain_68 0 rfl ?_
                  refine J_ishl hE dd_X5_lain_70 ?_
                  refine J_goto hE (tgt := 75) dd_X5_lain_71 (by decide) ?_
                  refine J_sub [1, 2, 4] rfl ?_
                  exact hj17 ((1 : Int32) <<< (r13 &&& 31))
set_option maxHeartbeats 4000000 in
set_option maxRecDepth 100000 in
theorem tX5_lain (l : Launch) {V : JV M2} {b : Nat} {a : Nat → Nat} (hv : vX5 V b a) (S : M2) (i1 : Int32) : JC l V yX5_lain cX5_lain 5 (some .int) jj_i 5 [.ref b, .int i1] S ((fX5_lain i1 S).map (fun q => (q.1, q.2))) := by
  refine jj_of (by decide) (Nat.le_of_ble_eq_true rfl) (fun E hlE hE => ?_)
  unfold fX5_lain
  refine J_sub (L' := [(0, .ref b), (1, .int i1)]) [0, 1] rfl ?_
  refine J_iload_n hE dd_X5_lain_0 1 rfl rfl ?_
  refine J_invSri hE (As := [.int i1]) (st := []) (tX5_isBale E.2.1 V S i1) m_X5_isBale s_X5_isBale rfl ml_RX5_213 (Nat.le_of_ble_eq_true rfl) (Nat.le_of_ble_eq_true rfl) rfl (Nat.le_of_ble_eq_true rfl) dd_X5_lain_1 (fun r1 => ?_)
  refine J_if_ne hE (tgt := 9) dd_X5_lain_4 (by decide) (fun c29 => ?_) (fun c29 => ?_)
  · refine J_iconst hE (v := (0 : Int32)) dd_X5_lain_9 (by decide) ?_
    refine J_istore_n hE (L' := [(2, .int (0 : Int32)), (0, .ref b), (1, .int i1)]) dd_X5_lain_10 (Nat.le_of_ble_eq_true rfl) rfl rfl ?_
    refine J_iconst hE (v := (0 : Int32)) dd_X5_lain_11 (by decide) ?_
    refine J_istore_n hE (L' := [(3, .int (0 : Int32)), (2, .int (0 : Int32)), (0, .ref b), (1, .int i1)]) dd_X5_lain_12 (Nat.le_of_ble_eq_true rfl) rfl rfl ?_
    refine J_sub [2, 3, 1, 0] rfl ?_
    refine tX5_lain_L13 hv i1 hE (fun p28 => ?_) 4000 (0 : Int32) (0 : Int32) S
    show J V E _ _ 83 [(2, .int p28.1)] [] p28.2
    refine J_iload_n hE dd_X5_lain_83 0 rfl rfl ?_
    exact J_iret hE dd_X5_lain_84 rfl rfl
  · refine J_iconst hE (v := (-1 : Int32)) dd_X5_lain_7 (by decide) ?_
    exact J_iret hE dd_X5_lain_8 rfl rfl
theorem dd_X5_drift_0 : jd cX5_drift 0 (.iload_n 2) 1 1 := ⟨by decide +kernel, rfl⟩
theorem dd_X5_drift_1 : jd cX5_drift 1 (.i2l) 1 2 := ⟨by decide +kernel, rfl⟩
theorem dd_X5_drift_2 : jd cX5_drift 2 (.lconst 1) 1 3 := ⟨by decide +kernel, rfl⟩
theorem dd_X5_drift_3 : jd cX5_drift 3 (.ldc2_w 242) 3 6 := ⟨by decide +kernel, rfl⟩
theorem dd_X5_drift_6 : jd cX5_drift 6 (.invokestatic 71) 3 9 := ⟨by decide +kernel, rfl⟩
theorem dd_X5_drift_19 : jd cX5_drift 19 (.iconst (-1)) 1 20 := ⟨by decide +kernel, rfl⟩
theorem dd_X5_drift_20 : jd cX5_drift 20 (.ireturn) 1 21 := ⟨by decide +kernel, rfl⟩
theorem dd_X5_drift_12 : jd cX5_drift 12 (.iload_n 3) 1 13 := ⟨by decide +kernel, rfl⟩
theorem dd_X5_drift_13 : jd cX5_drift 13 (.invokestatic 239) 3 16 := ⟨by decide +kernel, rfl⟩
theorem dd_X5_drift_21 : jd cX5_drift 21 (.aload_n 0) 1 22 := ⟨by decide +kernel, rfl⟩
theorem dd_X5_drift_22 : jd cX5_drift 22 (.getfield 63) 3 25 := ⟨by decide +kernel, rfl⟩
theorem dd_X5_drift_31 : jd cX5_drift 31 (.iload_n 1) 1 32 := ⟨by decide +kernel, rfl⟩
theorem dd_X5_drift_32 : jd cX5_drift 32 (.istore 4) 2 34 := ⟨by decide +kernel, rfl⟩
theorem dd_X5_drift_34 : jd cX5_drift 34 (.aload_n 0) 1 35 := ⟨by decide +kernel, rfl⟩
theorem dd_X5_drift_35 : jd cX5_drift 35 (.invokevirtual 199) 3 38 := ⟨by decide +kernel, rfl⟩
theorem dd_X5_drift_38 : jd cX5_drift 38 (.iconst 0) 1 39 := ⟨by decide +kernel, rfl⟩
theorem dd_X5_drift_39 : jd cX5_drift 39 (.istore 5) 2 41 := ⟨by decide +kernel, rfl⟩
theorem dd_X5_drift_41 : jd cX5_drift 41 (.iload 5) 2 43 := ⟨by decide +kernel, rfl⟩
theorem dd_X5_drift_43 : jd cX5_drift 43 (.iload_n 2) 1 44 := ⟨by decide +kernel, rfl⟩
theorem dd_X5_drift_47 : jd cX5_drift 47 (.iload 4) 2 49 := ⟨by decide +kernel, rfl⟩
theorem ci_RX5_294 : (Cond.constant "MothCustomsModel" 294 (1103515245 : Int32) : Cond) ∈ jj_tb := jj_m (List.mem_of_getElem? (i := 1237) (by decide +kernel)) rfl
theorem dd_X5_drift_49 : jd cX5_drift 49 (.ldc_w 294) 3 52 := ⟨by decide +kernel, rfl⟩
theorem dd_X5_drift_52 : jd cX5_drift 52 (.imul) 1 53 := ⟨by decide +kernel, rfl⟩
theorem dd_X5_drift_53 : jd cX5_drift 53 (.sipush 12345) 3 56 := ⟨by decide +kernel, rfl⟩
theorem dd_X5_drift_56 : jd cX5_drift 56 (.iadd) 1 57 := ⟨by decide +kernel, rfl⟩
theorem dd_X5_drift_57 : jd cX5_drift 57 (.istore 4) 2 59 := ⟨by decide +kernel, rfl⟩
theorem dd_X5_drift_59 : jd cX5_drift 59 (.iload 4) 2 61 := ⟨by decide +kernel, rfl⟩
theorem dd_X5_drift_61 : jd cX5_drift 61 (.bipush 16) 2 63 := ⟨by decide +kernel, rfl⟩
theorem dd_X5_drift_63 : jd cX5_drift 63 (.ishr) 1 64 := ⟨by decide +kernel, rfl⟩
theorem dd_X5_drift_64 : jd cX5_drift 64 (.sipush 32767) 3 67 := ⟨by decide +kernel, rfl⟩
theorem dd_X5_drift_67 : jd cX5_drift 67 (.iand) 1 68 := ⟨by decide +kernel, rfl⟩
theorem dd_X5_drift_68 : jd cX5_drift 68 (.istore 6) 2 70 := ⟨by decide +kernel, rfl⟩
theorem dd_X5_drift_70 : jd cX5_drift 70 (.aload_n 0) 1 71 := ⟨by decide +kernel, rfl⟩
theorem dd_X5_drift_71 : jd cX5_drift 71 (.iload 6) 2 73 := ⟨by decide +kernel, rfl⟩
theorem dd_X5_drift_73 : jd cX5_drift 73 (.aload_n 0) 1 74 := ⟨by decide +kernel, rfl⟩
theorem dd_X5_drift_74 : jd cX5_drift 74 (.getfield 63) 3 77 := ⟨by decide +kernel, rfl⟩
theorem dd_X5_drift_77 : jd cX5_drift 77 (.irem) 1 78 := ⟨by decide +kernel, rfl⟩
theorem dd_X5_drift_78 : jd cX5_drift 78 (.iload 6) 2 80 := ⟨by decide +kernel, rfl⟩
theorem dd_X5_drift_80 : jd cX5_drift 80 (.iconst 3) 1 81 := ⟨by decide +kernel, rfl⟩
theorem dd_X5_drift_81 : jd cX5_drift 81 (.irem) 1 82 := ⟨by decide +kernel, rfl⟩
theorem dd_X5_drift_82 : jd cX5_drift 82 (.iconst 1) 1 83 := ⟨by decide +kernel, rfl⟩
theorem dd_X5_drift_83 : jd cX5_drift 83 (.invokevirtual 218) 3 86 := ⟨by decide +kernel, rfl⟩
theorem dd_X5_drift_86 : jd cX5_drift 86 (.aload_n 0) 1 87 := ⟨by decide +kernel, rfl⟩
theorem dd_X5_drift_87 : jd cX5_drift 87 (.iconst 1) 1 88 := ⟨by decide +kernel, rfl⟩
theorem dd_X5_drift_88 : jd cX5_drift 88 (.invokevirtual 244) 3 91 := ⟨by decide +kernel, rfl⟩
theorem dd_X5_drift_91 : jd cX5_drift 91 (.iinc 5 1) 3 94 := ⟨by decide +kernel, rfl⟩
theorem dd_X5_drift_94 : jd cX5_drift 94 (.goto (-53)) 3 97 := ⟨by decide +kernel, rfl⟩
theorem dd_X5_drift_44 : jd cX5_drift 44 (.if_icmp .ge 53) 3 47 := ⟨by decide +kernel, rfl⟩
theorem dd_X5_drift_97 : jd cX5_drift 97 (.iload_n 3) 1 98 := ⟨by decide +kernel, rfl⟩
theorem dd_X5_drift_108 : jd cX5_drift 108 (.aload_n 0) 1 109 := ⟨by decide +kernel, rfl⟩
theorem dd_X5_drift_109 : jd cX5_drift 109 (.invokevirtual 247) 3 112 := ⟨by decide +kernel, rfl⟩
theorem dd_X5_drift_112 : jd cX5_drift 112 (.ireturn) 1 113 := ⟨by decide +kernel, rfl⟩
theorem dd_X5_drift_101 : jd cX5_drift 101 (.aload_n 0) 1 102 := ⟨by decide +kernel, rfl⟩
theorem dd_X5_drift_102 : jd cX5_drift 102 (.invokevirtual 192) 3 105 := ⟨by decide +kernel, rfl⟩
theorem dd_X5_drift_105 : jd cX5_drift 105 (.goto 7) 3 108 := ⟨by decide +kernel, rfl⟩
theorem dd_X5_drift_98 : jd cX5_drift 98 (.ifCond .ne 10) 3 101 := ⟨by decide +kernel, rfl⟩
theorem dd_X5_drift_28 : jd cX5_drift 28 (.bipush (-2)) 2 30 := ⟨by decide +kernel, rfl⟩
theorem dd_X5_drift_30 : jd cX5_drift 30 (.ireturn) 1 31 := ⟨by decide +kernel, rfl⟩
theorem dd_X5_drift_25 : jd cX5_drift 25 (.ifCond .ne 6) 3 28 := ⟨by decide +kernel, rfl⟩
theorem dd_X5_drift_16 : jd cX5_drift 16 (.ifCond .ne 5) 3 19 := ⟨by decide +kernel, rfl⟩
theorem dd_X5_drift_9 : jd cX5_drift 9 (.ifCond .eq 10) 3 12 := ⟨by decide +kernel, rfl⟩
theorem m_X5_drift : jmV yX5_drift cX5_drift 7 (some .int) 3 := ⟨⟨(jj_m (w := Cond.code yX5_drift cX5_drift 7 (some .int)) (List.mem_of_getElem? (i := 1236) (by decide +kernel)) rfl), (jj_m (w := Cond.initialized yX5_drift.cls) (List.mem_of_getElem? (i := 69) (by decide +kernel)) rfl), ⟨by decide, by decide⟩, by decide +kernel⟩, (jj_m (w := Cond.instanceMethod yX5_drift) (List.mem_of_getElem? (i := 1234) (by decide +kernel)) rfl), (jj_m (w := Cond.selects yX5_drift.cls yX5_drift yX5_drift) (List.mem_of_getElem? (i := 1235) (by decide +kernel)) rfl)⟩
def fX5_drift_L41 (i2 : Int32) (i3 : Int32) (k97 : M2 → Option (Int32 × M2)) : Nat → Int32 → Int32 → M2 → Option (Int32 × M2)
  | 0, _, _, _ => none
  | n_ + 1, v5, v6, S7 =>
    if i2 ≤ v6 then
      k97 S7
    else
      lt (((v5 * (1103515245 : Int32)) + (12345 : Int32))) fun x8 =>
      lt (((x8 >>> ((16 : Int32) &&& 31)) &&& (32767 : Int32))) fun x9 =>
      if (S7 3 0) = 0 then none else
      if (3 : Int32) = 0 then none else
      (fX5_folds (x9 - x9 / (S7 3 0) * (S7 3 0)) (x9 - x9 / (3 : Int32) * (3 : Int32)) (1 : Int32) S7).bind fun q10 =>
      lt (q10) fun S11 =>
      (fX5_nightsGo (1 : Int32) S11).bind fun q12 =>
      lt (q12) fun S13 =>
      lt (v6 + (1 : Int32)) fun x14 =>
      fX5_drift_L41 i2 i3 k97 n_ x8 x14 S13

def fX5_drift (i1 : Int32) (i2 : Int32) (i3 : Int32) (S : M2) : Option (Int32 × M2) :=
  (fX5_in (i2.toInt64) (1 : Int64) (20 : Int64)).bind fun r1 =>
  if r1 = 0 then
    some ((-1 : Int32), S)
  else
    (fX5_isPart i3).bind fun r2 =>
    if r2 = 0 then
      some ((-1 : Int32), S)
    else
      if (S 3 0) = 0 then
        some ((-2 : Int32), S)
      else
        (fX5_starts  S).bind fun q3 =>
        lt (q3) fun S4 =>
        fX5_drift_L41 i2 i3
          (fun p16 =>
            if i3 = 0 then
              (fX5_dutyAll  p16).bind fun r18 =>
              some (r18, p16)
            else
              (fX5_allHoles  p16).bind fun r17 =>
              some (r17, p16))
          400 i1 (0 : Int32) S4

set_option maxHeartbeats 4000000 in
set_option maxRecDepth 100000 in
theorem tX5_drift_L41 {V : JV M2} {b : Nat} {a : Nat → Nat} (hv : vX5 V b a) (i2 : Int32) (i3 : Int32) {E : JE (M2) Int32} (hE : JOk V E cX5_drift yX5_drift.cls 7 5 (some .int) jj_i) {k97 : M2 → Option (Int32 × M2)} (hk97 : ∀ p, J V E (fun q => (q.1, q.2)) (k97 p) 97 [(0, .ref b), (3, .int i3)] [] p) : ∀ (n_ : Nat) (v5 : Int32) (v6 : Int32) (S7 : M2), J V E (fun q => (q.1, q.2)) (fX5_drift_L41 i2 i3 k97 n_ v5 v6 S7) 41 [(0, .ref b), (2, .int i2), (3, .int i3), (4, .int v5), (5, .int v6)] [] S7 := by
  intro n_
  induction n_ with
  | zero =>
    intros
    exact J_none
  | succ n_ ih =>
    intros v5 v6 S7
    rw [fX5_drift_L41]
    refine J_iload hE dd_X5_drift_41 4 rfl ?_
    refine J_iload_n hE dd_X5_drift_43 1 rfl rfl ?_
    refine J_icmp_ge hE (tgt := 97) dd_X5_drift_44 (by decide) (fun c15 => ?_) (fun c15 => ?_)
    · refine J_sub [0, 2] rfl ?_
      exact hk97 S7
    · refine J_iload hE dd_X5_drift_47 3 rfl ?_
      refine J_ldcw hE (v := (1103515245 : Int32)) dd_X5_drift_49 ci_RX5_294 ?_
      refine J_imul hE dd_X5_drift_52 ?_
      refine J_sipush hE (v := (12345 : Int32)) dd_X5_drift_53 (by decide) ?_
      refine J_iadd hE dd_X5_drift_56 ?_
      refine J_leti (fun x8 => ?_)
      refine J_istore hE (L' := [(4, .int x8), (0, .ref b), (2, .int i2), (3, .int i3), (5, .int v6)]) dd_X5_drift_57 (Nat.le_of_ble_eq_true rfl) rfl ?_
      refine J_iload hE dd_X5_drift_59 0 rfl ?_
      refine J_bipush hE (v := (16 : Int32)) dd_X5_drift_61 (by decide) ?_
      refine J_ishr hE dd_X5_drift_63 ?_
      refine J_sipush hE (v := (32767 : Int32)) dd_X5_drift_64 (by decide) ?_
      refine J_iand hE dd_X5_drift_67 ?_
      refine J_leti (fun x9 => ?_)
      refine J_istore hE (L' := [(6, .int x9), (4, .int x8), (0, .ref b), (2, .int i2), (3, .int i3), (5, .int v6)]) dd_X5_drift_68 (Nat.le_of_ble_eq_true rfl) rfl ?_
      refine J_aload_n hE dd_X5_drift_70 2 rfl rfl ?_
      refine J_iload hE dd_X5_drift_71 0 rfl ?_
      refine J_aload_n hE dd_X5_drift_73 2 rfl rfl ?_
      refine J_get hE (hv.ob _) jc_X5 3 (by decide) fl_RX5_63 (v := .int (S7 3 0)) rfl dd_X5_drift_74 ?_
      refine J_irem hE dd_X5_drift_77 (fun _ => ?_)
      refine J_iload hE dd_X5_drift_78 0 rfl ?_
      refine J_iconst hE (v := (3 : Int32)) dd_X5_drift_80 (by decide) ?_
      refine J_irem hE dd_X5_drift_81 (fun _ => ?_)
      refine J_iconst hE (v := (1 : Int32)) dd_X5_drift_82 (by decide) ?_
      refine J_invVwv hE (e := fun x => x) (As := [.int (x9 - x9 / (S7 3 0) * (S7 3 0)), .int (x9 - x9 / (3 : Int32) * (3 : Int32)), .int (1 : Int32)]) (st := []) (tX5_folds E.2.1 hv S7 (x9 - x9 / (S7 3 0) * (S7 3 0)) (x9 - x9 / (3 : Int32) * (3 : Int32)) (1 : Int32)) (hv.ob _) m_X5_folds rfl ml_RX5_218 (Nat.le_of_ble_eq_true rfl) (Nat.le_of_ble_eq_true rfl) rfl (Nat.le_of_ble_eq_true rfl) dd_X5_drift_83 (fun q10 => ?_)
      refine J_letS (fun S11 => ?_)
      refine J_aload_n hE dd_X5_drift_86 2 rfl rfl ?_
      refine J_iconst hE (v := (1 : Int32)) dd_X5_drift_87 (by decide) ?_
      refine J_invVwv hE (e := fun x => x) (As := [.int (1 : Int32)]) (st := []) (tX5_nightsGo E.2.1 hv S11 (1 : Int32)) (hv.ob _) m_X5_nightsGo rfl ml_RX5_244 (Nat.le_of_ble_eq_true rfl) (Nat.le_of_ble_eq_true rfl) rfl (Nat.le_of_ble_eq_true rfl) dd_X5_drift_88 (fun q12 => ?_)
      refine J_letS (fun S13 => ?_)
      refine J_iincL hE (v := (v6 + (1 : Int32))) (Lf := fun x14 => [(5, .int x14), (6, .int x9), (4, .int x8), (0, .ref b), (2, .int i2), (3, .int i3)]) dd_X5_drift_91 (j := 5) rfl (congrArg (v6 + ·) (by decide)) (Nat.le_of_ble_eq_true rfl) (fun _ => rfl) (fun x14 => ?_)
      refine J_goto hE (tgt := 41) dd_X5_drift_94 (by decide) ?_
      refine J_sub [3, 4, 5, 2, 0] rfl ?_
      exact ih x8 x14 S13
set_option maxHeartbeats 4000000 in
set_option maxRecDepth 100000 in
theorem tX5_drift (l : Launch) {V : JV M2} {b : Nat} {a : Nat → Nat} (hv : vX5 V b a) (S : M2) (i1 : Int32) (i2 : Int32) (i3 : Int32) : JC l V yX5_drift cX5_drift 7 (some .int) jj_i 5 [.ref b, .int i1, .int i2, .int i3] S ((fX5_drift i1 i2 i3 S).map (fun q => (q.1, q.2))) := by
  refine jj_of (by decide) (Nat.le_of_ble_eq_true rfl) (fun E hlE hE => ?_)
  unfold fX5_drift
  refine J_sub (L' := [(0, .ref b), (1, .int i1), (2, .int i2), (3, .int i3)]) [0, 1, 2, 3] rfl ?_
  refine J_iload_n hE dd_X5_drift_0 2 rfl rfl ?_
  refine J_i2l hE dd_X5_drift_1 ?_
  refine J_lconst hE (v := (1 : Int64)) dd_X5_drift_2 (by decide) ?_
  refine J_ldc2 hE (v := (20 : Int64)) dd_X5_drift_3 cl_RX5_242 ?_
  refine J_invSri hE (As := [.long (i2.toInt64), .long (1 : Int64), .long (20 : Int64)]) (st := []) (tX5_in E.2.1 V S (i2.toInt64) (1 : Int64) (20 : Int64)) m_X5_in s_X5_in rfl ml_RX5_71 (Nat.le_of_ble_eq_true rfl) (Nat.le_of_ble_eq_true rfl) rfl (Nat.le_of_ble_eq_true rfl) dd_X5_drift_6 (fun r1 => ?_)
  refine J_if_eq hE (tgt := 19) dd_X5_drift_9 (by decide) (fun c22 => ?_) (fun c22 => ?_)
  · refine J_iconst hE (v := (-1 : Int32)) dd_X5_drift_19 (by decide) ?_
    exact J_iret hE dd_X5_drift_20 rfl rfl
  · refine J_iload_n hE dd_X5_drift_12 3 rfl rfl ?_
    refine J_invSri hE (As := [.int i3]) (st := []) (tX5_isPart E.2.1 V S i3) m_X5_isPart s_X5_isPart rfl ml_RX5_239 (Nat.le_of_ble_eq_true rfl) (Nat.le_of_ble_eq_true rfl) rfl (Nat.le_of_ble_eq_true rfl) dd_X5_drift_13 (fun r2 => ?_)
    refine J_if_ne hE (tgt := 21) dd_X5_drift_16 (by decide) (fun c21 => ?_) (fun c21 => ?_)
    · refine J_aload_n hE dd_X5_drift_21 0 rfl rfl ?_
      refine J_get hE (hv.ob _) jc_X5 3 (by decide) fl_RX5_63 (v := .int (S 3 0)) rfl dd_X5_drift_22 ?_
      refine J_if_ne hE (tgt := 31) dd_X5_drift_25 (by decide) (fun c20 => ?_) (fun c20 => ?_)
      · refine J_iload_n hE dd_X5_drift_31 1 rfl rfl ?_
        refine J_istore hE (L' := [(4, .int i1), (0, .ref b), (1, .int i1), (2, .int i2), (3, .int i3)]) dd_X5_drift_32 (Nat.le_of_ble_eq_true rfl) rfl ?_
        refine J_aload_n hE dd_X5_drift_34 1 rfl rfl ?_
        refine J_invVwv hE (e := fun x => x) (As := []) (st := []) (tX5_starts E.2.1 hv S ) (hv.ob _) m_X5_starts rfl ml_RX5_199 (Nat.le_of_ble_eq_true rfl) (Nat.le_of_ble_eq_true rfl) rfl (Nat.le_of_ble_eq_true rfl) dd_X5_drift_35 (fun q3 => ?_)
        refine J_letS (fun S4 => ?_)
        refine J_iconst hE (v := (0 : Int32)) dd_X5_drift_38 (by decide) ?_
        refine J_istore hE (L' := [(5, .int (0 : Int32)), (4, .int i1), (0, .ref b), (1, .int i1), (2, .int i2), (3, .int i3)]) dd_X5_drift_39 (Nat.le_of_ble_eq_true rfl) rfl ?_
        refine J_sub [2, 4, 5, 1, 0] rfl ?_
        refine tX5_drift_L41 hv i2 i3 hE (fun p16 => ?_) 400 i1 (0 : Int32) S4
        show J V E _ _ 97 [(0, .ref b), (3, .int i3)] [] p16
        refine J_iload_n hE dd_X5_drift_97 1 rfl rfl ?_
        refine J_if_ne hE (tgt := 108) dd_X5_drift_98 (by decide) (fun c19 => ?_) (fun c19 => ?_)
        · refine J_aload_n hE dd_X5_drift_108 0 rfl rfl ?_
          refine J_invVri hE (As := []) (st := []) (tX5_allHoles E.2.1 hv p16 ) (hv.ob _) m_X5_allHoles rfl ml_RX5_247 (Nat.le_of_ble_eq_true rfl) (Nat.le_of_ble_eq_true rfl) rfl (Nat.le_of_ble_eq_true rfl) dd_X5_drift_109 (fun r17 => ?_)
          exact J_iret hE dd_X5_drift_112 rfl rfl
        · refine J_aload_n hE dd_X5_drift_101 0 rfl rfl ?_
          refine J_invVri hE (As := []) (st := []) (tX5_dutyAll E.2.1 hv p16 ) (hv.ob _) m_X5_dutyAll rfl ml_RX5_192 (Nat.le_of_ble_eq_true rfl) (Nat.le_of_ble_eq_true rfl) rfl (Nat.le_of_ble_eq_true rfl) dd_X5_drift_102 (fun r18 => ?_)
          refine J_goto hE (tgt := 112) dd_X5_drift_105 (by decide) ?_
          exact J_iret hE dd_X5_drift_112 rfl rfl
      · refine J_bipush hE (v := (-2 : Int32)) dd_X5_drift_28 (by decide) ?_
        exact J_iret hE dd_X5_drift_30 rfl rfl
    · refine J_iconst hE (v := (-1 : Int32)) dd_X5_drift_19 (by decide) ?_
      exact J_iret hE dd_X5_drift_20 rfl rfl
theorem dd_X5_copies_0 : jd cX5_copies 0 (.iconst 0) 1 1 := ⟨by decide +kernel, rfl⟩
theorem dd_X5_copies_1 : jd cX5_copies 1 (.istore_n 3) 1 2 := ⟨by decide +kernel, rfl⟩
theorem dd_X5_copies_2 : jd cX5_copies 2 (.iload_n 3) 1 3 := ⟨by decide +kernel, rfl⟩
theorem dd_X5_copies_3 : jd cX5_copies 3 (.bipush 62) 2 5 := ⟨by decide +kernel, rfl⟩
theorem dd_X5_copies_8 : jd cX5_copies 8 (.aload_n 0) 1 9 := ⟨by decide +kernel, rfl⟩
theorem dd_X5_copies_9 : jd cX5_copies 9 (.getfield 7) 3 12 := ⟨by decide +kernel, rfl⟩
theorem dd_X5_copies_12 : jd cX5_copies 12 (.iload_n 1) 1 13 := ⟨by decide +kernel, rfl⟩
theorem dd_X5_copies_13 : jd cX5_copies 13 (.iload_n 3) 1 14 := ⟨by decide +kernel, rfl⟩
theorem dd_X5_copies_14 : jd cX5_copies 14 (.iadd) 1 15 := ⟨by decide +kernel, rfl⟩
theorem dd_X5_copies_15 : jd cX5_copies 15 (.aload_n 0) 1 16 := ⟨by decide +kernel, rfl⟩
theorem dd_X5_copies_16 : jd cX5_copies 16 (.getfield 7) 3 19 := ⟨by decide +kernel, rfl⟩
theorem dd_X5_copies_19 : jd cX5_copies 19 (.iload_n 2) 1 20 := ⟨by decide +kernel, rfl⟩
theorem dd_X5_copies_20 : jd cX5_copies 20 (.iload_n 3) 1 21 := ⟨by decide +kernel, rfl⟩
theorem dd_X5_copies_21 : jd cX5_copies 21 (.iadd) 1 22 := ⟨by decide +kernel, rfl⟩
theorem dd_X5_copies_22 : jd cX5_copies 22 (.iaload) 1 23 := ⟨by decide +kernel, rfl⟩
theorem dd_X5_copies_23 : jd cX5_copies 23 (.iastore) 1 24 := ⟨by decide +kernel, rfl⟩
theorem dd_X5_copies_24 : jd cX5_copies 24 (.iinc 3 1) 3 27 := ⟨by decide +kernel, rfl⟩
theorem dd_X5_copies_27 : jd cX5_copies 27 (.goto (-25)) 3 30 := ⟨by decide +kernel, rfl⟩
theorem dd_X5_copies_5 : jd cX5_copies 5 (.if_icmp .ge 25) 3 8 := ⟨by decide +kernel, rfl⟩
theorem dd_X5_copies_30 : jd cX5_copies 30 (.return_) 1 31 := ⟨by decide +kernel, rfl⟩
theorem m_X5_copies : jmV yX5_copies cX5_copies 4 none 2 := ⟨⟨(jj_m (w := Cond.code yX5_copies cX5_copies 4 none) (List.mem_of_getElem? (i := 1245) (by decide +kernel)) rfl), (jj_m (w := Cond.initialized yX5_copies.cls) (List.mem_of_getElem? (i := 69) (by decide +kernel)) rfl), ⟨by decide, by decide⟩, by decide +kernel⟩, (jj_m (w := Cond.instanceMethod yX5_copies) (List.mem_of_getElem? (i := 1244) (by decide +kernel)) rfl), (jj_m (w := Cond.selects yX5_copies.cls yX5_copies yX5_copies) (List.mem_of_getElem? (i := 62) (by decide +kernel)) rfl)⟩
def fX5_copies_L2 (i1 : Int32) (i2 : Int32) (k30 : M2 → Option (M2)) : Nat → Int32 → M2 → Option (M2)
  | 0, _, _ => none
  | n_ + 1, v1, S2 =>
    if (62 : Int32) ≤ v1 then
      k30 S2
    else
      bnd (i2 + v1) 186 <|
      bnd (i1 + v1) 186 <|
      lt (va_up S2 0 (upd (S2 0) (i1 + v1).toNatClampNeg (S2 0 (i2 + v1).toNatClampNeg))) fun S3 =>
      lt (v1 + (1 : Int32)) fun x4 =>
      fX5_copies_L2 i1 i2 k30 n_ x4 S3

def fX5_copies (i1 : Int32) (i2 : Int32) (S : M2) : Option (M2) :=
  fX5_copies_L2 i1 i2
    (fun p6 =>
      some p6)
    400 (0 : Int32) S

set_option maxHeartbeats 4000000 in
set_option maxRecDepth 100000 in
theorem tX5_copies_L2 {V : JV M2} {b : Nat} {a : Nat → Nat} (hv : vX5 V b a) (i1 : Int32) (i2 : Int32) {E : JE (M2) Unit} (hE : JOk V E cX5_copies yX5_copies.cls 4 0 none jj_v) {k30 : M2 → Option (M2)} (hk30 : ∀ p, J V E (fun q => ((), q)) (k30 p) 30 [] [] p) : ∀ (n_ : Nat) (v1 : Int32) (S2 : M2), J V E (fun q => ((), q)) (fX5_copies_L2 i1 i2 k30 n_ v1 S2) 2 [(0, .ref b), (1, .int i1), (2, .int i2), (3, .int v1)] [] S2 := by
  intro n_
  induction n_ with
  | zero =>
    intros
    exact J_none
  | succ n_ ih =>
    intros v1 S2
    rw [fX5_copies_L2]
    refine J_iload_n hE dd_X5_copies_2 3 rfl rfl ?_
    refine J_bipush hE (v := (62 : Int32)) dd_X5_copies_3 (by decide) ?_
    refine J_icmp_ge hE (tgt := 30) dd_X5_copies_5 (by decide) (fun c5 => ?_) (fun c5 => ?_)
    · refine J_sub [] rfl ?_
      exact hk30 S2
    · refine J_aload_n hE dd_X5_copies_8 0 rfl rfl ?_
      refine J_get hE (hv.ob _) jc_X5 0 (by decide) fl_RX5_7 (v := .ref (a 0)) rfl dd_X5_copies_9 ?_
      refine J_iload_n hE dd_X5_copies_12 1 rfl rfl ?_
      refine J_iload_n hE dd_X5_copies_13 3 rfl rfl ?_
      refine J_iadd hE dd_X5_copies_14 ?_
      refine J_aload_n hE dd_X5_copies_15 0 rfl rfl ?_
      refine J_get hE (hv.ob _) jc_X5 0 (by decide) fl_RX5_7 (v := .ref (a 0)) rfl dd_X5_copies_16 ?_
      refine J_iload_n hE dd_X5_copies_19 2 rfl rfl ?_
      refine J_iload_n hE dd_X5_copies_20 3 rfl rfl ?_
      refine J_iadd hE dd_X5_copies_21 ?_
      refine J_ald hE (hv.arr 0 (n := 186) (ty := .int) (by decide) _) dd_X5_copies_22 ?_
      refine J_ast hE hv 0 (N := 186) (by decide) dd_X5_copies_23 ?_
      refine J_letS (fun S3 => ?_)
      refine J_iincL hE (v := (v1 + (1 : Int32))) (Lf := fun x4 => [(3, .int x4), (0, .ref b), (1, .int i1), (2, .int i2)]) dd_X5_copies_24 (j := 3) rfl (congrArg (v1 + ·) (by decide)) (Nat.le_of_ble_eq_true rfl) (fun _ => rfl) (fun x4 => ?_)
      refine J_goto hE (tgt := 2) dd_X5_copies_27 (by decide) ?_
      refine J_sub [1, 2, 3, 0] rfl ?_
      exact ih x4 S3
set_option maxHeartbeats 4000000 in
set_option maxRecDepth 100000 in
theorem tX5_copies (l : Launch) {V : JV M2} {b : Nat} {a : Nat → Nat} (hv : vX5 V b a) (S : M2) (i1 : Int32) (i2 : Int32) : JC l V yX5_copies cX5_copies 4 none jj_v 0 [.ref b, .int i1, .int i2] S ((fX5_copies i1 i2 S).map (fun q => ((), q))) := by
  refine jj_of (by decide) (Nat.le_of_ble_eq_true rfl) (fun E hlE hE => ?_)
  unfold fX5_copies
  refine J_sub (L' := [(0, .ref b), (1, .int i1), (2, .int i2)]) [0, 1, 2] rfl ?_
  refine J_iconst hE (v := (0 : Int32)) dd_X5_copies_0 (by decide) ?_
  refine J_istore_n hE (L' := [(3, .int (0 : Int32)), (0, .ref b), (1, .int i1), (2, .int i2)]) dd_X5_copies_1 (Nat.le_of_ble_eq_true rfl) rfl rfl ?_
  refine J_sub [1, 2, 3, 0] rfl ?_
  refine tX5_copies_L2 hv i1 i2 hE (fun p6 => ?_) 400 (0 : Int32) S
  show J V E _ _ 30 [] [] p6
  exact J_vret hE dd_X5_copies_30 rfl rfl
theorem dd_X5_keep_0 : jd cX5_keep 0 (.iload_n 1) 1 1 := ⟨by decide +kernel, rfl⟩
theorem dd_X5_keep_1 : jd cX5_keep 1 (.i2l) 1 2 := ⟨by decide +kernel, rfl⟩
theorem dd_X5_keep_2 : jd cX5_keep 2 (.lconst 0) 1 3 := ⟨by decide +kernel, rfl⟩
theorem dd_X5_keep_3 : jd cX5_keep 3 (.lconst 1) 1 4 := ⟨by decide +kernel, rfl⟩
theorem dd_X5_keep_4 : jd cX5_keep 4 (.invokestatic 71) 3 7 := ⟨by decide +kernel, rfl⟩
theorem dd_X5_keep_12 : jd cX5_keep 12 (.aload_n 0) 1 13 := ⟨by decide +kernel, rfl⟩
theorem dd_X5_keep_13 : jd cX5_keep 13 (.getfield 16) 3 16 := ⟨by decide +kernel, rfl⟩
theorem dd_X5_keep_16 : jd cX5_keep 16 (.iload_n 1) 1 17 := ⟨by decide +kernel, rfl⟩
theorem dd_X5_keep_17 : jd cX5_keep 17 (.baload) 1 18 := ⟨by decide +kernel, rfl⟩
theorem dd_X5_keep_18 : jd cX5_keep 18 (.invokestatic 129) 3 21 := ⟨by decide +kernel, rfl⟩
theorem dd_X5_keep_21 : jd cX5_keep 21 (.istore_n 2) 1 22 := ⟨by decide +kernel, rfl⟩
theorem dd_X5_keep_22 : jd cX5_keep 22 (.aload_n 0) 1 23 := ⟨by decide +kernel, rfl⟩
theorem dd_X5_keep_23 : jd cX5_keep 23 (.getfield 16) 3 26 := ⟨by decide +kernel, rfl⟩
theorem dd_X5_keep_26 : jd cX5_keep 26 (.iload_n 1) 1 27 := ⟨by decide +kernel, rfl⟩
theorem dd_X5_keep_27 : jd cX5_keep 27 (.iconst 1) 1 28 := ⟨by decide +kernel, rfl⟩
theorem dd_X5_keep_28 : jd cX5_keep 28 (.bastore) 1 29 := ⟨by decide +kernel, rfl⟩
theorem dd_X5_keep_29 : jd cX5_keep 29 (.aload_n 0) 1 30 := ⟨by decide +kernel, rfl⟩
theorem dd_X5_keep_30 : jd cX5_keep 30 (.bipush 62) 2 32 := ⟨by decide +kernel, rfl⟩
theorem dd_X5_keep_32 : jd cX5_keep 32 (.iload_n 1) 1 33 := ⟨by decide +kernel, rfl⟩
theorem dd_X5_keep_33 : jd cX5_keep 33 (.iconst 1) 1 34 := ⟨by decide +kernel, rfl⟩
theorem dd_X5_keep_34 : jd cX5_keep 34 (.iadd) 1 35 := ⟨by decide +kernel, rfl⟩
theorem dd_X5_keep_35 : jd cX5_keep 35 (.imul) 1 36 := ⟨by decide +kernel, rfl⟩
theorem dd_X5_keep_36 : jd cX5_keep 36 (.iconst 0) 1 37 := ⟨by decide +kernel, rfl⟩
theorem ml_RX5_295 : (Cond.methodLink "MothCustomsModel" 295 yX5_copies : Cond) ∈ jj_tb := jj_m (List.mem_of_getElem? (i := 1242) (by decide +kernel)) rfl
theorem dd_X5_keep_37 : jd cX5_keep 37 (.invokevirtual 295) 3 40 := ⟨by decide +kernel, rfl⟩
theorem dd_X5_keep_40 : jd cX5_keep 40 (.iload_n 2) 1 41 := ⟨by decide +kernel, rfl⟩
theorem dd_X5_keep_41 : jd cX5_keep 41 (.ireturn) 1 42 := ⟨by decide +kernel, rfl⟩
theorem dd_X5_keep_10 : jd cX5_keep 10 (.iconst (-1)) 1 11 := ⟨by decide +kernel, rfl⟩
theorem dd_X5_keep_11 : jd cX5_keep 11 (.ireturn) 1 12 := ⟨by decide +kernel, rfl⟩
theorem dd_X5_keep_7 : jd cX5_keep 7 (.ifCond .ne 5) 3 10 := ⟨by decide +kernel, rfl⟩
theorem m_X5_keep : jmV yX5_keep cX5_keep 3 (some .int) 1 := ⟨⟨(jj_m (w := Cond.code yX5_keep cX5_keep 3 (some .int)) (List.mem_of_getElem? (i := 1241) (by decide +kernel)) rfl), (jj_m (w := Cond.initialized yX5_keep.cls) (List.mem_of_getElem? (i := 69) (by decide +kernel)) rfl), ⟨by decide, by decide⟩, by decide +kernel⟩, (jj_m (w := Cond.instanceMethod yX5_keep) (List.mem_of_getElem? (i := 1239) (by decide +kernel)) rfl), (jj_m (w := Cond.selects yX5_keep.cls yX5_keep yX5_keep) (List.mem_of_getElem? (i := 1240) (by decide +kernel)) rfl)⟩
def fX5_keep (i1 : Int32) (S : M2) : Option (Int32 × M2) :=
  (fX5_in (i1.toInt64) (0 : Int64) (1 : Int64)).bind fun r1 =>
  if r1 = 0 then
    some ((-1 : Int32), S)
  else
    bnd i1 2 <|
    (fX5_flag (S 2 i1.toNatClampNeg)).bind fun r2 =>
    bnd i1 2 <|
    lt (va_up S 2 (upd (S 2) i1.toNatClampNeg (1 : Int32))) fun S3 =>
    (fX5_copies ((62 : Int32) * (i1 + (1 : Int32))) (0 : Int32) S3).bind fun q4 =>
    lt (q4) fun S5 =>
    some (r2, S5)

set_option maxHeartbeats 4000000 in
set_option maxRecDepth 100000 in
theorem tX5_keep (l : Launch) {V : JV M2} {b : Nat} {a : Nat → Nat} (hv : vX5 V b a) (S : M2) (i1 : Int32) : JC l V yX5_keep cX5_keep 3 (some .int) jj_i 1 [.ref b, .int i1] S ((fX5_keep i1 S).map (fun q => (q.1, q.2))) := by
  refine jj_of (by decide) (Nat.le_of_ble_eq_true rfl) (fun E hlE hE => ?_)
  unfold fX5_keep
  refine J_sub (L' := [(0, .ref b), (1, .int i1)]) [0, 1] rfl ?_
  refine J_iload_n hE dd_X5_keep_0 1 rfl rfl ?_
  refine J_i2l hE dd_X5_keep_1 ?_
  refine J_lconst hE (v := (0 : Int64)) dd_X5_keep_2 (by decide) ?_
  refine J_lconst hE (v := (1 : Int64)) dd_X5_keep_3 (by decide) ?_
  refine J_invSri hE (As := [.long (i1.toInt64), .long (0 : Int64), .long (1 : Int64)]) (st := []) (tX5_in E.2.1 V S (i1.toInt64) (0 : Int64) (1 : Int64)) m_X5_in s_X5_in rfl ml_RX5_71 (Nat.le_of_ble_eq_true rfl) (Nat.le_of_ble_eq_true rfl) rfl (Nat.le_of_ble_eq_true rfl) dd_X5_keep_4 (fun r1 => ?_)
  refine J_if_ne hE (tgt := 12) dd_X5_keep_7 (by decide) (fun c6 => ?_) (fun c6 => ?_)
  · refine J_aload_n hE dd_X5_keep_12 0 rfl rfl ?_
    refine J_get hE (hv.ob _) jc_X5 2 (by decide) fl_RX5_16 (v := .ref (a 2)) rfl dd_X5_keep_13 ?_
    refine J_iload_n hE dd_X5_keep_16 1 rfl rfl ?_
    refine J_zald hE (hv.arr 2 (n := 2) (ty := .boolean) (by decide) _) dd_X5_keep_17 ?_
    refine J_invSri hE (As := [.int (S 2 i1.toNatClampNeg)]) (st := []) (tX5_flag E.2.1 V S (S 2 i1.toNatClampNeg)) m_X5_flag s_X5_flag rfl ml_RX5_129 (Nat.le_of_ble_eq_true rfl) (Nat.le_of_ble_eq_true rfl) rfl (Nat.le_of_ble_eq_true rfl) dd_X5_keep_18 (fun r2 => ?_)
    refine J_istore_n hE (L' := [(2, .int r2), (0, .ref b), (1, .int i1)]) dd_X5_keep_21 (Nat.le_of_ble_eq_true rfl) rfl rfl ?_
    refine J_aload_n hE dd_X5_keep_22 1 rfl rfl ?_
    refine J_get hE (hv.ob _) jc_X5 2 (by decide) fl_RX5_16 (v := .ref (a 2)) rfl dd_X5_keep_23 ?_
    refine J_iload_n hE dd_X5_keep_26 2 rfl rfl ?_
    refine J_iconst hE (v := (1 : Int32)) dd_X5_keep_27 (by decide) ?_
    refine J_zast hE hv 2 (N := 2) (by decide) rfl dd_X5_keep_28 ?_
    refine J_letS (fun S3 => ?_)
    refine J_aload_n hE dd_X5_keep_29 1 rfl rfl ?_
    refine J_bipush hE (v := (62 : Int32)) dd_X5_keep_30 (by decide) ?_
    refine J_iload_n hE dd_X5_keep_32 2 rfl rfl ?_
    refine J_iconst hE (v := (1 : Int32)) dd_X5_keep_33 (by decide) ?_
    refine J_iadd hE dd_X5_keep_34 ?_
    refine J_imul hE dd_X5_keep_35 ?_
    refine J_iconst hE (v := (0 : Int32)) dd_X5_keep_36 (by decide) ?_
    refine J_invVwv hE (e := fun x => x) (As := [.int ((62 : Int32) * (i1 + (1 : Int32))), .int (0 : Int32)]) (st := []) (tX5_copies E.2.1 hv S3 ((62 : Int32) * (i1 + (1 : Int32))) (0 : Int32)) (hv.ob _) m_X5_copies rfl ml_RX5_295 (Nat.le_of_ble_eq_true rfl) (Nat.le_of_ble_eq_true rfl) rfl (Nat.le_of_ble_eq_true rfl) dd_X5_keep_37 (fun q4 => ?_)
    refine J_letS (fun S5 => ?_)
    refine J_iload_n hE dd_X5_keep_40 0 rfl rfl ?_
    exact J_iret hE dd_X5_keep_41 rfl rfl
  · refine J_iconst hE (v := (-1 : Int32)) dd_X5_keep_10 (by decide) ?_
    exact J_iret hE dd_X5_keep_11 rfl rfl
theorem dd_X5_back_0 : jd cX5_back 0 (.iload_n 1) 1 1 := ⟨by decide +kernel, rfl⟩
theorem dd_X5_back_1 : jd cX5_back 1 (.i2l) 1 2 := ⟨by decide +kernel, rfl⟩
theorem dd_X5_back_2 : jd cX5_back 2 (.lconst 0) 1 3 := ⟨by decide +kernel, rfl⟩
theorem dd_X5_back_3 : jd cX5_back 3 (.lconst 1) 1 4 := ⟨by decide +kernel, rfl⟩
theorem dd_X5_back_4 : jd cX5_back 4 (.invokestatic 71) 3 7 := ⟨by decide +kernel, rfl⟩
theorem dd_X5_back_12 : jd cX5_back 12 (.aload_n 0) 1 13 := ⟨by decide +kernel, rfl⟩
theorem dd_X5_back_13 : jd cX5_back 13 (.getfield 16) 3 16 := ⟨by decide +kernel, rfl⟩
theorem dd_X5_back_16 : jd cX5_back 16 (.iload_n 1) 1 17 := ⟨by decide +kernel, rfl⟩
theorem dd_X5_back_17 : jd cX5_back 17 (.baload) 1 18 := ⟨by decide +kernel, rfl⟩
theorem dd_X5_back_24 : jd cX5_back 24 (.aload_n 0) 1 25 := ⟨by decide +kernel, rfl⟩
theorem dd_X5_back_25 : jd cX5_back 25 (.iconst 0) 1 26 := ⟨by decide +kernel, rfl⟩
theorem dd_X5_back_26 : jd cX5_back 26 (.bipush 62) 2 28 := ⟨by decide +kernel, rfl⟩
theorem dd_X5_back_28 : jd cX5_back 28 (.iload_n 1) 1 29 := ⟨by decide +kernel, rfl⟩
theorem dd_X5_back_29 : jd cX5_back 29 (.iconst 1) 1 30 := ⟨by decide +kernel, rfl⟩
theorem dd_X5_back_30 : jd cX5_back 30 (.iadd) 1 31 := ⟨by decide +kernel, rfl⟩
theorem dd_X5_back_31 : jd cX5_back 31 (.imul) 1 32 := ⟨by decide +kernel, rfl⟩
theorem dd_X5_back_32 : jd cX5_back 32 (.invokevirtual 295) 3 35 := ⟨by decide +kernel, rfl⟩
theorem dd_X5_back_35 : jd cX5_back 35 (.aload_n 0) 1 36 := ⟨by decide +kernel, rfl⟩
theorem dd_X5_back_36 : jd cX5_back 36 (.getfield 7) 3 39 := ⟨by decide +kernel, rfl⟩
theorem dd_X5_back_39 : jd cX5_back 39 (.bipush 48) 2 41 := ⟨by decide +kernel, rfl⟩
theorem dd_X5_back_41 : jd cX5_back 41 (.iaload) 1 42 := ⟨by decide +kernel, rfl⟩
theorem dd_X5_back_42 : jd cX5_back 42 (.ireturn) 1 43 := ⟨by decide +kernel, rfl⟩
theorem dd_X5_back_21 : jd cX5_back 21 (.bipush (-2)) 2 23 := ⟨by decide +kernel, rfl⟩
theorem dd_X5_back_23 : jd cX5_back 23 (.ireturn) 1 24 := ⟨by decide +kernel, rfl⟩
theorem dd_X5_back_18 : jd cX5_back 18 (.ifCond .ne 6) 3 21 := ⟨by decide +kernel, rfl⟩
theorem dd_X5_back_10 : jd cX5_back 10 (.iconst (-1)) 1 11 := ⟨by decide +kernel, rfl⟩
theorem dd_X5_back_11 : jd cX5_back 11 (.ireturn) 1 12 := ⟨by decide +kernel, rfl⟩
theorem dd_X5_back_7 : jd cX5_back 7 (.ifCond .ne 5) 3 10 := ⟨by decide +kernel, rfl⟩
theorem m_X5_back : jmV yX5_back cX5_back 2 (some .int) 1 := ⟨⟨(jj_m (w := Cond.code yX5_back cX5_back 2 (some .int)) (List.mem_of_getElem? (i := 1249) (by decide +kernel)) rfl), (jj_m (w := Cond.initialized yX5_back.cls) (List.mem_of_getElem? (i := 69) (by decide +kernel)) rfl), ⟨by decide, by decide⟩, by decide +kernel⟩, (jj_m (w := Cond.instanceMethod yX5_back) (List.mem_of_getElem? (i := 1247) (by decide +kernel)) rfl), (jj_m (w := Cond.selects yX5_back.cls yX5_back yX5_back) (List.mem_of_getElem? (i := 1248) (by decide +kernel)) rfl)⟩
def fX5_back (i1 : Int32) (S : M2) : Option (Int32 × M2) :=
  (fX5_in (i1.toInt64) (0 : Int64) (1 : Int64)).bind fun r1 =>
  if r1 = 0 then
    some ((-1 : Int32), S)
  else
    bnd i1 2 <|
    if (S 2 i1.toNatClampNeg) = 0 then
      some ((-2 : Int32), S)
    else
      (fX5_copies (0 : Int32) ((62 : Int32) * (i1 + (1 : Int32))) S).bind fun q2 =>
      lt (q2) fun S3 =>
      bnd (48 : Int32) 186 <|
      some ((S3 0 (48 : Int32).toNatClampNeg), S3)

set_option maxHeartbeats 4000000 in
set_option maxRecDepth 100000 in
theorem tX5_back (l : Launch) {V : JV M2} {b : Nat} {a : Nat → Nat} (hv : vX5 V b a) (S : M2) (i1 : Int32) : JC l V yX5_back cX5_back 2 (some .int) jj_i 1 [.ref b, .int i1] S ((fX5_back i1 S).map (fun q => (q.1, q.2))) := by
  refine jj_of (by decide) (Nat.le_of_ble_eq_true rfl) (fun E hlE hE => ?_)
  unfold fX5_back
  refine J_sub (L' := [(0, .ref b), (1, .int i1)]) [0, 1] rfl ?_
  refine J_iload_n hE dd_X5_back_0 1 rfl rfl ?_
  refine J_i2l hE dd_X5_back_1 ?_
  refine J_lconst hE (v := (0 : Int64)) dd_X5_back_2 (by decide) ?_
  refine J_lconst hE (v := (1 : Int64)) dd_X5_back_3 (by decide) ?_
  refine J_invSri hE (As := [.long (i1.toInt64), .long (0 : Int64), .long (1 : Int64)]) (st := []) (tX5_in E.2.1 V S (i1.toInt64) (0 : Int64) (1 : Int64)) m_X5_in s_X5_in rfl ml_RX5_71 (Nat.le_of_ble_eq_true rfl) (Nat.le_of_ble_eq_true rfl) rfl (Nat.le_of_ble_eq_true rfl) dd_X5_back_4 (fun r1 => ?_)
  refine J_if_ne hE (tgt := 12) dd_X5_back_7 (by decide) (fun c5 => ?_) (fun c5 => ?_)
  · refine J_aload_n hE dd_X5_back_12 0 rfl rfl ?_
    refine J_get hE (hv.ob _) jc_X5 2 (by decide) fl_RX5_16 (v := .ref (a 2)) rfl dd_X5_back_13 ?_
    refine J_iload_n hE dd_X5_back_16 1 rfl rfl ?_
    refine J_zald hE (hv.arr 2 (n := 2) (ty := .boolean) (by decide) _) dd_X5_back_17 ?_
    refine J_if_ne hE (tgt := 24) dd_X5_back_18 (by decide) (fun c4 => ?_) (fun c4 => ?_)
    · refine J_aload_n hE dd_X5_back_24 0 rfl rfl ?_
      refine J_iconst hE (v := (0 : Int32)) dd_X5_back_25 (by decide) ?_
      refine J_bipush hE (v := (62 : Int32)) dd_X5_back_26 (by decide) ?_
      refine J_iload_n hE dd_X5_back_28 1 rfl rfl ?_
      refine J_iconst hE (v := (1 : Int32)) dd_X5_back_29 (by decide) ?_
      refine J_iadd hE dd_X5_back_30 ?_
      refine J_imul hE dd_X5_back_31 ?_
      refine J_invVwv hE (e := fun x => x) (As := [.int (0 : Int32), .int ((62 : Int32) * (i1 + (1 : Int32)))]) (st := []) (tX5_copies E.2.1 hv S (0 : Int32) ((62 : Int32) * (i1 + (1 : Int32)))) (hv.ob _) m_X5_copies rfl ml_RX5_295 (Nat.le_of_ble_eq_true rfl) (Nat.le_of_ble_eq_true rfl) rfl (Nat.le_of_ble_eq_true rfl) dd_X5_back_32 (fun q2 => ?_)
      refine J_letS (fun S3 => ?_)
      refine J_aload_n hE dd_X5_back_35 0 rfl rfl ?_
      refine J_get hE (hv.ob _) jc_X5 0 (by decide) fl_RX5_7 (v := .ref (a 0)) rfl dd_X5_back_36 ?_
      refine J_bipush hE (v := (48 : Int32)) dd_X5_back_39 (by decide) ?_
      refine J_ald hE (hv.arr 0 (n := 186) (ty := .int) (by decide) _) dd_X5_back_41 ?_
      exact J_iret hE dd_X5_back_42 rfl rfl
    · refine J_bipush hE (v := (-2 : Int32)) dd_X5_back_21 (by decide) ?_
      exact J_iret hE dd_X5_back_23 rfl rfl
  · refine J_iconst hE (v := (-1 : Int32)) dd_X5_back_10 (by decide) ?_
    exact J_iret hE dd_X5_back_11 rfl rfl
theorem dd_X5_sheet_0 : jd cX5_sheet 0 (.iload_n 1) 1 1 := ⟨by decide +kernel, rfl⟩
theorem dd_X5_sheet_1 : jd cX5_sheet 1 (.iload_n 2) 1 2 := ⟨by decide +kernel, rfl⟩
theorem ml_RX5_298 : (Cond.methodLink "MothCustomsModel" 298 yX5_isSheet : Cond) ∈ jj_tb := jj_m (List.mem_of_getElem? (i := 1254) (by decide +kernel)) rfl
theorem dd_X5_sheet_2 : jd cX5_sheet 2 (.invokestatic 298) 3 5 := ⟨by decide +kernel, rfl⟩
theorem dd_X5_sheet_14 : jd cX5_sheet 14 (.iconst (-1)) 1 15 := ⟨by decide +kernel, rfl⟩
theorem dd_X5_sheet_15 : jd cX5_sheet 15 (.ireturn) 1 16 := ⟨by decide +kernel, rfl⟩
theorem dd_X5_sheet_8 : jd cX5_sheet 8 (.iload_n 3) 1 9 := ⟨by decide +kernel, rfl⟩
theorem dd_X5_sheet_9 : jd cX5_sheet 9 (.bipush 40) 2 11 := ⟨by decide +kernel, rfl⟩
theorem dd_X5_sheet_16 : jd cX5_sheet 16 (.iload_n 3) 1 17 := ⟨by decide +kernel, rfl⟩
theorem dd_X5_sheet_23 : jd cX5_sheet 23 (.aload_n 0) 1 24 := ⟨by decide +kernel, rfl⟩
theorem fl_RX5_29 : (Cond.fieldLink "MothCustomsModel" 29 "MothCustomsModel" "lanes" "[I" : Cond) ∈ jj_tb := jj_m (List.mem_of_getElem? (i := 825) (by decide +kernel)) rfl
theorem dd_X5_sheet_24 : jd cX5_sheet 24 (.getfield 29) 3 27 := ⟨by decide +kernel, rfl⟩
theorem dd_X5_sheet_27 : jd cX5_sheet 27 (.iload_n 1) 1 28 := ⟨by decide +kernel, rfl⟩
theorem dd_X5_sheet_28 : jd cX5_sheet 28 (.iload_n 2) 1 29 := ⟨by decide +kernel, rfl⟩
theorem dd_X5_sheet_29 : jd cX5_sheet 29 (.iastore) 1 30 := ⟨by decide +kernel, rfl⟩
theorem dd_X5_sheet_30 : jd cX5_sheet 30 (.aload_n 0) 1 31 := ⟨by decide +kernel, rfl⟩
theorem fl_RX5_32 : (Cond.fieldLink "MothCustomsModel" 32 "MothCustomsModel" "sizes" "[I" : Cond) ∈ jj_tb := jj_m (List.mem_of_getElem? (i := 826) (by decide +kernel)) rfl
theorem dd_X5_sheet_31 : jd cX5_sheet 31 (.getfield 32) 3 34 := ⟨by decide +kernel, rfl⟩
theorem dd_X5_sheet_34 : jd cX5_sheet 34 (.iload_n 1) 1 35 := ⟨by decide +kernel, rfl⟩
theorem dd_X5_sheet_35 : jd cX5_sheet 35 (.iload_n 3) 1 36 := ⟨by decide +kernel, rfl⟩
theorem dd_X5_sheet_36 : jd cX5_sheet 36 (.iastore) 1 37 := ⟨by decide +kernel, rfl⟩
theorem dd_X5_sheet_37 : jd cX5_sheet 37 (.iconst 0) 1 38 := ⟨by decide +kernel, rfl⟩
theorem dd_X5_sheet_38 : jd cX5_sheet 38 (.istore 4) 2 40 := ⟨by decide +kernel, rfl⟩
theorem dd_X5_sheet_40 : jd cX5_sheet 40 (.iload 4) 2 42 := ⟨by decide +kernel, rfl⟩
theorem dd_X5_sheet_42 : jd cX5_sheet 42 (.bipush 40) 2 44 := ⟨by decide +kernel, rfl⟩
theorem dd_X5_sheet_47 : jd cX5_sheet 47 (.aload_n 0) 1 48 := ⟨by decide +kernel, rfl⟩
theorem fl_RX5_35 : (Cond.fieldLink "MothCustomsModel" 35 "MothCustomsModel" "cells" "[I" : Cond) ∈ jj_tb := jj_m (List.mem_of_getElem? (i := 827) (by decide +kernel)) rfl
theorem dd_X5_sheet_48 : jd cX5_sheet 48 (.getfield 35) 3 51 := ⟨by decide +kernel, rfl⟩
theorem dd_X5_sheet_51 : jd cX5_sheet 51 (.bipush 40) 2 53 := ⟨by decide +kernel, rfl⟩
theorem dd_X5_sheet_53 : jd cX5_sheet 53 (.iload_n 1) 1 54 := ⟨by decide +kernel, rfl⟩
theorem dd_X5_sheet_54 : jd cX5_sheet 54 (.imul) 1 55 := ⟨by decide +kernel, rfl⟩
theorem dd_X5_sheet_55 : jd cX5_sheet 55 (.iload 4) 2 57 := ⟨by decide +kernel, rfl⟩
theorem dd_X5_sheet_57 : jd cX5_sheet 57 (.iadd) 1 58 := ⟨by decide +kernel, rfl⟩
theorem dd_X5_sheet_58 : jd cX5_sheet 58 (.iconst 0) 1 59 := ⟨by decide +kernel, rfl⟩
theorem dd_X5_sheet_59 : jd cX5_sheet 59 (.iastore) 1 60 := ⟨by decide +kernel, rfl⟩
theorem dd_X5_sheet_60 : jd cX5_sheet 60 (.iinc 4 1) 3 63 := ⟨by decide +kernel, rfl⟩
theorem dd_X5_sheet_63 : jd cX5_sheet 63 (.goto (-23)) 3 66 := ⟨by decide +kernel, rfl⟩
theorem dd_X5_sheet_44 : jd cX5_sheet 44 (.if_icmp .ge 22) 3 47 := ⟨by decide +kernel, rfl⟩
theorem dd_X5_sheet_66 : jd cX5_sheet 66 (.iconst 1) 1 67 := ⟨by decide +kernel, rfl⟩
theorem dd_X5_sheet_67 : jd cX5_sheet 67 (.ireturn) 1 68 := ⟨by decide +kernel, rfl⟩
theorem dd_X5_sheet_20 : jd cX5_sheet 20 (.bipush (-14)) 2 22 := ⟨by decide +kernel, rfl⟩
theorem dd_X5_sheet_22 : jd cX5_sheet 22 (.ireturn) 1 23 := ⟨by decide +kernel, rfl⟩
theorem dd_X5_sheet_17 : jd cX5_sheet 17 (.ifCond .ge 6) 3 20 := ⟨by decide +kernel, rfl⟩
theorem dd_X5_sheet_11 : jd cX5_sheet 11 (.if_icmp .le 5) 3 14 := ⟨by decide +kernel, rfl⟩
theorem dd_X5_sheet_5 : jd cX5_sheet 5 (.ifCond .eq 9) 3 8 := ⟨by decide +kernel, rfl⟩
theorem m_X5_sheet : jmV yX5_sheet cX5_sheet 5 (some .int) 3 := ⟨⟨(jj_m (w := Cond.code yX5_sheet cX5_sheet 5 (some .int)) (List.mem_of_getElem? (i := 1253) (by decide +kernel)) rfl), (jj_m (w := Cond.initialized yX5_sheet.cls) (List.mem_of_getElem? (i := 69) (by decide +kernel)) rfl), ⟨by decide, by decide⟩, by decide +kernel⟩, (jj_m (w := Cond.instanceMethod yX5_sheet) (List.mem_of_getElem? (i := 1251) (by decide +kernel)) rfl), (jj_m (w := Cond.selects yX5_sheet.cls yX5_sheet yX5_sheet) (List.mem_of_getElem? (i := 1252) (by decide +kernel)) rfl)⟩
def fX5_sheet_L40 (i1 : Int32) (k66 : M2 → Option (Int32 × M2)) : Nat → Int32 → M2 → Option (Int32 × M2)
  | 0, _, _ => none
  | n_ + 1, v4, S5 =>
    if (40 : Int32) ≤ v4 then
      k66 S5
    else
      bnd (((40 : Int32) * i1) + v4) 160 <|
      lt (va_up S5 22 (upd (S5 22) (((40 : Int32) * i1) + v4).toNatClampNeg (0 : Int32))) fun S6 =>
      lt (v4 + (1 : Int32)) fun x7 =>
      fX5_sheet_L40 i1 k66 n_ x7 S6

def fX5_sheet (i1 : Int32) (i2 : Int32) (i3 : Int32) (S : M2) : Option (Int32 × M2) :=
  (fX5_isSheet i1 i2).bind fun r1 =>
  if r1 = 0 then
    some ((-1 : Int32), S)
  else
    if i3 ≤ (40 : Int32) then
      if 0 ≤ i3 then
        bnd i1 4 <|
        lt (va_up S 20 (upd (S 20) i1.toNatClampNeg i2)) fun S2 =>
        bnd i1 4 <|
        lt (va_up S2 21 (upd (S2 21) i1.toNatClampNeg i3)) fun S3 =>
        fX5_sheet_L40 i1
          (fun p9 =>
            some ((1 : Int32), p9))
          400 (0 : Int32) S3
      else
        some ((-14 : Int32), S)
    else
      some ((-1 : Int32), S)

set_option maxHeartbeats 4000000 in
set_option maxRecDepth 100000 in
theorem tX5_sheet_L40 {V : JV M2} {b : Nat} {a : Nat → Nat} (hv : vX5 V b a) (i1 : Int32) {E : JE (M2) Int32} (hE : JOk V E cX5_sheet yX5_sheet.cls 5 2 (some .int) jj_i) {k66 : M2 → Option (Int32 × M2)} (hk66 : ∀ p, J V E (fun q => (q.1, q.2)) (k66 p) 66 [] [] p) : ∀ (n_ : Nat) (v4 : Int32) (S5 : M2), J V E (fun q => (q.1, q.2)) (fX5_sheet_L40 i1 k66 n_ v4 S5) 40 [(0, .ref b), (1, .int i1), (4, .int v4)] [] S5 := by
  intro n_
  induction n_ with
  | zero =>
    intros
    exact J_none
  | succ n_ ih =>
    intros v4 S5
    rw [fX5_sheet_L40]
    refine J_iload hE dd_X5_sheet_40 2 rfl ?_
    refine J_bipush hE (v := (40 : Int32)) dd_X5_sheet_42 (by decide) ?_
    refine J_icmp_ge hE (tgt := 66) dd_X5_sheet_44 (by decide) (fun c8 => ?_) (fun c8 => ?_)
    · refine J_sub [] rfl ?_
      exact hk66 S5
    · refine J_aload_n hE dd_X5_sheet_47 0 rfl rfl ?_
      refine J_get hE (hv.ob _) jc_X5 22 (by decide) fl_RX5_35 (v := .ref (a 22)) rfl dd_X5_sheet_48 ?_
      refine J_bipush hE (v := (40 : Int32)) dd_X5_sheet_51 (by decide) ?_
      refine J_iload_n hE dd_X5_sheet_53 1 rfl rfl ?_
      refine J_imul hE dd_X5_sheet_54 ?_
      refine J_iload hE dd_X5_sheet_55 2 rfl ?_
      refine J_iadd hE dd_X5_sheet_57 ?_
      refine J_iconst hE (v := (0 : Int32)) dd_X5_sheet_58 (by decide) ?_
      refine J_ast hE hv 22 (N := 160) (by decide) dd_X5_sheet_59 ?_
      refine J_letS (fun S6 => ?_)
      refine J_iincL hE (v := (v4 + (1 : Int32))) (Lf := fun x7 => [(4, .int x7), (0, .ref b), (1, .int i1)]) dd_X5_sheet_60 (j := 2) rfl (congrArg (v4 + ·) (by decide)) (Nat.le_of_ble_eq_true rfl) (fun _ => rfl) (fun x7 => ?_)
      refine J_goto hE (tgt := 40) dd_X5_sheet_63 (by decide) ?_
      refine J_sub [1, 2, 0] rfl ?_
      exact ih x7 S6
set_option maxHeartbeats 4000000 in
set_option maxRecDepth 100000 in
theorem tX5_sheet (l : Launch) {V : JV M2} {b : Nat} {a : Nat → Nat} (hv : vX5 V b a) (S : M2) (i1 : Int32) (i2 : Int32) (i3 : Int32) : JC l V yX5_sheet cX5_sheet 5 (some .int) jj_i 2 [.ref b, .int i1, .int i2, .int i3] S ((fX5_sheet i1 i2 i3 S).map (fun q => (q.1, q.2))) := by
  refine jj_of (by decide) (Nat.le_of_ble_eq_true rfl) (fun E hlE hE => ?_)
  unfold fX5_sheet
  refine J_sub (L' := [(0, .ref b), (1, .int i1), (2, .int i2), (3, .int i3)]) [0, 1, 2, 3] rfl ?_
  refine J_iload_n hE dd_X5_sheet_0 1 rfl rfl ?_
  refine J_iload_n hE dd_X5_sheet_1 2 rfl rfl ?_
  refine J_invSri hE (As := [.int i1, .int i2]) (st := []) (tX5_isSheet E.2.1 V S i1 i2) m_X5_isSheet s_X5_isSheet rfl ml_RX5_298 (Nat.le_of_ble_eq_true rfl) (Nat.le_of_ble_eq_true rfl) rfl (Nat.le_of_ble_eq_true rfl) dd_X5_sheet_2 (fun r1 => ?_)
  refine J_if_eq hE (tgt := 14) dd_X5_sheet_5 (by decide) (fun c12 => ?_) (fun c12 => ?_)
  · refine J_iconst hE (v := (-1 : Int32)) dd_X5_sheet_14 (by decide) ?_
    exact J_iret hE dd_X5_sheet_15 rfl rfl
  · refine J_iload_n hE dd_X5_sheet_8 3 rfl rfl ?_
    refine J_bipush hE (v := (40 : Int32)) dd_X5_sheet_9 (by decide) ?_
    refine J_icmp_le hE (tgt := 16) dd_X5_sheet_11 (by decide) (fun c11 => ?_) (fun c11 => ?_)
    · refine J_iload_n hE dd_X5_sheet_16 3 rfl rfl ?_
      refine J_if_ge hE (tgt := 23) dd_X5_sheet_17 (by decide) (fun c10 => ?_) (fun c10 => ?_)
      · refine J_aload_n hE dd_X5_sheet_23 0 rfl rfl ?_
        refine J_get hE (hv.ob _) jc_X5 20 (by decide) fl_RX5_29 (v := .ref (a 20)) rfl dd_X5_sheet_24 ?_
        refine J_iload_n hE dd_X5_sheet_27 1 rfl rfl ?_
        refine J_iload_n hE dd_X5_sheet_28 2 rfl rfl ?_
        refine J_ast hE hv 20 (N := 4) (by decide) dd_X5_sheet_29 ?_
        refine J_letS (fun S2 => ?_)
        refine J_aload_n hE dd_X5_sheet_30 0 rfl rfl ?_
        refine J_get hE (hv.ob _) jc_X5 21 (by decide) fl_RX5_32 (v := .ref (a 21)) rfl dd_X5_sheet_31 ?_
        refine J_iload_n hE dd_X5_sheet_34 1 rfl rfl ?_
        refine J_iload_n hE dd_X5_sheet_35 3 rfl rfl ?_
        refine J_ast hE hv 21 (N := 4) (by decide) dd_X5_sheet_36 ?_
        refine J_letS (fun S3 => ?_)
        refine J_iconst hE (v := (0 : Int32)) dd_X5_sheet_37 (by decide) ?_
        refine J_istore hE (L' := [(4, .int (0 : Int32)), (0, .ref b), (1, .int i1), (2, .int i2), (3, .int i3)]) dd_X5_sheet_38 (Nat.le_of_ble_eq_true rfl) rfl ?_
        refine J_sub [1, 2, 0] rfl ?_
        refine tX5_sheet_L40 hv i1 hE (fun p9 => ?_) 400 (0 : Int32) S3
        show J V E _ _ 66 [] [] p9
        refine J_iconst hE (v := (1 : Int32)) dd_X5_sheet_66 (by decide) ?_
        exact J_iret hE dd_X5_sheet_67 rfl rfl
      · refine J_bipush hE (v := (-14 : Int32)) dd_X5_sheet_20 (by decide) ?_
        exact J_iret hE dd_X5_sheet_22 rfl rfl
    · refine J_iconst hE (v := (-1 : Int32)) dd_X5_sheet_14 (by decide) ?_
      exact J_iret hE dd_X5_sheet_15 rfl rfl
theorem dd_X5_lay_0 : jd cX5_lay 0 (.iload_n 1) 1 1 := ⟨by decide +kernel, rfl⟩
theorem dd_X5_lay_1 : jd cX5_lay 1 (.iconst 0) 1 2 := ⟨by decide +kernel, rfl⟩
theorem dd_X5_lay_2 : jd cX5_lay 2 (.invokestatic 298) 3 5 := ⟨by decide +kernel, rfl⟩
theorem dd_X5_lay_10 : jd cX5_lay 10 (.aload_n 0) 1 11 := ⟨by decide +kernel, rfl⟩
theorem dd_X5_lay_11 : jd cX5_lay 11 (.getfield 29) 3 14 := ⟨by decide +kernel, rfl⟩
theorem dd_X5_lay_14 : jd cX5_lay 14 (.iload_n 1) 1 15 := ⟨by decide +kernel, rfl⟩
theorem dd_X5_lay_15 : jd cX5_lay 15 (.iaload) 1 16 := ⟨by decide +kernel, rfl⟩
theorem dd_X5_lay_16 : jd cX5_lay 16 (.bipush (-4)) 2 18 := ⟨by decide +kernel, rfl⟩
theorem dd_X5_lay_24 : jd cX5_lay 24 (.iload_n 2) 1 25 := ⟨by decide +kernel, rfl⟩
theorem dd_X5_lay_25 : jd cX5_lay 25 (.i2l) 1 26 := ⟨by decide +kernel, rfl⟩
theorem dd_X5_lay_26 : jd cX5_lay 26 (.lconst 0) 1 27 := ⟨by decide +kernel, rfl⟩
theorem dd_X5_lay_27 : jd cX5_lay 27 (.aload_n 0) 1 28 := ⟨by decide +kernel, rfl⟩
theorem dd_X5_lay_28 : jd cX5_lay 28 (.getfield 32) 3 31 := ⟨by decide +kernel, rfl⟩
theorem dd_X5_lay_31 : jd cX5_lay 31 (.iload_n 1) 1 32 := ⟨by decide +kernel, rfl⟩
theorem dd_X5_lay_32 : jd cX5_lay 32 (.iaload) 1 33 := ⟨by decide +kernel, rfl⟩
theorem dd_X5_lay_33 : jd cX5_lay 33 (.iconst 1) 1 34 := ⟨by decide +kernel, rfl⟩
theorem dd_X5_lay_34 : jd cX5_lay 34 (.isub) 1 35 := ⟨by decide +kernel, rfl⟩
theorem dd_X5_lay_35 : jd cX5_lay 35 (.i2l) 1 36 := ⟨by decide +kernel, rfl⟩
theorem dd_X5_lay_36 : jd cX5_lay 36 (.invokestatic 71) 3 39 := ⟨by decide +kernel, rfl⟩
theorem dd_X5_lay_45 : jd cX5_lay 45 (.aload_n 0) 1 46 := ⟨by decide +kernel, rfl⟩
theorem dd_X5_lay_46 : jd cX5_lay 46 (.getfield 35) 3 49 := ⟨by decide +kernel, rfl⟩
theorem dd_X5_lay_49 : jd cX5_lay 49 (.bipush 40) 2 51 := ⟨by decide +kernel, rfl⟩
theorem dd_X5_lay_51 : jd cX5_lay 51 (.iload_n 1) 1 52 := ⟨by decide +kernel, rfl⟩
theorem dd_X5_lay_52 : jd cX5_lay 52 (.imul) 1 53 := ⟨by decide +kernel, rfl⟩
theorem dd_X5_lay_53 : jd cX5_lay 53 (.iload_n 2) 1 54 := ⟨by decide +kernel, rfl⟩
theorem dd_X5_lay_54 : jd cX5_lay 54 (.iadd) 1 55 := ⟨by decide +kernel, rfl⟩
theorem dd_X5_lay_55 : jd cX5_lay 55 (.aload_n 0) 1 56 := ⟨by decide +kernel, rfl⟩
theorem dd_X5_lay_56 : jd cX5_lay 56 (.getfield 29) 3 59 := ⟨by decide +kernel, rfl⟩
theorem dd_X5_lay_59 : jd cX5_lay 59 (.iload_n 1) 1 60 := ⟨by decide +kernel, rfl⟩
theorem dd_X5_lay_60 : jd cX5_lay 60 (.iaload) 1 61 := ⟨by decide +kernel, rfl⟩
theorem dd_X5_lay_69 : jd cX5_lay 69 (.aload_n 0) 1 70 := ⟨by decide +kernel, rfl⟩
theorem dd_X5_lay_70 : jd cX5_lay 70 (.getfield 29) 3 73 := ⟨by decide +kernel, rfl⟩
theorem dd_X5_lay_73 : jd cX5_lay 73 (.iload_n 1) 1 74 := ⟨by decide +kernel, rfl⟩
theorem dd_X5_lay_74 : jd cX5_lay 74 (.iaload) 1 75 := ⟨by decide +kernel, rfl⟩
theorem dd_X5_lay_75 : jd cX5_lay 75 (.iconst 1) 1 76 := ⟨by decide +kernel, rfl⟩
theorem dd_X5_lay_84 : jd cX5_lay 84 (.iload_n 3) 1 85 := ⟨by decide +kernel, rfl⟩
theorem dd_X5_lay_85 : jd cX5_lay 85 (.iastore) 1 86 := ⟨by decide +kernel, rfl⟩
theorem dd_X5_lay_86 : jd cX5_lay 86 (.iconst 1) 1 87 := ⟨by decide +kernel, rfl⟩
theorem dd_X5_lay_87 : jd cX5_lay 87 (.ireturn) 1 88 := ⟨by decide +kernel, rfl⟩
theorem dd_X5_lay_79 : jd cX5_lay 79 (.iload_n 3) 1 80 := ⟨by decide +kernel, rfl⟩
theorem dd_X5_lay_80 : jd cX5_lay 80 (.i2s) 1 81 := ⟨by decide +kernel, rfl⟩
theorem dd_X5_lay_81 : jd cX5_lay 81 (.goto 4) 3 84 := ⟨by decide +kernel, rfl⟩
theorem dd_X5_lay_76 : jd cX5_lay 76 (.if_icmp .ne 8) 3 79 := ⟨by decide +kernel, rfl⟩
theorem dd_X5_lay_64 : jd cX5_lay 64 (.iload_n 3) 1 65 := ⟨by decide +kernel, rfl⟩
theorem dd_X5_lay_65 : jd cX5_lay 65 (.i2b) 1 66 := ⟨by decide +kernel, rfl⟩
theorem dd_X5_lay_66 : jd cX5_lay 66 (.goto 19) 3 69 := ⟨by decide +kernel, rfl⟩
theorem dd_X5_lay_61 : jd cX5_lay 61 (.ifCond .ne 8) 3 64 := ⟨by decide +kernel, rfl⟩
theorem dd_X5_lay_42 : jd cX5_lay 42 (.bipush (-12)) 2 44 := ⟨by decide +kernel, rfl⟩
theorem dd_X5_lay_44 : jd cX5_lay 44 (.ireturn) 1 45 := ⟨by decide +kernel, rfl⟩
theorem dd_X5_lay_39 : jd cX5_lay 39 (.ifCond .ne 6) 3 42 := ⟨by decide +kernel, rfl⟩
theorem dd_X5_lay_21 : jd cX5_lay 21 (.bipush (-11)) 2 23 := ⟨by decide +kernel, rfl⟩
theorem dd_X5_lay_23 : jd cX5_lay 23 (.ireturn) 1 24 := ⟨by decide +kernel, rfl⟩
theorem dd_X5_lay_18 : jd cX5_lay 18 (.if_icmp .ne 6) 3 21 := ⟨by decide +kernel, rfl⟩
theorem dd_X5_lay_8 : jd cX5_lay 8 (.iconst (-1)) 1 9 := ⟨by decide +kernel, rfl⟩
theorem dd_X5_lay_9 : jd cX5_lay 9 (.ireturn) 1 10 := ⟨by decide +kernel, rfl⟩
theorem dd_X5_lay_5 : jd cX5_lay 5 (.ifCond .ne 5) 3 8 := ⟨by decide +kernel, rfl⟩
theorem m_X5_lay : jmV yX5_lay cX5_lay 4 (some .int) 3 := ⟨⟨(jj_m (w := Cond.code yX5_lay cX5_lay 4 (some .int)) (List.mem_of_getElem? (i := 1260) (by decide +kernel)) rfl), (jj_m (w := Cond.initialized yX5_lay.cls) (List.mem_of_getElem? (i := 69) (by decide +kernel)) rfl), ⟨by decide, by decide⟩, by decide +kernel⟩, (jj_m (w := Cond.instanceMethod yX5_lay) (List.mem_of_getElem? (i := 1258) (by decide +kernel)) rfl), (jj_m (w := Cond.selects yX5_lay.cls yX5_lay yX5_lay) (List.mem_of_getElem? (i := 1259) (by decide +kernel)) rfl)⟩
def fX5_lay (i1 : Int32) (i2 : Int32) (i3 : Int32) (S : M2) : Option (Int32 × M2) :=
  (fX5_isSheet i1 (0 : Int32)).bind fun r1 =>
  if r1 = 0 then
    some ((-1 : Int32), S)
  else
    bnd i1 4 <|
    if (S 20 i1.toNatClampNeg) = (-4 : Int32) then
      some ((-11 : Int32), S)
    else
      bnd i1 4 <|
      (fX5_in (i2.toInt64) (0 : Int64) (((S 21 i1.toNatClampNeg) - (1 : Int32)).toInt64)).bind fun r2 =>
      if r2 = 0 then
        some ((-12 : Int32), S)
      else
        bnd i1 4 <|
        if (S 20 i1.toNatClampNeg) = 0 then
          bnd (((40 : Int32) * i1) + i2) 160 <|
          lt (va_up S 22 (upd (S 22) (((40 : Int32) * i1) + i2).toNatClampNeg (i3.toInt8.toInt32))) fun S6 =>
          some ((1 : Int32), S6)
        else
          bnd i1 4 <|
          if (S 20 i1.toNatClampNeg) = (1 : Int32) then
            bnd (((40 : Int32) * i1) + i2) 160 <|
            lt (va_up S 22 (upd (S 22) (((40 : Int32) * i1) + i2).toNatClampNeg (i3.toInt16.toInt32))) fun S4 =>
            some ((1 : Int32), S4)
          else
            bnd (((40 : Int32) * i1) + i2) 160 <|
            lt (va_up S 22 (upd (S 22) (((40 : Int32) * i1) + i2).toNatClampNeg i3)) fun S3 =>
            some ((1 : Int32), S3)

set_option maxHeartbeats 4000000 in
set_option maxRecDepth 100000 in
theorem tX5_lay (l : Launch) {V : JV M2} {b : Nat} {a : Nat → Nat} (hv : vX5 V b a) (S : M2) (i1 : Int32) (i2 : Int32) (i3 : Int32) : JC l V yX5_lay cX5_lay 4 (some .int) jj_i 2 [.ref b, .int i1, .int i2, .int i3] S ((fX5_lay i1 i2 i3 S).map (fun q => (q.1, q.2))) := by
  refine jj_of (by decide) (Nat.le_of_ble_eq_true rfl) (fun E hlE hE => ?_)
  unfold fX5_lay
  refine J_sub (L' := [(0, .ref b), (1, .int i1), (2, .int i2), (3, .int i3)]) [0, 1, 2, 3] rfl ?_
  refine J_iload_n hE dd_X5_lay_0 1 rfl rfl ?_
  refine J_iconst hE (v := (0 : Int32)) dd_X5_lay_1 (by decide) ?_
  refine J_invSri hE (As := [.int i1, .int (0 : Int32)]) (st := []) (tX5_isSheet E.2.1 V S i1 (0 : Int32)) m_X5_isSheet s_X5_isSheet rfl ml_RX5_298 (Nat.le_of_ble_eq_true rfl) (Nat.le_of_ble_eq_true rfl) rfl (Nat.le_of_ble_eq_true rfl) dd_X5_lay_2 (fun r1 => ?_)
  refine J_if_ne hE (tgt := 10) dd_X5_lay_5 (by decide) (fun c10 => ?_) (fun c10 => ?_)
  · refine J_aload_n hE dd_X5_lay_10 0 rfl rfl ?_
    refine J_get hE (hv.ob _) jc_X5 20 (by decide) fl_RX5_29 (v := .ref (a 20)) rfl dd_X5_lay_11 ?_
    refine J_iload_n hE dd_X5_lay_14 1 rfl rfl ?_
    refine J_ald hE (hv.arr 20 (n := 4) (ty := .int) (by decide) _) dd_X5_lay_15 ?_
    refine J_bipush hE (v := (-4 : Int32)) dd_X5_lay_16 (by decide) ?_
    refine J_icmp_ne hE (tgt := 24) dd_X5_lay_18 (by decide) (fun c9 => ?_) (fun c9 => ?_)
    · refine J_iload_n hE dd_X5_lay_24 2 rfl rfl ?_
      refine J_i2l hE dd_X5_lay_25 ?_
      refine J_lconst hE (v := (0 : Int64)) dd_X5_lay_26 (by decide) ?_
      refine J_aload_n hE dd_X5_lay_27 0 rfl rfl ?_
      refine J_get hE (hv.ob _) jc_X5 21 (by decide) fl_RX5_32 (v := .ref (a 21)) rfl dd_X5_lay_28 ?_
      refine J_iload_n hE dd_X5_lay_31 1 rfl rfl ?_
      refine J_ald hE (hv.arr 21 (n := 4) (ty := .int) (by decide) _) dd_X5_lay_32 ?_
      refine J_iconst hE (v := (1 : Int32)) dd_X5_lay_33 (by decide) ?_
      refine J_isub hE dd_X5_lay_34 ?_
      refine J_i2l hE dd_X5_lay_35 ?_
      refine J_invSri hE (As := [.long (i2.toInt64), .long (0 : Int64), .long (((S 21 i1.toNatClampNeg) - (1 : Int32)).toInt64)]) (st := []) (tX5_in E.2.1 V S (i2.toInt64) (0 : Int64) (((S 21 i1.toNatClampNeg) - (1 : Int32)).toInt64)) m_X5_in s_X5_in rfl ml_RX5_71 (Nat.le_of_ble_eq_true rfl) (Nat.le_of_ble_eq_true rfl) rfl (Nat.le_of_ble_eq_true rfl) dd_X5_lay_36 (fun r2 => ?_)
      refine J_if_ne hE (tgt := 45) dd_X5_lay_39 (by decide) (fun c8 => ?_) (fun c8 => ?_)
      · refine J_aload_n hE dd_X5_lay_45 0 rfl rfl ?_
        refine J_get hE (hv.ob _) jc_X5 22 (by decide) fl_RX5_35 (v := .ref (a 22)) rfl dd_X5_lay_46 ?_
        refine J_bipush hE (v := (40 : Int32)) dd_X5_lay_49 (by decide) ?_
        refine J_iload_n hE dd_X5_lay_51 1 rfl rfl ?_
        refine J_imul hE dd_X5_lay_52 ?_
        refine J_iload_n hE dd_X5_lay_53 2 rfl rfl ?_
        refine J_iadd hE dd_X5_lay_54 ?_
        refine J_aload_n hE dd_X5_lay_55 0 rfl rfl ?_
        refine J_get hE (hv.ob _) jc_X5 20 (by decide) fl_RX5_29 (v := .ref (a 20)) rfl dd_X5_lay_56 ?_
        refine J_iload_n hE dd_X5_lay_59 1 rfl rfl ?_
        refine J_ald hE (hv.arr 20 (n := 4) (ty := .int) (by decide) _) dd_X5_lay_60 ?_
        refine J_if_ne hE (tgt := 69) dd_X5_lay_61 (by decide) (fun c7 => ?_) (fun c7 => ?_)
        · refine J_aload_n hE dd_X5_lay_69 0 rfl rfl ?_
          refine J_get hE (hv.ob _) jc_X5 20 (by decide) fl_RX5_29 (v := .ref (a 20)) rfl dd_X5_lay_70 ?_
          refine J_iload_n hE dd_X5_lay_73 1 rfl rfl ?_
          refine J_ald hE (hv.arr 20 (n := 4) (ty := .int) (by decide) _) dd_X5_lay_74 ?_
          refine J_iconst hE (v := (1 : Int32)) dd_X5_lay_75 (by decide) ?_
          refine J_icmp_ne hE (tgt := 84) dd_X5_lay_76 (by decide) (fun c5 => ?_) (fun c5 => ?_)
          · refine J_iload_n hE dd_X5_lay_84 3 rfl rfl ?_
            refine J_ast hE hv 22 (N := 160) (by decide) dd_X5_lay_85 ?_
            refine J_letS (fun S3 => ?_)
            refine J_iconst hE (v := (1 : Int32)) dd_X5_lay_86 (by decide) ?_
            exact J_iret hE dd_X5_lay_87 rfl rfl
          · refine J_iload_n hE dd_X5_lay_79 3 rfl rfl ?_
            refine J_i2s hE dd_X5_lay_80 ?_
            refine J_goto hE (tgt := 85) dd_X5_lay_81 (by decide) ?_
            refine J_ast hE hv 22 (N := 160) (by decide) dd_X5_lay_85 ?_
            refine J_letS (fun S4 => ?_)
            refine J_iconst hE (v := (1 : Int32)) dd_X5_lay_86 (by decide) ?_
            exact J_iret hE dd_X5_lay_87 rfl rfl
        · refine J_iload_n hE dd_X5_lay_64 3 rfl rfl ?_
          refine J_i2b hE dd_X5_lay_65 ?_
          refine J_goto hE (tgt := 85) dd_X5_lay_66 (by decide) ?_
          refine J_ast hE hv 22 (N := 160) (by decide) dd_X5_lay_85 ?_
          refine J_letS (fun S6 => ?_)
          refine J_iconst hE (v := (1 : Int32)) dd_X5_lay_86 (by decide) ?_
          exact J_iret hE dd_X5_lay_87 rfl rfl
      · refine J_bipush hE (v := (-12 : Int32)) dd_X5_lay_42 (by decide) ?_
        exact J_iret hE dd_X5_lay_44 rfl rfl
    · refine J_bipush hE (v := (-11 : Int32)) dd_X5_lay_21 (by decide) ?_
      exact J_iret hE dd_X5_lay_23 rfl rfl
  · refine J_iconst hE (v := (-1 : Int32)) dd_X5_lay_8 (by decide) ?_
    exact J_iret hE dd_X5_lay_9 rfl rfl
theorem dd_X5_read_0 : jd cX5_read 0 (.iload_n 1) 1 1 := ⟨by decide +kernel, rfl⟩
theorem dd_X5_read_1 : jd cX5_read 1 (.iload_n 2) 1 2 := ⟨by decide +kernel, rfl⟩
theorem dd_X5_read_2 : jd cX5_read 2 (.invokestatic 298) 3 5 := ⟨by decide +kernel, rfl⟩
theorem dd_X5_read_21 : jd cX5_read 21 (.iconst (-1)) 1 22 := ⟨by decide +kernel, rfl⟩
theorem dd_X5_read_22 : jd cX5_read 22 (.ireturn) 1 23 := ⟨by decide +kernel, rfl⟩
theorem dd_X5_read_8 : jd cX5_read 8 (.iload 4) 2 10 := ⟨by decide +kernel, rfl⟩
theorem dd_X5_read_10 : jd cX5_read 10 (.i2l) 1 11 := ⟨by decide +kernel, rfl⟩
theorem dd_X5_read_11 : jd cX5_read 11 (.lconst 0) 1 12 := ⟨by decide +kernel, rfl⟩
theorem dd_X5_read_12 : jd cX5_read 12 (.ldc2_w 242) 3 15 := ⟨by decide +kernel, rfl⟩
theorem dd_X5_read_15 : jd cX5_read 15 (.invokestatic 71) 3 18 := ⟨by decide +kernel, rfl⟩
theorem dd_X5_read_23 : jd cX5_read 23 (.iconst 0) 1 24 := ⟨by decide +kernel, rfl⟩
theorem dd_X5_read_24 : jd cX5_read 24 (.istore 5) 2 26 := ⟨by decide +kernel, rfl⟩
theorem dd_X5_read_26 : jd cX5_read 26 (.iload 5) 2 28 := ⟨by decide +kernel, rfl⟩
theorem dd_X5_read_28 : jd cX5_read 28 (.bipush 62) 2 30 := ⟨by decide +kernel, rfl⟩
theorem dd_X5_read_33 : jd cX5_read 33 (.aload_n 0) 1 34 := ⟨by decide +kernel, rfl⟩
theorem fl_RX5_38 : (Cond.fieldLink "MothCustomsModel" 38 "MothCustomsModel" "had" "[I" : Cond) ∈ jj_tb := jj_m (List.mem_of_getElem? (i := 829) (by decide +kernel)) rfl
theorem dd_X5_read_34 : jd cX5_read 34 (.getfield 38) 3 37 := ⟨by decide +kernel, rfl⟩
theorem dd_X5_read_37 : jd cX5_read 37 (.iload 5) 2 39 := ⟨by decide +kernel, rfl⟩
theorem dd_X5_read_39 : jd cX5_read 39 (.aload_n 0) 1 40 := ⟨by decide +kernel, rfl⟩
theorem dd_X5_read_40 : jd cX5_read 40 (.getfield 7) 3 43 := ⟨by decide +kernel, rfl⟩
theorem dd_X5_read_43 : jd cX5_read 43 (.iload 5) 2 45 := ⟨by decide +kernel, rfl⟩
theorem dd_X5_read_45 : jd cX5_read 45 (.iaload) 1 46 := ⟨by decide +kernel, rfl⟩
theorem dd_X5_read_46 : jd cX5_read 46 (.iastore) 1 47 := ⟨by decide +kernel, rfl⟩
theorem dd_X5_read_47 : jd cX5_read 47 (.iinc 5 1) 3 50 := ⟨by decide +kernel, rfl⟩
theorem dd_X5_read_50 : jd cX5_read 50 (.goto (-24)) 3 53 := ⟨by decide +kernel, rfl⟩
theorem dd_X5_read_30 : jd cX5_read 30 (.if_icmp .ge 23) 3 33 := ⟨by decide +kernel, rfl⟩
theorem dd_X5_read_53 : jd cX5_read 53 (.iconst 0) 1 54 := ⟨by decide +kernel, rfl⟩
theorem dd_X5_read_54 : jd cX5_read 54 (.istore 5) 2 56 := ⟨by decide +kernel, rfl⟩
theorem dd_X5_read_56 : jd cX5_read 56 (.iconst 0) 1 57 := ⟨by decide +kernel, rfl⟩
theorem dd_X5_read_57 : jd cX5_read 57 (.istore 6) 2 59 := ⟨by decide +kernel, rfl⟩
theorem dd_X5_read_59 : jd cX5_read 59 (.iconst 0) 1 60 := ⟨by decide +kernel, rfl⟩
theorem dd_X5_read_60 : jd cX5_read 60 (.istore 7) 2 62 := ⟨by decide +kernel, rfl⟩
theorem dd_X5_read_62 : jd cX5_read 62 (.iload 7) 2 64 := ⟨by decide +kernel, rfl⟩
theorem dd_X5_read_64 : jd cX5_read 64 (.iload 4) 2 66 := ⟨by decide +kernel, rfl⟩
theorem dd_X5_read_69 : jd cX5_read 69 (.iload 5) 2 71 := ⟨by decide +kernel, rfl⟩
theorem dd_X5_read_74 : jd cX5_read 74 (.iconst 0) 1 75 := ⟨by decide +kernel, rfl⟩
theorem dd_X5_read_75 : jd cX5_read 75 (.istore 8) 2 77 := ⟨by decide +kernel, rfl⟩
theorem dd_X5_read_77 : jd cX5_read 77 (.iload 8) 2 79 := ⟨by decide +kernel, rfl⟩
theorem dd_X5_read_79 : jd cX5_read 79 (.iconst 2) 1 80 := ⟨by decide +kernel, rfl⟩
theorem dd_X5_read_83 : jd cX5_read 83 (.iload 5) 2 85 := ⟨by decide +kernel, rfl⟩
theorem dd_X5_read_88 : jd cX5_read 88 (.iload_n 3) 1 89 := ⟨by decide +kernel, rfl⟩
theorem dd_X5_read_89 : jd cX5_read 89 (.i2l) 1 90 := ⟨by decide +kernel, rfl⟩
theorem dd_X5_read_90 : jd cX5_read 90 (.iconst 2) 1 91 := ⟨by decide +kernel, rfl⟩
theorem dd_X5_read_91 : jd cX5_read 91 (.iload 7) 2 93 := ⟨by decide +kernel, rfl⟩
theorem dd_X5_read_93 : jd cX5_read 93 (.imul) 1 94 := ⟨by decide +kernel, rfl⟩
theorem dd_X5_read_94 : jd cX5_read 94 (.i2l) 1 95 := ⟨by decide +kernel, rfl⟩
theorem dd_X5_read_95 : jd cX5_read 95 (.ladd) 1 96 := ⟨by decide +kernel, rfl⟩
theorem dd_X5_read_96 : jd cX5_read 96 (.iload 8) 2 98 := ⟨by decide +kernel, rfl⟩
theorem dd_X5_read_98 : jd cX5_read 98 (.i2l) 1 99 := ⟨by decide +kernel, rfl⟩
theorem dd_X5_read_99 : jd cX5_read 99 (.ladd) 1 100 := ⟨by decide +kernel, rfl⟩
theorem dd_X5_read_100 : jd cX5_read 100 (.lstore 9) 2 102 := ⟨by decide +kernel, rfl⟩
theorem dd_X5_read_102 : jd cX5_read 102 (.aload_n 0) 1 103 := ⟨by decide +kernel, rfl⟩
theorem dd_X5_read_103 : jd cX5_read 103 (.getfield 29) 3 106 := ⟨by decide +kernel, rfl⟩
theorem dd_X5_read_106 : jd cX5_read 106 (.iload_n 1) 1 107 := ⟨by decide +kernel, rfl⟩
theorem dd_X5_read_107 : jd cX5_read 107 (.iaload) 1 108 := ⟨by decide +kernel, rfl⟩
theorem dd_X5_read_108 : jd cX5_read 108 (.bipush (-4)) 2 110 := ⟨by decide +kernel, rfl⟩
theorem dd_X5_read_117 : jd cX5_read 117 (.aload_n 0) 1 118 := ⟨by decide +kernel, rfl⟩
theorem dd_X5_read_118 : jd cX5_read 118 (.getfield 29) 3 121 := ⟨by decide +kernel, rfl⟩
theorem dd_X5_read_121 : jd cX5_read 121 (.iload_n 1) 1 122 := ⟨by decide +kernel, rfl⟩
theorem dd_X5_read_122 : jd cX5_read 122 (.iaload) 1 123 := ⟨by decide +kernel, rfl⟩
theorem dd_X5_read_123 : jd cX5_read 123 (.iload_n 2) 1 124 := ⟨by decide +kernel, rfl⟩
theorem dd_X5_read_131 : jd cX5_read 131 (.lload 9) 2 133 := ⟨by decide +kernel, rfl⟩
theorem dd_X5_read_133 : jd cX5_read 133 (.lconst 0) 1 134 := ⟨by decide +kernel, rfl⟩
theorem dd_X5_read_134 : jd cX5_read 134 (.lcmp) 1 135 := ⟨by decide +kernel, rfl⟩
theorem dd_X5_read_138 : jd cX5_read 138 (.lload 9) 2 140 := ⟨by decide +kernel, rfl⟩
theorem dd_X5_read_140 : jd cX5_read 140 (.aload_n 0) 1 141 := ⟨by decide +kernel, rfl⟩
theorem dd_X5_read_141 : jd cX5_read 141 (.getfield 32) 3 144 := ⟨by decide +kernel, rfl⟩
theorem dd_X5_read_144 : jd cX5_read 144 (.iload_n 1) 1 145 := ⟨by decide +kernel, rfl⟩
theorem dd_X5_read_145 : jd cX5_read 145 (.iaload) 1 146 := ⟨by decide +kernel, rfl⟩
theorem dd_X5_read_146 : jd cX5_read 146 (.i2l) 1 147 := ⟨by decide +kernel, rfl⟩
theorem dd_X5_read_147 : jd cX5_read 147 (.lcmp) 1 148 := ⟨by decide +kernel, rfl⟩
theorem dd_X5_read_155 : jd cX5_read 155 (.iconst 0) 1 156 := ⟨by decide +kernel, rfl⟩
theorem dd_X5_read_148 : jd cX5_read 148 (.ifCond .lt 7) 3 151 := ⟨by decide +kernel, rfl⟩
theorem dd_X5_read_135 : jd cX5_read 135 (.ifCond .lt 16) 3 138 := ⟨by decide +kernel, rfl⟩
theorem dd_X5_read_151 : jd cX5_read 151 (.iconst 2) 1 152 := ⟨by decide +kernel, rfl⟩
theorem dd_X5_read_152 : jd cX5_read 152 (.goto 4) 3 155 := ⟨by decide +kernel, rfl⟩
theorem dd_X5_read_127 : jd cX5_read 127 (.iconst 3) 1 128 := ⟨by decide +kernel, rfl⟩
theorem dd_X5_read_128 : jd cX5_read 128 (.goto 28) 3 131 := ⟨by decide +kernel, rfl⟩
theorem dd_X5_read_124 : jd cX5_read 124 (.if_icmp .eq 7) 3 127 := ⟨by decide +kernel, rfl⟩
theorem dd_X5_read_113 : jd cX5_read 113 (.iconst 1) 1 114 := ⟨by decide +kernel, rfl⟩
theorem dd_X5_read_114 : jd cX5_read 114 (.goto 42) 3 117 := ⟨by decide +kernel, rfl⟩
theorem dd_X5_read_110 : jd cX5_read 110 (.if_icmp .ne 7) 3 113 := ⟨by decide +kernel, rfl⟩
theorem dd_X5_read_156 : jd cX5_read 156 (.istore 5) 2 158 := ⟨by decide +kernel, rfl⟩
theorem dd_X5_read_158 : jd cX5_read 158 (.iinc 8 1) 3 161 := ⟨by decide +kernel, rfl⟩
theorem dd_X5_read_161 : jd cX5_read 161 (.goto (-84)) 3 164 := ⟨by decide +kernel, rfl⟩
theorem dd_X5_read_85 : jd cX5_read 85 (.ifCond .ne 79) 3 88 := ⟨by decide +kernel, rfl⟩
theorem dd_X5_read_80 : jd cX5_read 80 (.if_icmp .ge 84) 3 83 := ⟨by decide +kernel, rfl⟩
theorem dd_X5_read_164 : jd cX5_read 164 (.iload 5) 2 166 := ⟨by decide +kernel, rfl⟩
theorem dd_X5_read_169 : jd cX5_read 169 (.bipush 40) 2 171 := ⟨by decide +kernel, rfl⟩
theorem dd_X5_read_171 : jd cX5_read 171 (.iload_n 1) 1 172 := ⟨by decide +kernel, rfl⟩
theorem dd_X5_read_172 : jd cX5_read 172 (.imul) 1 173 := ⟨by decide +kernel, rfl⟩
theorem dd_X5_read_173 : jd cX5_read 173 (.iload_n 3) 1 174 := ⟨by decide +kernel, rfl⟩
theorem dd_X5_read_174 : jd cX5_read 174 (.iadd) 1 175 := ⟨by decide +kernel, rfl⟩
theorem dd_X5_read_175 : jd cX5_read 175 (.iconst 2) 1 176 := ⟨by decide +kernel, rfl⟩
theorem dd_X5_read_176 : jd cX5_read 176 (.iload 7) 2 178 := ⟨by decide +kernel, rfl⟩
theorem dd_X5_read_178 : jd cX5_read 178 (.imul) 1 179 := ⟨by decide +kernel, rfl⟩
theorem dd_X5_read_179 : jd cX5_read 179 (.iadd) 1 180 := ⟨by decide +kernel, rfl⟩
theorem dd_X5_read_180 : jd cX5_read 180 (.istore 8) 2 182 := ⟨by decide +kernel, rfl⟩
theorem dd_X5_read_182 : jd cX5_read 182 (.aload_n 0) 1 183 := ⟨by decide +kernel, rfl⟩
theorem dd_X5_read_183 : jd cX5_read 183 (.aload_n 0) 1 184 := ⟨by decide +kernel, rfl⟩
theorem dd_X5_read_184 : jd cX5_read 184 (.getfield 35) 3 187 := ⟨by decide +kernel, rfl⟩
theorem dd_X5_read_187 : jd cX5_read 187 (.iload 8) 2 189 := ⟨by decide +kernel, rfl⟩
theorem dd_X5_read_189 : jd cX5_read 189 (.iaload) 1 190 := ⟨by decide +kernel, rfl⟩
theorem dd_X5_read_190 : jd cX5_read 190 (.aload_n 0) 1 191 := ⟨by decide +kernel, rfl⟩
theorem dd_X5_read_191 : jd cX5_read 191 (.getfield 35) 3 194 := ⟨by decide +kernel, rfl⟩
theorem dd_X5_read_194 : jd cX5_read 194 (.iload 8) 2 196 := ⟨by decide +kernel, rfl⟩
theorem dd_X5_read_196 : jd cX5_read 196 (.iconst 1) 1 197 := ⟨by decide +kernel, rfl⟩
theorem dd_X5_read_197 : jd cX5_read 197 (.iadd) 1 198 := ⟨by decide +kernel, rfl⟩
theorem dd_X5_read_198 : jd cX5_read 198 (.iaload) 1 199 := ⟨by decide +kernel, rfl⟩
theorem ml_RX5_301 : (Cond.methodLink "MothCustomsModel" 301 yX5_fold : Cond) ∈ jj_tb := jj_m (List.mem_of_getElem? (i := 1265) (by decide +kernel)) rfl
theorem dd_X5_read_199 : jd cX5_read 199 (.invokevirtual 301) 3 202 := ⟨by decide +kernel, rfl⟩
theorem dd_X5_read_241 : jd cX5_read 241 (.iinc 6 1) 3 244 := ⟨by decide +kernel, rfl⟩
theorem dd_X5_read_202 : jd cX5_read 202 (.ifCond .ge 39) 3 205 := ⟨by decide +kernel, rfl⟩
theorem dd_X5_read_166 : jd cX5_read 166 (.ifCond .ne 78) 3 169 := ⟨by decide +kernel, rfl⟩
theorem dd_X5_read_244 : jd cX5_read 244 (.iinc 7 1) 3 247 := ⟨by decide +kernel, rfl⟩
theorem dd_X5_read_247 : jd cX5_read 247 (.goto (-185)) 3 250 := ⟨by decide +kernel, rfl⟩
theorem dd_X5_read_71 : jd cX5_read 71 (.ifCond .ne 179) 3 74 := ⟨by decide +kernel, rfl⟩
theorem dd_X5_read_66 : jd cX5_read 66 (.if_icmp .ge 184) 3 69 := ⟨by decide +kernel, rfl⟩
theorem dd_X5_read_205 : jd cX5_read 205 (.iconst 0) 1 206 := ⟨by decide +kernel, rfl⟩
theorem dd_X5_read_206 : jd cX5_read 206 (.istore 9) 2 208 := ⟨by decide +kernel, rfl⟩
theorem dd_X5_read_208 : jd cX5_read 208 (.iload 9) 2 210 := ⟨by decide +kernel, rfl⟩
theorem dd_X5_read_210 : jd cX5_read 210 (.bipush 62) 2 212 := ⟨by decide +kernel, rfl⟩
theorem dd_X5_read_215 : jd cX5_read 215 (.aload_n 0) 1 216 := ⟨by decide +kernel, rfl⟩
theorem dd_X5_read_216 : jd cX5_read 216 (.getfield 7) 3 219 := ⟨by decide +kernel, rfl⟩
theorem dd_X5_read_219 : jd cX5_read 219 (.iload 9) 2 221 := ⟨by decide +kernel, rfl⟩
theorem dd_X5_read_221 : jd cX5_read 221 (.aload_n 0) 1 222 := ⟨by decide +kernel, rfl⟩
theorem dd_X5_read_222 : jd cX5_read 222 (.getfield 38) 3 225 := ⟨by decide +kernel, rfl⟩
theorem dd_X5_read_225 : jd cX5_read 225 (.iload 9) 2 227 := ⟨by decide +kernel, rfl⟩
theorem dd_X5_read_227 : jd cX5_read 227 (.iaload) 1 228 := ⟨by decide +kernel, rfl⟩
theorem dd_X5_read_228 : jd cX5_read 228 (.iastore) 1 229 := ⟨by decide +kernel, rfl⟩
theorem dd_X5_read_229 : jd cX5_read 229 (.iinc 9 1) 3 232 := ⟨by decide +kernel, rfl⟩
theorem dd_X5_read_232 : jd cX5_read 232 (.goto (-24)) 3 235 := ⟨by decide +kernel, rfl⟩
theorem dd_X5_read_212 : jd cX5_read 212 (.if_icmp .ge 23) 3 215 := ⟨by decide +kernel, rfl⟩
theorem dd_X5_read_235 : jd cX5_read 235 (.bipush (-20)) 2 237 := ⟨by decide +kernel, rfl⟩
theorem dd_X5_read_237 : jd cX5_read 237 (.iload 7) 2 239 := ⟨by decide +kernel, rfl⟩
theorem dd_X5_read_239 : jd cX5_read 239 (.isub) 1 240 := ⟨by decide +kernel, rfl⟩
theorem dd_X5_read_240 : jd cX5_read 240 (.ireturn) 1 241 := ⟨by decide +kernel, rfl⟩
theorem dd_X5_read_250 : jd cX5_read 250 (.aload_n 0) 1 251 := ⟨by decide +kernel, rfl⟩
theorem dd_X5_read_251 : jd cX5_read 251 (.iload 5) 2 253 := ⟨by decide +kernel, rfl⟩
theorem fl_RX5_304 : (Cond.fieldLink "MothCustomsModel" 304 "MothCustomsModel" "torn" "I" : Cond) ∈ jj_tb := jj_m (List.mem_of_getElem? (i := 828) (by decide +kernel)) rfl
theorem dd_X5_read_253 : jd cX5_read 253 (.putfield 304) 3 256 := ⟨by decide +kernel, rfl⟩
theorem dd_X5_read_256 : jd cX5_read 256 (.iload 6) 2 258 := ⟨by decide +kernel, rfl⟩
theorem dd_X5_read_258 : jd cX5_read 258 (.ireturn) 1 259 := ⟨by decide +kernel, rfl⟩
theorem dd_X5_read_18 : jd cX5_read 18 (.ifCond .ne 5) 3 21 := ⟨by decide +kernel, rfl⟩
theorem dd_X5_read_5 : jd cX5_read 5 (.ifCond .eq 16) 3 8 := ⟨by decide +kernel, rfl⟩
theorem m_X5_read : jmV yX5_read cX5_read 11 (some .int) 4 := ⟨⟨(jj_m (w := Cond.code yX5_read cX5_read 11 (some .int)) (List.mem_of_getElem? (i := 1264) (by decide +kernel)) rfl), (jj_m (w := Cond.initialized yX5_read.cls) (List.mem_of_getElem? (i := 69) (by decide +kernel)) rfl), ⟨by decide, by decide⟩, by decide +kernel⟩, (jj_m (w := Cond.instanceMethod yX5_read) (List.mem_of_getElem? (i := 1262) (by decide +kernel)) rfl), (jj_m (w := Cond.selects yX5_read.cls yX5_read yX5_read) (List.mem_of_getElem? (i := 1263) (by decide +kernel)) rfl)⟩
def fX5_read_L26 (i1 : Int32) (i2 : Int32) (i3 : Int32) (i4 : Int32) (k53 : M2 → Option (Int32 × M2)) : Nat → Int32 → M2 → Option (Int32 × M2)
  | 0, _, _ => none
  | n_ + 1, v3, S4 =>
    if (62 : Int32) ≤ v3 then
      k53 S4
    else
      bnd v3 186 <|
      bnd v3 62 <|
      lt (va_up S4 24 (upd (S4 24) v3.toNatClampNeg (S4 0 v3.toNatClampNeg))) fun S5 =>
      lt (v3 + (1 : Int32)) fun x6 =>
      fX5_read_L26 i1 i2 i3 i4 k53 n_ x6 S5

def fX5_read_L77 (i1 : Int32) (i2 : Int32) (i3 : Int32) (i4 : Int32) (v10 : Int32) (v11 : Int32) (p12 : M2) (k164 : Int32 → Option (Int32 × M2)) : Nat → Int32 → Int32 → Option (Int32 × M2)
  | 0, _, _ => none
  | n_ + 1, v13, v14 =>
    if (2 : Int32) ≤ v14 then
      k164 v13
    else
      if v13 = 0 then
        lt ((((i3.toInt64) + (((2 : Int32) * v11).toInt64)) + (v14.toInt64))) fun y15 =>
        bnd i1 4 <|
        jn (α := Option (Int32 × M2)) (β := Int32) (fun j16 =>
          if (p12 20 i1.toNatClampNeg) = (-4 : Int32) then
            j16 (1 : Int32)
          else
            bnd i1 4 <|
            if (p12 20 i1.toNatClampNeg) = i2 then
              jn (α := Option (Int32 × M2)) (β := Unit) (fun j17 =>
                if (lg_cmp y15 (0 : Int64)) < 0 then
                  j17 ()
                else
                  bnd i1 4 <|
                  if (lg_cmp y15 ((p12 21 i1.toNatClampNeg).toInt64)) < 0 then
                    j16 (0 : Int32)
                  else
                    j17 ()) (fun _ => 
                j16 (2 : Int32))
            else
              j16 (3 : Int32)) (fun p23 => 
          lt (v14 + (1 : Int32)) fun x24 =>
          fX5_read_L77 i1 i2 i3 i4 v10 v11 p12 k164 n_ p23 x24)
      else
        k164 v13

def fX5_read_L62 (i1 : Int32) (i2 : Int32) (i3 : Int32) (i4 : Int32) (k205 : (Int32 × M2) → Option (Int32 × M2)) (k250 : (Int32 × Int32 × M2) → Option (Int32 × M2)) : Nat → Int32 → Int32 → Int32 → M2 → Option (Int32 × M2)
  | 0, _, _, _, _ => none
  | n_ + 1, v9, v10, v11, p12 =>
    if i4 ≤ v11 then
      k250 (v9, v10, p12)
    else
      if v9 = 0 then
        fX5_read_L77 i1 i2 i3 i4 v10 v11 p12
          (fun p27 =>
            jn (α := Option (Int32 × M2)) (β := Int32 × M2) (fun j28 =>
              if p27 = 0 then
                lt (((((40 : Int32) * i1) + i3) + ((2 : Int32) * v11))) fun x29 =>
                bnd x29 160 <|
                bnd (x29 + (1 : Int32)) 160 <|
                (fX5_fold (p12 22 x29.toNatClampNeg) (p12 22 (x29 + (1 : Int32)).toNatClampNeg) p12).bind fun q30 =>
                lt (q30.2) fun S31 =>
                if 0 ≤ q30.1 then
                  lt (v10 + (1 : Int32)) fun x32 =>
                  j28 (x32, S31)
                else
                  k205 (v11, S31)
              else
                j28 (v10, p12)) (fun p35 => 
              lt (v11 + (1 : Int32)) fun x36 =>
              fX5_read_L62 i1 i2 i3 i4 k205 k250 n_ p27 p35.1 x36 p35.2))
          400 v9 (0 : Int32)
      else
        k250 (v9, v10, p12)

def fX5_read_L208 (p39 : Int32 × M2) (k235 : M2 → Option (Int32 × M2)) : Nat → Int32 → M2 → Option (Int32 × M2)
  | 0, _, _ => none
  | n_ + 1, v40, p41 =>
    if (62 : Int32) ≤ v40 then
      k235 p41
    else
      bnd v40 62 <|
      bnd v40 186 <|
      lt (va_up p41 0 (upd (p41 0) v40.toNatClampNeg (p41 24 v40.toNatClampNeg))) fun S42 =>
      lt (v40 + (1 : Int32)) fun x43 =>
      fX5_read_L208 p39 k235 n_ x43 S42

def fX5_read (i1 : Int32) (i2 : Int32) (i3 : Int32) (i4 : Int32) (S : M2) : Option (Int32 × M2) :=
  (fX5_isSheet i1 i2).bind fun r1 =>
  if r1 = 0 then
    some ((-1 : Int32), S)
  else
    (fX5_in (i4.toInt64) (0 : Int64) (20 : Int64)).bind fun r2 =>
    if r2 = 0 then
      some ((-1 : Int32), S)
    else
      fX5_read_L26 i1 i2 i3 i4
        (fun p8 =>
          fX5_read_L62 i1 i2 i3 i4
            (fun p39 =>
              fX5_read_L208 p39
                (fun p45 =>
                  some (((-20 : Int32) - p39.1), p45))
                400 (0 : Int32) p39.2)
            (fun p46 =>
              lt (va_up p46.2.2 23 (fun _ => p46.1)) fun S47 =>
              some (p46.2.1, S47))
            400 (0 : Int32) (0 : Int32) (0 : Int32) p8)
        400 (0 : Int32) S

set_option maxHeartbeats 4000000 in
set_option maxRecDepth 100000 in
theorem tX5_read_L26 {V : JV M2} {b : Nat} {a : Nat → Nat} (hv : vX5 V b a) (i1 : Int32) (i2 : Int32) (i3 : Int32) (i4 : Int32) {E : JE (M2) Int32} (hE : JOk V E cX5_read yX5_read.cls 11 5 (some .int) jj_i) {k53 : M2 → Option (Int32 × M2)} (hk53 : ∀ p, J V E (fun q => (q.1, q.2)) (k53 p) 53 [(0, .ref b), (1, .int i1), (2, .int i2), (3, .int i3), (4, .int i4)] [] p) : ∀ (n_ : Nat) (v3 : Int32) (S4 : M2), J V E (fun q => (q.1, q.2)) (fX5_read_L26 i1 i2 i3 i4 k53 n_ v3 S4) 26 [(0, .ref b), (1, .int i1), (2, .int i2), (3, .int i3), (4, .int i4), (5, .int v3)] [] S4 := by
  intro n_
  induction n_ with
  | zero =>
    intros
    exact J_none
  | succ n_ ih =>
    intros v3 S4
    rw [fX5_read_L26]
    refine J_iload hE dd_X5_read_26 5 rfl ?_
    refine J_bipush hE (v := (62 : Int32)) dd_X5_read_28 (by decide) ?_
    refine J_icmp_ge hE (tgt := 53) dd_X5_read_30 (by decide) (fun c7 => ?_) (fun c7 => ?_)
    · refine J_sub [0, 1, 2, 3, 4] rfl ?_
      exact hk53 S4
    · refine J_aload_n hE dd_X5_read_33 0 rfl rfl ?_
      refine J_get hE (hv.ob _) jc_X5 24 (by decide) fl_RX5_38 (v := .ref (a 24)) rfl dd_X5_read_34 ?_
      refine J_iload hE dd_X5_read_37 5 rfl ?_
      refine J_aload_n hE dd_X5_read_39 0 rfl rfl ?_
      refine J_get hE (hv.ob _) jc_X5 0 (by decide) fl_RX5_7 (v := .ref (a 0)) rfl dd_X5_read_40 ?_
      refine J_iload hE dd_X5_read_43 5 rfl ?_
      refine J_ald hE (hv.arr 0 (n := 186) (ty := .int) (by decide) _) dd_X5_read_45 ?_
      refine J_ast hE hv 24 (N := 62) (by decide) dd_X5_read_46 ?_
      refine J_letS (fun S5 => ?_)
      refine J_iincL hE (v := (v3 + (1 : Int32))) (Lf := fun x6 => [(5, .int x6), (0, .ref b), (1, .int i1), (2, .int i2), (3, .int i3), (4, .int i4)]) dd_X5_read_47 (j := 5) rfl (congrArg (v3 + ·) (by decide)) (Nat.le_of_ble_eq_true rfl) (fun _ => rfl) (fun x6 => ?_)
      refine J_goto hE (tgt := 26) dd_X5_read_50 (by decide) ?_
      refine J_sub [1, 2, 3, 4, 5, 0] rfl ?_
      exact ih x6 S5
set_option maxHeartbeats 4000000 in
set_option maxRecDepth 100000 in
theorem tX5_read_L77 {V : JV M2} {b : Nat} {a : Nat → Nat} (hv : vX5 V b a) (i1 : Int32) (i2 : Int32) (i3 : Int32) (i4 : Int32) (v10 : Int32) (v11 : Int32) (p12 : M2) {E : JE (M2) Int32} (hE : JOk V E cX5_read yX5_read.cls 11 5 (some .int) jj_i) {k164 : Int32 → Option (Int32 × M2)} (hk164 : ∀ p, J V E (fun q => (q.1, q.2)) (k164 p) 164 [(0, .ref b), (1, .int i1), (2, .int i2), (3, .int i3), (4, .int i4), (5, .int p), (6, .int v10), (7, .int v11)] [] p12) : ∀ (n_ : Nat) (v13 : Int32) (v14 : Int32), J V E (fun q => (q.1, q.2)) (fX5_read_L77 i1 i2 i3 i4 v10 v11 p12 k164 n_ v13 v14) 77 [(0, .ref b), (1, .int i1), (2, .int i2), (3, .int i3), (4, .int i4), (5, .int v13), (6, .int v10), (7, .int v11), (8, .int v14)] [] p12 := by
  intro n_
  induction n_ with
  | zero =>
    intros
    exact J_none
  | succ n_ ih =>
    intros v13 v14
    rw [fX5_read_L77]
    refine J_iload hE dd_X5_read_77 8 rfl ?_
    refine J_iconst hE (v := (2 : Int32)) dd_X5_read_79 (by decide) ?_
    refine J_icmp_ge hE (tgt := 164) dd_X5_read_80 (by decide) (fun c26 => ?_) (fun c26 => ?_)
    · refine J_sub [0, 1, 2, 3, 4, 5, 6, 7] rfl ?_
      exact hk164 v13
    · refine J_iload hE dd_X5_read_83 5 rfl ?_
      refine J_if_ne hE (tgt := 164) dd_X5_read_85 (by decide) (fun c25 => ?_) (fun c25 => ?_)
      · refine J_sub [0, 1, 2, 3, 4, 5, 6, 7] rfl ?_
        exact hk164 v13
      · refine J_iload_n hE dd_X5_read_88 3 rfl rfl ?_
        refine J_i2l hE dd_X5_read_89 ?_
        refine J_iconst hE (v := (2 : Int32)) dd_X5_read_90 (by decide) ?_
        refine J_iload hE dd_X5_read_91 7 rfl ?_
        refine J_imul hE dd_X5_read_93 ?_
        refine J_i2l hE dd_X5_read_94 ?_
        refine J_ladd hE dd_X5_read_95 ?_
        refine J_iload hE dd_X5_read_96 8 rfl ?_
        refine J_i2l hE dd_X5_read_98 ?_
        refine J_ladd hE dd_X5_read_99 ?_
        refine J_letl (fun y15 => ?_)
        refine J_lstore hE (L' := [(9, .long y15), (0, .ref b), (1, .int i1), (2, .int i2), (3, .int i3), (4, .int i4), (5, .int v13), (6, .int v10), (7, .int v11), (8, .int v14)]) dd_X5_read_100 (Nat.le_of_ble_eq_true rfl) rfl ?_
        refine J_aload_n hE dd_X5_read_102 1 rfl rfl ?_
        refine J_get hE (hv.ob _) jc_X5 20 (by decide) fl_RX5_29 (v := .ref (a 20)) rfl dd_X5_read_103 ?_
        refine J_iload_n hE dd_X5_read_106 2 rfl rfl ?_
        refine J_ald hE (hv.arr 20 (n := 4) (ty := .int) (by decide) _) dd_X5_read_107 ?_
        refine J_bipush hE (v := (-4 : Int32)) dd_X5_read_108 (by decide) ?_
        refine J_jn (m := 156) (Lf := fun p23 => [(0, .ref b), (1, .int i1), (2, .int i2), (3, .int i3), (4, .int i4), (6, .int v10), (7, .int v11), (8, .int v14)]) (sf := fun p23 => [.int p23]) (Xf := fun p23 => p12) (fun p23 => ?_) (fun hj16 => ?_)
        · show J V E _ _ 156 [(0, .ref b), (1, .int i1), (2, .int i2), (3, .int i3), (4, .int i4), (6, .int v10), (7, .int v11), (8, .int v14)] [.int p23] p12
          refine J_istore hE (L' := [(5, .int p23), (0, .ref b), (1, .int i1), (2, .int i2), (3, .int i3), (4, .int i4), (6, .int v10), (7, .int v11), (8, .int v14)]) dd_X5_read_156 (Nat.le_of_ble_eq_true rfl) rfl ?_
          refine J_iincL hE (v := (v14 + (1 : Int32))) (Lf := fun x24 => [(8, .int x24), (5, .int p23), (0, .ref b), (1, .int i1), (2, .int i2), (3, .int i3), (4, .int i4), (6, .int v10), (7, .int v11)]) dd_X5_read_158 (j := 8) rfl (congrArg (v14 + ·) (by decide)) (Nat.le_of_ble_eq_true rfl) (fun _ => rfl) (fun x24 => ?_)
          refine J_goto hE (tgt := 77) dd_X5_read_161 (by decide) ?_
          refine J_sub [2, 3, 4, 5, 6, 1, 7, 8, 0] rfl ?_
          exact ih p23 x24
        · refine J_icmp_ne hE (tgt := 117) dd_X5_read_110 (by decide) (fun c22 => ?_) (fun c22 => ?_)
          · refine J_aload_n hE dd_X5_read_117 1 rfl rfl ?_
            refine J_get hE (hv.ob _) jc_X5 20 (by decide) fl_RX5_29 (v := .ref (a 20)) rfl dd_X5_read_118 ?_
            refine J_iload_n hE dd_X5_read_121 2 rfl rfl ?_
            refine J_ald hE (hv.arr 20 (n := 4) (ty := .int) (by decide) _) dd_X5_read_122 ?_
            refine J_iload_n hE dd_X5_read_123 3 rfl rfl ?_
            refine J_icmp_eq hE (tgt := 131) dd_X5_read_124 (by decide) (fun c21 => ?_) (fun c21 => ?_)
            · refine J_lload hE dd_X5_read_131 0 rfl ?_
              refine J_lconst hE (v := (0 : Int64)) dd_X5_read_133 (by decide) ?_
              refine J_lcmp hE dd_X5_read_134 ?_
              refine J_jn (m := 151) (Lf := fun _ => [(0, .ref b), (1, .int i1), (2, .int i2), (3, .int i3), (4, .int i4), (6, .int v10), (7, .int v11), (8, .int v14)]) (sf := fun _ => []) (Xf := fun _ => p12) (fun _ => ?_) (fun hj17 => ?_)
              · show J V E _ _ 151 [(0, .ref b), (1, .int i1), (2, .int i2), (3, .int i3), (4, .int i4), (6, .int v10), (7, .int v11), (8, .int v14)] [] p12
                refine J_iconst hE (v := (2 : Int32)) dd_X5_read_151 (by decide) ?_
                refine J_goto hE (tgt := 156) dd_X5_read_152 (by decide) ?_
                refine J_sub [0, 1, 2, 3, 4, 5, 6, 7] rfl ?_
                exact hj16 (2 : Int32)
              · refine J_if_lt hE (tgt := 151) dd_X5_read_135 (by decide) (fun c19 => ?_) (fun c19 => ?_)
                · refine J_sub [1, 2, 3, 4, 5, 7, 8, 9] rfl ?_
                  exact hj17 ()
                · refine J_lload hE dd_X5_read_138 0 rfl ?_
                  refine J_aload_n hE dd_X5_read_140 1 rfl rfl ?_
                  refine J_get hE (hv.ob _) jc_X5 21 (by decide) fl_RX5_32 (v := .ref (a 21)) rfl dd_X5_read_141 ?_
                  refine J_iload_n hE dd_X5_read_144 2 rfl rfl ?_
                  refine J_ald hE (hv.arr 21 (n := 4) (ty := .int) (by decide) _) dd_X5_read_145 ?_
                  refine J_i2l hE dd_X5_read_146 ?_
                  refine J_lcmp hE dd_X5_read_147 ?_
                  refine J_if_lt hE (tgt := 155) dd_X5_read_148 (by decide) (fun c18 => ?_) (fun c18 => ?_)
                  · refine J_iconst hE (v := (0 : Int32)) dd_X5_read_155 (by decide) ?_
                    refine J_sub [1, 2, 3, 4, 5, 7, 8, 9] rfl ?_
                    exact hj16 (0 : Int32)
                  · refine J_sub [1, 2, 3, 4, 5, 7, 8, 9] rfl ?_
                    exact hj17 ()
            · refine J_iconst hE (v := (3 : Int32)) dd_X5_read_127 (by decide) ?_
              refine J_goto hE (tgt := 156) dd_X5_read_128 (by decide) ?_
              refine J_sub [1, 2, 3, 4, 5, 7, 8, 9] rfl ?_
              exact hj16 (3 : Int32)
          · refine J_iconst hE (v := (1 : Int32)) dd_X5_read_113 (by decide) ?_
            refine J_goto hE (tgt := 156) dd_X5_read_114 (by decide) ?_
            refine J_sub [1, 2, 3, 4, 5, 7, 8, 9] rfl ?_
            exact hj16 (1 : Int32)
set_option maxHeartbeats 4000000 in
set_option maxRecDepth 100000 in
theorem tX5_read_L62 {V : JV M2} {b : Nat} {a : Nat → Nat} (hv : vX5 V b a) (i1 : Int32) (i2 : Int32) (i3 : Int32) (i4 : Int32) {E : JE (M2) Int32} (hE : JOk V E cX5_read yX5_read.cls 11 5 (some .int) jj_i) {k205 : (Int32 × M2) → Option (Int32 × M2)} {k250 : (Int32 × Int32 × M2) → Option (Int32 × M2)} (hk205 : ∀ p, J V E (fun q => (q.1, q.2)) (k205 p) 205 [(0, .ref b), (7, .int p.1)] [] p.2) (hk250 : ∀ p, J V E (fun q => (q.1, q.2)) (k250 p) 250 [(0, .ref b), (5, .int p.1), (6, .int p.2.1)] [] p.2.2) : ∀ (n_ : Nat) (v9 : Int32) (v10 : Int32) (v11 : Int32) (p12 : M2), J V E (fun q => (q.1, q.2)) (fX5_read_L62 i1 i2 i3 i4 k205 k250 n_ v9 v10 v11 p12) 62 [(0, .ref b), (1, .int i1), (2, .int i2), (3, .int i3), (4, .int i4), (5, .int v9), (6, .int v10), (7, .int v11)] [] p12 := by
  intro n_
  induction n_ with
  | zero =>
    intros
    exact J_none
  | succ n_ ih =>
    intros v9 v10 v11 p12
    rw [fX5_read_L62]
    refine J_iload hE dd_X5_read_62 7 rfl ?_
    refine J_iload hE dd_X5_read_64 4 rfl ?_
    refine J_icmp_ge hE (tgt := 250) dd_X5_read_66 (by decide) (fun c38 => ?_) (fun c38 => ?_)
    · refine J_sub [0, 5, 6] rfl ?_
      exact hk250 (v9, v10, p12)
    · refine J_iload hE dd_X5_read_69 5 rfl ?_
      refine J_if_ne hE (tgt := 250) dd_X5_read_71 (by decide) (fun c37 => ?_) (fun c37 => ?_)
      · refine J_sub [0, 5, 6] rfl ?_
        exact hk250 (v9, v10, p12)
      · refine J_iconst hE (v := (0 : Int32)) dd_X5_read_74 (by decide) ?_
        refine J_istore hE (L' := [(8, .int (0 : Int32)), (0, .ref b), (1, .int i1), (2, .int i2), (3, .int i3), (4, .int i4), (5, .int v9), (6, .int v10), (7, .int v11)]) dd_X5_read_75 (Nat.le_of_ble_eq_true rfl) rfl ?_
        refine J_sub [1, 2, 3, 4, 5, 6, 7, 8, 0] rfl ?_
        refine tX5_read_L77 hv i1 i2 i3 i4 v10 v11 p12 hE (fun p27 => ?_) 400 v9 (0 : Int32)
        show J V E _ _ 164 [(0, .ref b), (1, .int i1), (2, .int i2), (3, .int i3), (4, .int i4), (5, .int p27), (6, .int v10), (7, .int v11)] [] p12
        refine J_iload hE dd_X5_read_164 5 rfl ?_
        refine J_jn (m := 244) (Lf := fun p35 => [(0, .ref b), (1, .int i1), (2, .int i2), (3, .int i3), (4, .int i4), (5, .int p27), (6, .int p35.1), (7, .int v11)]) (sf := fun p35 => []) (Xf := fun p35 => p35.2) (fun p35 => ?_) (fun hj28 => ?_)
        · show J V E _ _ 244 [(0, .ref b), (1, .int i1), (2, .int i2), (3, .int i3), (4, .int i4), (5, .int p27), (6, .int p35.1), (7, .int v11)] [] p35.2
          refine J_iincL hE (v := (v11 + (1 : Int32))) (Lf := fun x36 => [(7, .int x36), (0, .ref b), (1, .int i1), (2, .int i2), (3, .int i3), (4, .int i4), (5, .int p27), (6, .int p35.1)]) dd_X5_read_244 (j := 7) rfl (congrArg (v11 + ·) (by decide)) (Nat.le_of_ble_eq_true rfl) (fun _ => rfl) (fun x36 => ?_)
          refine J_goto hE (tgt := 62) dd_X5_read_247 (by decide) ?_
          refine J_sub [1, 2, 3, 4, 5, 6, 7, 0] rfl ?_
          exact ih p27 p35.1 x36 p35.2
        · refine J_if_ne hE (tgt := 244) dd_X5_read_166 (by decide) (fun c34 => ?_) (fun c34 => ?_)
          · refine J_sub [0, 1, 2, 3, 4, 5, 6, 7] rfl ?_
            exact hj28 (v10, p12)
          · refine J_bipush hE (v := (40 : Int32)) dd_X5_read_169 (by decide) ?_
            refine J_iload_n hE dd_X5_read_171 1 rfl rfl ?_
            refine J_imul hE dd_X5_read_172 ?_
            refine J_iload_n hE dd_X5_read_173 3 rfl rfl ?_
            refine J_iadd hE dd_X5_read_174 ?_
            refine J_iconst hE (v := (2 : Int32)) dd_X5_read_175 (by decide) ?_
            refine J_iload hE dd_X5_read_176 7 rfl ?_
            refine J_imul hE dd_X5_read_178 ?_
            refine J_iadd hE dd_X5_read_179 ?_
            refine J_leti (fun x29 => ?_)
            refine J_istore hE (L' := [(8, .int x29), (0, .ref b), (1, .int i1), (2, .int i2), (3, .int i3), (4, .int i4), (5, .int p27), (6, .int v10), (7, .int v11)]) dd_X5_read_180 (Nat.le_of_ble_eq_true rfl) rfl ?_
            refine J_aload_n hE dd_X5_read_182 1 rfl rfl ?_
            refine J_aload_n hE dd_X5_read_183 1 rfl rfl ?_
            refine J_get hE (hv.ob _) jc_X5 22 (by decide) fl_RX5_35 (v := .ref (a 22)) rfl dd_X5_read_184 ?_
            refine J_iload hE dd_X5_read_187 0 rfl ?_
            refine J_ald hE (hv.arr 22 (n := 160) (ty := .int) (by decide) _) dd_X5_read_189 ?_
            refine J_aload_n hE dd_X5_read_190 1 rfl rfl ?_
            refine J_get hE (hv.ob _) jc_X5 22 (by decide) fl_RX5_35 (v := .ref (a 22)) rfl dd_X5_read_191 ?_
            refine J_iload hE dd_X5_read_194 0 rfl ?_
            refine J_iconst hE (v := (1 : Int32)) dd_X5_read_196 (by decide) ?_
            refine J_iadd hE dd_X5_read_197 ?_
            refine J_ald hE (hv.arr 22 (n := 160) (ty := .int) (by decide) _) dd_X5_read_198 ?_
            refine J_invVwi hE (e := fun x => x) (As := [.int (p12 22 x29.toNatClampNeg), .int (p12 22 (x29 + (1 : Int32)).toNatClampNeg)]) (st := []) (tX5_fold E.2.1 hv p12 (p12 22 x29.toNatClampNeg) (p12 22 (x29 + (1 : Int32)).toNatClampNeg)) (hv.ob _) m_X5_fold rfl ml_RX5_301 (Nat.le_of_ble_eq_true rfl) (Nat.le_of_ble_eq_true rfl) rfl (Nat.le_of_ble_eq_true rfl) dd_X5_read_199 (fun q30 => ?_)
            refine J_letS (fun S31 => ?_)
            refine J_if_ge hE (tgt := 241) dd_X5_read_202 (by decide) (fun c33 => ?_) (fun c33 => ?_)
            · refine J_iincL hE (v := (v10 + (1 : Int32))) (Lf := fun x32 => [(6, .int x32), (8, .int x29), (0, .ref b), (1, .int i1), (2, .int i2), (3, .int i3), (4, .int i4), (5, .int p27), (7, .int v11)]) dd_X5_read_241 (j := 7) rfl (congrArg (v10 + ·) (by decide)) (Nat.le_of_ble_eq_true rfl) (fun _ => rfl) (fun x32 => ?_)
              refine J_sub [2, 3, 4, 5, 6, 7, 0, 8] rfl ?_
              exact hj28 (x32, S31)
            · refine J_sub [1, 8] rfl ?_
              exact hk205 (v11, S31)
set_option maxHeartbeats 4000000 in
set_option maxRecDepth 100000 in
theorem tX5_read_L208 {V : JV M2} {b : Nat} {a : Nat → Nat} (hv : vX5 V b a) (p39 : Int32 × M2) {E : JE (M2) Int32} (hE : JOk V E cX5_read yX5_read.cls 11 5 (some .int) jj_i) {k235 : M2 → Option (Int32 × M2)} (hk235 : ∀ p, J V E (fun q => (q.1, q.2)) (k235 p) 235 [(7, .int p39.1)] [] p) : ∀ (n_ : Nat) (v40 : Int32) (p41 : M2), J V E (fun q => (q.1, q.2)) (fX5_read_L208 p39 k235 n_ v40 p41) 208 [(0, .ref b), (7, .int p39.1), (9, .int v40)] [] p41 := by
  intro n_
  induction n_ with
  | zero =>
    intros
    exact J_none
  | succ n_ ih =>
    intros v40 p41
    rw [fX5_read_L208]
    refine J_iload hE dd_X5_read_208 2 rfl ?_
    refine J_bipush hE (v := (62 : Int32)) dd_X5_read_210 (by decide) ?_
    refine J_icmp_ge hE (tgt := 235) dd_X5_read_212 (by decide) (fun c44 => ?_) (fun c44 => ?_)
    · refine J_sub [1] rfl ?_
      exact hk235 p41
    · refine J_aload_n hE dd_X5_read_215 0 rfl rfl ?_
      refine J_get hE (hv.ob _) jc_X5 0 (by decide) fl_RX5_7 (v := .ref (a 0)) rfl dd_X5_read_216 ?_
      refine J_iload hE dd_X5_read_219 2 rfl ?_
      refine J_aload_n hE dd_X5_read_221 0 rfl rfl ?_
      refine J_get hE (hv.ob _) jc_X5 24 (by decide) fl_RX5_38 (v := .ref (a 24)) rfl dd_X5_read_222 ?_
      refine J_iload hE dd_X5_read_225 2 rfl ?_
      refine J_ald hE (hv.arr 24 (n := 62) (ty := .int) (by decide) _) dd_X5_read_227 ?_
      refine J_ast hE hv 0 (N := 186) (by decide) dd_X5_read_228 ?_
      refine J_letS (fun S42 => ?_)
      refine J_iincL hE (v := (v40 + (1 : Int32))) (Lf := fun x43 => [(9, .int x43), (0, .ref b), (7, .int p39.1)]) dd_X5_read_229 (j := 2) rfl (congrArg (v40 + ·) (by decide)) (Nat.le_of_ble_eq_true rfl) (fun _ => rfl) (fun x43 => ?_)
      refine J_goto hE (tgt := 208) dd_X5_read_232 (by decide) ?_
      refine J_sub [1, 2, 0] rfl ?_
      exact ih x43 S42
set_option maxHeartbeats 4000000 in
set_option maxRecDepth 100000 in
theorem tX5_read (l : Launch) {V : JV M2} {b : Nat} {a : Nat → Nat} (hv : vX5 V b a) (S : M2) (i1 : Int32) (i2 : Int32) (i3 : Int32) (i4 : Int32) : JC l V yX5_read cX5_read 11 (some .int) jj_i 5 [.ref b, .int i1, .int i2, .int i3, .int i4] S ((fX5_read i1 i2 i3 i4 S).map (fun q => (q.1, q.2))) := by
  refine jj_of (by decide) (Nat.le_of_ble_eq_true rfl) (fun E hlE hE => ?_)
  unfold fX5_read
  refine J_sub (L' := [(0, .ref b), (1, .int i1), (2, .int i2), (3, .int i3), (4, .int i4)]) [0, 1, 2, 3, 4] rfl ?_
  refine J_iload_n hE dd_X5_read_0 1 rfl rfl ?_
  refine J_iload_n hE dd_X5_read_1 2 rfl rfl ?_
  refine J_invSri hE (As := [.int i1, .int i2]) (st := []) (tX5_isSheet E.2.1 V S i1 i2) m_X5_isSheet s_X5_isSheet rfl ml_RX5_298 (Nat.le_of_ble_eq_true rfl) (Nat.le_of_ble_eq_true rfl) rfl (Nat.le_of_ble_eq_true rfl) dd_X5_read_2 (fun r1 => ?_)
  refine J_if_eq hE (tgt := 21) dd_X5_read_5 (by decide) (fun c49 => ?_) (fun c49 => ?_)
  · refine J_iconst hE (v := (-1 : Int32)) dd_X5_read_21 (by decide) ?_
    exact J_iret hE dd_X5_read_22 rfl rfl
  · refine J_iload hE dd_X5_read_8 4 rfl ?_
    refine J_i2l hE dd_X5_read_10 ?_
    refine J_lconst hE (v := (0 : Int64)) dd_X5_read_11 (by decide) ?_
    refine J_ldc2 hE (v := (20 : Int64)) dd_X5_read_12 cl_RX5_242 ?_
    refine J_invSri hE (As := [.long (i4.toInt64), .long (0 : Int64), .long (20 : Int64)]) (st := []) (tX5_in E.2.1 V S (i4.toInt64) (0 : Int64) (20 : Int64)) m_X5_in s_X5_in rfl ml_RX5_71 (Nat.le_of_ble_eq_true rfl) (Nat.le_of_ble_eq_true rfl) rfl (Nat.le_of_ble_eq_true rfl) dd_X5_read_15 (fun r2 => ?_)
    refine J_if_ne hE (tgt := 23) dd_X5_read_18 (by decide) (fun c48 => ?_) (fun c48 => ?_)
    · refine J_iconst hE (v := (0 : Int32)) dd_X5_read_23 (by decide) ?_
      refine J_istore hE (L' := [(5, .int (0 : Int32)), (0, .ref b), (1, .int i1), (2, .int i2), (3, .int i3), (4, .int i4)]) dd_X5_read_24 (Nat.le_of_ble_eq_true rfl) rfl ?_
      refine J_sub [1, 2, 3, 4, 5, 0] rfl ?_
      refine tX5_read_L26 hv i1 i2 i3 i4 hE (fun p8 => ?_) 400 (0 : Int32) S
      show J V E _ _ 53 [(0, .ref b), (1, .int i1), (2, .int i2), (3, .int i3), (4, .int i4)] [] p8
      refine J_iconst hE (v := (0 : Int32)) dd_X5_read_53 (by decide) ?_
      refine J_istore hE (L' := [(5, .int (0 : Int32)), (0, .ref b), (1, .int i1), (2, .int i2), (3, .int i3), (4, .int i4)]) dd_X5_read_54 (Nat.le_of_ble_eq_true rfl) rfl ?_
      refine J_iconst hE (v := (0 : Int32)) dd_X5_read_56 (by decide) ?_
      refine J_istore hE (L' := [(6, .int (0 : Int32)), (5, .int (0 : Int32)), (0, .ref b), (1, .int i1), (2, .int i2), (3, .int i3), (4, .int i4)]) dd_X5_read_57 (Nat.le_of_ble_eq_true rfl) rfl ?_
      refine J_iconst hE (v := (0 : Int32)) dd_X5_read_59 (by decide) ?_
      refine J_istore hE (L' := [(7, .int (0 : Int32)), (6, .int (0 : Int32)), (5, .int (0 : Int32)), (0, .ref b), (1, .int i1), (2, .int i2), (3, .int i3), (4, .int i4)]) dd_X5_read_60 (Nat.le_of_ble_eq_true rfl) rfl ?_
      refine J_sub [3, 4, 5, 6, 7, 2, 1, 0] rfl ?_
      refine tX5_read_L62 hv i1 i2 i3 i4 hE (fun p39 => ?_) (fun p46 => ?_) 400 (0 : Int32) (0 : Int32) (0 : Int32) p8
      · show J V E _ _ 205 [(0, .ref b), (7, .int p39.1)] [] p39.2
        refine J_iconst hE (v := (0 : Int32)) dd_X5_read_205 (by decide) ?_
        refine J_istore hE (L' := [(9, .int (0 : Int32)), (0, .ref b), (7, .int p39.1)]) dd_X5_read_206 (Nat.le_of_ble_eq_true rfl) rfl ?_
        refine J_sub [1, 2, 0] rfl ?_
        refine tX5_read_L208 hv p39 hE (fun p45 => ?_) 400 (0 : Int32) p39.2
        show J V E _ _ 235 [(7, .int p39.1)] [] p45
        refine J_bipush hE (v := (-20 : Int32)) dd_X5_read_235 (by decide) ?_
        refine J_iload hE dd_X5_read_237 0 rfl ?_
        refine J_isub hE dd_X5_read_239 ?_
        exact J_iret hE dd_X5_read_240 rfl rfl
      · show J V E _ _ 250 [(0, .ref b), (5, .int p46.1), (6, .int p46.2.1)] [] p46.2.2
        refine J_aload_n hE dd_X5_read_250 0 rfl rfl ?_
        refine J_iload hE dd_X5_read_251 1 rfl ?_
        refine J_put hE hv jc_X5 23 (by decide) (by decide) fl_RX5_304 rfl rfl rfl (Nat.le_of_ble_eq_true rfl) dd_X5_read_253 ?_
        refine J_letS (fun S47 => ?_)
        refine J_iload hE dd_X5_read_256 2 rfl ?_
        exact J_iret hE dd_X5_read_258 rfl rfl
    · refine J_iconst hE (v := (-1 : Int32)) dd_X5_read_21 (by decide) ?_
      exact J_iret hE dd_X5_read_22 rfl rfl
theorem dd_X5_torn_0 : jd cX5_torn 0 (.aload_n 0) 1 1 := ⟨by decide +kernel, rfl⟩
theorem dd_X5_torn_1 : jd cX5_torn 1 (.getfield 304) 3 4 := ⟨by decide +kernel, rfl⟩
theorem dd_X5_torn_4 : jd cX5_torn 4 (.ireturn) 1 5 := ⟨by decide +kernel, rfl⟩
theorem m_X5_torn : jmV yX5_torn cX5_torn 1 (some .int) 0 := ⟨⟨(jj_m (w := Cond.code yX5_torn cX5_torn 1 (some .int)) (List.mem_of_getElem? (i := 1269) (by decide +kernel)) rfl), (jj_m (w := Cond.initialized yX5_torn.cls) (List.mem_of_getElem? (i := 69) (by decide +kernel)) rfl), ⟨by decide, by decide⟩, by decide +kernel⟩, (jj_m (w := Cond.instanceMethod yX5_torn) (List.mem_of_getElem? (i := 1267) (by decide +kernel)) rfl), (jj_m (w := Cond.selects yX5_torn.cls yX5_torn yX5_torn) (List.mem_of_getElem? (i := 1268) (by decide +kernel)) rfl)⟩
def fX5_torn  (S : M2) : Option (Int32) :=
  some (S 23 0)

set_option maxHeartbeats 4000000 in
set_option maxRecDepth 100000 in
theorem tX5_torn (l : Launch) {V : JV M2} {b : Nat} {a : Nat → Nat} (hv : vX5 V b a) (S : M2)  : JC l V yX5_torn cX5_torn 1 (some .int) jj_i 0 [.ref b] S ((fX5_torn  S).map (fun r => (r, S))) := by
  refine jj_of (by decide) (Nat.le_of_ble_eq_true rfl) (fun E hlE hE => ?_)
  unfold fX5_torn
  refine J_sub (L' := [(0, .ref b)]) [0] rfl ?_
  refine J_aload_n hE dd_X5_torn_0 0 rfl rfl ?_
  refine J_get hE (hv.ob _) jc_X5 23 (by decide) fl_RX5_304 (v := .int (S 23 0)) rfl dd_X5_torn_1 ?_
  exact J_iret hE dd_X5_torn_4 rfl rfl
theorem dd_X5_count_0 : jd cX5_count 0 (.aload_n 0) 1 1 := ⟨by decide +kernel, rfl⟩
theorem dd_X5_count_1 : jd cX5_count 1 (.invokevirtual 199) 3 4 := ⟨by decide +kernel, rfl⟩
theorem dd_X5_count_4 : jd cX5_count 4 (.iload_n 1) 1 5 := ⟨by decide +kernel, rfl⟩
theorem dd_X5_count_40 : jd cX5_count 40 (.aload_n 0) 1 41 := ⟨by decide +kernel, rfl⟩
theorem dd_X5_count_41 : jd cX5_count 41 (.invokevirtual 247) 3 44 := ⟨by decide +kernel, rfl⟩
theorem dd_X5_count_44 : jd cX5_count 44 (.ireturn) 1 45 := ⟨by decide +kernel, rfl⟩
theorem dd_X5_count_45 : jd cX5_count 45 (.aload_n 0) 1 46 := ⟨by decide +kernel, rfl⟩
theorem dd_X5_count_46 : jd cX5_count 46 (.getfield 7) 3 49 := ⟨by decide +kernel, rfl⟩
theorem dd_X5_count_49 : jd cX5_count 49 (.bipush 49) 2 51 := ⟨by decide +kernel, rfl⟩
theorem dd_X5_count_51 : jd cX5_count 51 (.iaload) 1 52 := ⟨by decide +kernel, rfl⟩
theorem dd_X5_count_52 : jd cX5_count 52 (.ireturn) 1 53 := ⟨by decide +kernel, rfl⟩
theorem dd_X5_count_53 : jd cX5_count 53 (.aload_n 0) 1 54 := ⟨by decide +kernel, rfl⟩
theorem dd_X5_count_54 : jd cX5_count 54 (.getfield 16) 3 57 := ⟨by decide +kernel, rfl⟩
theorem dd_X5_count_57 : jd cX5_count 57 (.iconst 0) 1 58 := ⟨by decide +kernel, rfl⟩
theorem dd_X5_count_58 : jd cX5_count 58 (.baload) 1 59 := ⟨by decide +kernel, rfl⟩
theorem dd_X5_count_59 : jd cX5_count 59 (.invokestatic 129) 3 62 := ⟨by decide +kernel, rfl⟩
theorem dd_X5_count_62 : jd cX5_count 62 (.aload_n 0) 1 63 := ⟨by decide +kernel, rfl⟩
theorem dd_X5_count_63 : jd cX5_count 63 (.getfield 16) 3 66 := ⟨by decide +kernel, rfl⟩
theorem dd_X5_count_66 : jd cX5_count 66 (.iconst 1) 1 67 := ⟨by decide +kernel, rfl⟩
theorem dd_X5_count_67 : jd cX5_count 67 (.baload) 1 68 := ⟨by decide +kernel, rfl⟩
theorem dd_X5_count_68 : jd cX5_count 68 (.invokestatic 129) 3 71 := ⟨by decide +kernel, rfl⟩
theorem dd_X5_count_71 : jd cX5_count 71 (.iadd) 1 72 := ⟨by decide +kernel, rfl⟩
theorem dd_X5_count_72 : jd cX5_count 72 (.ireturn) 1 73 := ⟨by decide +kernel, rfl⟩
theorem dd_X5_count_73 : jd cX5_count 73 (.aload_n 0) 1 74 := ⟨by decide +kernel, rfl⟩
theorem dd_X5_count_74 : jd cX5_count 74 (.getfield 75) 3 77 := ⟨by decide +kernel, rfl⟩
theorem dd_X5_count_77 : jd cX5_count 77 (.ireturn) 1 78 := ⟨by decide +kernel, rfl⟩
theorem dd_X5_count_78 : jd cX5_count 78 (.aload_n 0) 1 79 := ⟨by decide +kernel, rfl⟩
theorem dd_X5_count_79 : jd cX5_count 79 (.getfield 29) 3 82 := ⟨by decide +kernel, rfl⟩
theorem dd_X5_count_82 : jd cX5_count 82 (.iconst 0) 1 83 := ⟨by decide +kernel, rfl⟩
theorem dd_X5_count_83 : jd cX5_count 83 (.iaload) 1 84 := ⟨by decide +kernel, rfl⟩
theorem dd_X5_count_84 : jd cX5_count 84 (.bipush (-4)) 2 86 := ⟨by decide +kernel, rfl⟩
theorem dd_X5_count_94 : jd cX5_count 94 (.aload_n 0) 1 95 := ⟨by decide +kernel, rfl⟩
theorem dd_X5_count_95 : jd cX5_count 95 (.getfield 32) 3 98 := ⟨by decide +kernel, rfl⟩
theorem dd_X5_count_98 : jd cX5_count 98 (.iconst 0) 1 99 := ⟨by decide +kernel, rfl⟩
theorem dd_X5_count_99 : jd cX5_count 99 (.iaload) 1 100 := ⟨by decide +kernel, rfl⟩
theorem dd_X5_count_100 : jd cX5_count 100 (.ireturn) 1 101 := ⟨by decide +kernel, rfl⟩
theorem dd_X5_count_89 : jd cX5_count 89 (.bipush (-4)) 2 91 := ⟨by decide +kernel, rfl⟩
theorem dd_X5_count_91 : jd cX5_count 91 (.goto 9) 3 94 := ⟨by decide +kernel, rfl⟩
theorem dd_X5_count_86 : jd cX5_count 86 (.if_icmp .ne 8) 3 89 := ⟨by decide +kernel, rfl⟩
theorem dd_X5_count_101 : jd cX5_count 101 (.iconst (-1)) 1 102 := ⟨by decide +kernel, rfl⟩
theorem dd_X5_count_102 : jd cX5_count 102 (.ireturn) 1 103 := ⟨by decide +kernel, rfl⟩
theorem dd_X5_count_5 : jd cX5_count 5 (.tableswitch 96 0 4 #[35, 40, 48, 68, 73]) 35 40 := ⟨by decide +kernel, rfl⟩
theorem m_X5_count : jmV yX5_count cX5_count 2 (some .int) 1 := ⟨⟨(jj_m (w := Cond.code yX5_count cX5_count 2 (some .int)) (List.mem_of_getElem? (i := 1273) (by decide +kernel)) rfl), (jj_m (w := Cond.initialized yX5_count.cls) (List.mem_of_getElem? (i := 69) (by decide +kernel)) rfl), ⟨by decide, by decide⟩, by decide +kernel⟩, (jj_m (w := Cond.instanceMethod yX5_count) (List.mem_of_getElem? (i := 1271) (by decide +kernel)) rfl), (jj_m (w := Cond.selects yX5_count.cls yX5_count yX5_count) (List.mem_of_getElem? (i := 1272) (by decide +kernel)) rfl)⟩
def fX5_count (i1 : Int32) (S : M2) : Option (Int32 × M2) :=
  (fX5_starts  S).bind fun q1 =>
  lt (q1) fun S2 =>
  if i1 = 0 then
    (fX5_allHoles  S2).bind fun r4 =>
    some (r4, S2)
  else
    if i1 = 1 then
      bnd (49 : Int32) 186 <|
      some ((S2 0 (49 : Int32).toNatClampNeg), S2)
    else
      if i1 = 2 then
        bnd (0 : Int32) 2 <|
        (fX5_flag (S2 2 (0 : Int32).toNatClampNeg)).bind fun r7 =>
        bnd (1 : Int32) 2 <|
        (fX5_flag (S2 2 (1 : Int32).toNatClampNeg)).bind fun r8 =>
        some ((r7 + r8), S2)
      else
        if i1 = 3 then
          some ((S2 12 0), S2)
        else
          if i1 = 4 then
            bnd (0 : Int32) 4 <|
            if (S2 20 (0 : Int32).toNatClampNeg) = (-4 : Int32) then
              some ((-4 : Int32), S2)
            else
              bnd (0 : Int32) 4 <|
              some ((S2 21 (0 : Int32).toNatClampNeg), S2)
          else
            some ((-1 : Int32), S2)

set_option maxHeartbeats 4000000 in
set_option maxRecDepth 100000 in
theorem tX5_count (l : Launch) {V : JV M2} {b : Nat} {a : Nat → Nat} (hv : vX5 V b a) (S : M2) (i1 : Int32) : JC l V yX5_count cX5_count 2 (some .int) jj_i 2 [.ref b, .int i1] S ((fX5_count i1 S).map (fun q => (q.1, q.2))) := by
  refine jj_of (by decide) (Nat.le_of_ble_eq_true rfl) (fun E hlE hE => ?_)
  unfold fX5_count
  refine J_sub (L' := [(0, .ref b), (1, .int i1)]) [0, 1] rfl ?_
  refine J_aload_n hE dd_X5_count_0 0 rfl rfl ?_
  refine J_invVwv hE (e := fun x => x) (As := []) (st := []) (tX5_starts E.2.1 hv S ) (hv.ob _) m_X5_starts rfl ml_RX5_199 (Nat.le_of_ble_eq_true rfl) (Nat.le_of_ble_eq_true rfl) rfl (Nat.le_of_ble_eq_true rfl) dd_X5_count_1 (fun q1 => ?_)
  refine J_letS (fun S2 => ?_)
  refine J_iload_n hE dd_X5_count_4 1 rfl rfl ?_
  refine J_ite (fun c3 => ?_) (fun c3 => ?_)
  · refine J_tsAt hE c3 (off := 35) (tgt := 40) dd_X5_count_5 (by decide) (by decide) (by decide) (by decide) ?_
    refine J_aload_n hE dd_X5_count_40 0 rfl rfl ?_
    refine J_invVri hE (As := []) (st := []) (tX5_allHoles E.2.1 hv S2 ) (hv.ob _) m_X5_allHoles rfl ml_RX5_247 (Nat.le_of_ble_eq_true rfl) (Nat.le_of_ble_eq_true rfl) rfl (Nat.le_of_ble_eq_true rfl) dd_X5_count_41 (fun r4 => ?_)
    exact J_iret hE dd_X5_count_44 rfl rfl
  · refine J_ite (fun c5 => ?_) (fun c5 => ?_)
    · refine J_tsAt hE c5 (off := 40) (tgt := 45) dd_X5_count_5 (by decide) (by decide) (by decide) (by decide) ?_
      refine J_aload_n hE dd_X5_count_45 0 rfl rfl ?_
      refine J_get hE (hv.ob _) jc_X5 0 (by decide) fl_RX5_7 (v := .ref (a 0)) rfl dd_X5_count_46 ?_
      refine J_bipush hE (v := (49 : Int32)) dd_X5_count_49 (by decide) ?_
      refine J_ald hE (hv.arr 0 (n := 186) (ty := .int) (by decide) _) dd_X5_count_51 ?_
      exact J_iret hE dd_X5_count_52 rfl rfl
    · refine J_ite (fun c6 => ?_) (fun c6 => ?_)
      · refine J_tsAt hE c6 (off := 48) (tgt := 53) dd_X5_count_5 (by decide) (by decide) (by decide) (by decide) ?_
        refine J_aload_n hE dd_X5_count_53 0 rfl rfl ?_
        refine J_get hE (hv.ob _) jc_X5 2 (by decide) fl_RX5_16 (v := .ref (a 2)) rfl dd_X5_count_54 ?_
        refine J_iconst hE (v := (0 : Int32)) dd_X5_count_57 (by decide) ?_
        refine J_zald hE (hv.arr 2 (n := 2) (ty := .boolean) (by decide) _) dd_X5_count_58 ?_
        refine J_invSri hE (As := [.int (S2 2 (0 : Int32).toNatClampNeg)]) (st := []) (tX5_flag E.2.1 V S2 (S2 2 (0 : Int32).toNatClampNeg)) m_X5_flag s_X5_flag rfl ml_RX5_129 (Nat.le_of_ble_eq_true rfl) (Nat.le_of_ble_eq_true rfl) rfl (Nat.le_of_ble_eq_true rfl) dd_X5_count_59 (fun r7 => ?_)
        refine J_aload_n hE dd_X5_count_62 0 rfl rfl ?_
        refine J_get hE (hv.ob _) jc_X5 2 (by decide) fl_RX5_16 (v := .ref (a 2)) rfl dd_X5_count_63 ?_
        refine J_iconst hE (v := (1 : Int32)) dd_X5_count_66 (by decide) ?_
        refine J_zald hE (hv.arr 2 (n := 2) (ty := .boolean) (by decide) _) dd_X5_count_67 ?_
        refine J_invSri hE (As := [.int (S2 2 (1 : Int32).toNatClampNeg)]) (st := [.int r7]) (tX5_flag E.2.1 V S2 (S2 2 (1 : Int32).toNatClampNeg)) m_X5_flag s_X5_flag rfl ml_RX5_129 (Nat.le_of_ble_eq_true rfl) (Nat.le_of_ble_eq_true rfl) rfl (Nat.le_of_ble_eq_true rfl) dd_X5_count_68 (fun r8 => ?_)
        refine J_iadd hE dd_X5_count_71 ?_
        exact J_iret hE dd_X5_count_72 rfl rfl
      · refine J_ite (fun c9 => ?_) (fun c9 => ?_)
        · refine J_tsAt hE c9 (off := 68) (tgt := 73) dd_X5_count_5 (by decide) (by decide) (by decide) (by decide) ?_
          refine J_aload_n hE dd_X5_count_73 0 rfl rfl ?_
          refine J_get hE (hv.ob _) jc_X5 12 (by decide) fl_RX5_75 (v := .int (S2 12 0)) rfl dd_X5_count_74 ?_
          exact J_iret hE dd_X5_count_77 rfl rfl
        · refine J_ite (fun c10 => ?_) (fun c10 => ?_)
          · refine J_tsAt hE c10 (off := 73) (tgt := 78) dd_X5_count_5 (by decide) (by decide) (by decide) (by decide) ?_
            refine J_aload_n hE dd_X5_count_78 0 rfl rfl ?_
            refine J_get hE (hv.ob _) jc_X5 20 (by decide) fl_RX5_29 (v := .ref (a 20)) rfl dd_X5_count_79 ?_
            refine J_iconst hE (v := (0 : Int32)) dd_X5_count_82 (by decide) ?_
            refine J_ald hE (hv.arr 20 (n := 4) (ty := .int) (by decide) _) dd_X5_count_83 ?_
            refine J_bipush hE (v := (-4 : Int32)) dd_X5_count_84 (by decide) ?_
            refine J_icmp_ne hE (tgt := 94) dd_X5_count_86 (by decide) (fun c11 => ?_) (fun c11 => ?_)
            · refine J_aload_n hE dd_X5_count_94 0 rfl rfl ?_
              refine J_get hE (hv.ob _) jc_X5 21 (by decide) fl_RX5_32 (v := .ref (a 21)) rfl dd_X5_count_95 ?_
              refine J_iconst hE (v := (0 : Int32)) dd_X5_count_98 (by decide) ?_
              refine J_ald hE (hv.arr 21 (n := 4) (ty := .int) (by decide) _) dd_X5_count_99 ?_
              exact J_iret hE dd_X5_count_100 rfl rfl
            · refine J_bipush hE (v := (-4 : Int32)) dd_X5_count_89 (by decide) ?_
              refine J_goto hE (tgt := 100) dd_X5_count_91 (by decide) ?_
              exact J_iret hE dd_X5_count_100 rfl rfl
          · refine J_tsOut hE (tgt := 101) dd_X5_count_5 (by have e0 : ¬ (i1).toInt = 0 := fun q => c3 (Int32.toInt_inj.mp (q.trans (by decide))); have e1 : ¬ (i1).toInt = 1 := fun q => c5 (Int32.toInt_inj.mp (q.trans (by decide))); have e2 : ¬ (i1).toInt = 2 := fun q => c6 (Int32.toInt_inj.mp (q.trans (by decide))); have e3 : ¬ (i1).toInt = 3 := fun q => c9 (Int32.toInt_inj.mp (q.trans (by decide))); have e4 : ¬ (i1).toInt = 4 := fun q => c10 (Int32.toInt_inj.mp (q.trans (by decide))); omega) (by decide) ?_
            refine J_iconst hE (v := (-1 : Int32)) dd_X5_count_101 (by decide) ?_
            exact J_iret hE dd_X5_count_102 rfl rfl
