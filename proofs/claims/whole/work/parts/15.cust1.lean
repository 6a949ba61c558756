theorem dd_X4_set_0 : jd cX4_set 0 (.iload_n 1) 1 1 := ⟨by decide +kernel, rfl⟩
theorem dd_X4_set_4 : jd cX4_set 4 (.iload_n 2) 1 5 := ⟨by decide +kernel, rfl⟩
theorem dd_X4_set_5 : jd cX4_set 5 (.iconst 0) 1 6 := ⟨by decide +kernel, rfl⟩
theorem dd_X4_set_6 : jd cX4_set 6 (.iconst 3) 1 7 := ⟨by decide +kernel, rfl⟩
theorem dd_X4_set_7 : jd cX4_set 7 (.invokestatic 44) 3 10 := ⟨by decide +kernel, rfl⟩
theorem dd_X4_set_13 : jd cX4_set 13 (.aload_n 0) 1 14 := ⟨by decide +kernel, rfl⟩
theorem dd_X4_set_14 : jd cX4_set 14 (.getfield 19) 3 17 := ⟨by decide +kernel, rfl⟩
theorem dd_X4_set_17 : jd cX4_set 17 (.getfield 79) 3 20 := ⟨by decide +kernel, rfl⟩
theorem dd_X4_set_20 : jd cX4_set 20 (.istore_n 3) 1 21 := ⟨by decide +kernel, rfl⟩
theorem dd_X4_set_21 : jd cX4_set 21 (.aload_n 0) 1 22 := ⟨by decide +kernel, rfl⟩
theorem dd_X4_set_22 : jd cX4_set 22 (.getfield 19) 3 25 := ⟨by decide +kernel, rfl⟩
theorem dd_X4_set_25 : jd cX4_set 25 (.iload_n 2) 1 26 := ⟨by decide +kernel, rfl⟩
theorem dd_X4_set_26 : jd cX4_set 26 (.putfield 79) 3 29 := ⟨by decide +kernel, rfl⟩
theorem dd_X4_set_29 : jd cX4_set 29 (.iload_n 3) 1 30 := ⟨by decide +kernel, rfl⟩
theorem dd_X4_set_30 : jd cX4_set 30 (.ireturn) 1 31 := ⟨by decide +kernel, rfl⟩
theorem dd_X4_set_10 : jd cX4_set 10 (.ifCond .eq 21) 3 13 := ⟨by decide +kernel, rfl⟩
theorem dd_X4_set_1 : jd cX4_set 1 (.ifCond .ne 30) 3 4 := ⟨by decide +kernel, rfl⟩
theorem dd_X4_set_31 : jd cX4_set 31 (.iload_n 1) 1 32 := ⟨by decide +kernel, rfl⟩
theorem dd_X4_set_32 : jd cX4_set 32 (.iconst 1) 1 33 := ⟨by decide +kernel, rfl⟩
theorem dd_X4_set_64 : jd cX4_set 64 (.iconst (-1)) 1 65 := ⟨by decide +kernel, rfl⟩
theorem dd_X4_set_65 : jd cX4_set 65 (.ireturn) 1 66 := ⟨by decide +kernel, rfl⟩
theorem dd_X4_set_36 : jd cX4_set 36 (.iload_n 2) 1 37 := ⟨by decide +kernel, rfl⟩
theorem dd_X4_set_37 : jd cX4_set 37 (.iconst 1) 1 38 := ⟨by decide +kernel, rfl⟩
theorem dd_X4_set_38 : jd cX4_set 38 (.bipush 9) 2 40 := ⟨by decide +kernel, rfl⟩
theorem dd_X4_set_40 : jd cX4_set 40 (.invokestatic 44) 3 43 := ⟨by decide +kernel, rfl⟩
theorem dd_X4_set_46 : jd cX4_set 46 (.aload_n 0) 1 47 := ⟨by decide +kernel, rfl⟩
theorem dd_X4_set_47 : jd cX4_set 47 (.getfield 19) 3 50 := ⟨by decide +kernel, rfl⟩
theorem dd_X4_set_50 : jd cX4_set 50 (.getfield 82) 3 53 := ⟨by decide +kernel, rfl⟩
theorem dd_X4_set_53 : jd cX4_set 53 (.istore_n 3) 1 54 := ⟨by decide +kernel, rfl⟩
theorem dd_X4_set_54 : jd cX4_set 54 (.aload_n 0) 1 55 := ⟨by decide +kernel, rfl⟩
theorem dd_X4_set_55 : jd cX4_set 55 (.getfield 19) 3 58 := ⟨by decide +kernel, rfl⟩
theorem dd_X4_set_58 : jd cX4_set 58 (.iload_n 2) 1 59 := ⟨by decide +kernel, rfl⟩
theorem dd_X4_set_59 : jd cX4_set 59 (.putfield 82) 3 62 := ⟨by decide +kernel, rfl⟩
theorem dd_X4_set_62 : jd cX4_set 62 (.iload_n 3) 1 63 := ⟨by decide +kernel, rfl⟩
theorem dd_X4_set_63 : jd cX4_set 63 (.ireturn) 1 64 := ⟨by decide +kernel, rfl⟩
theorem dd_X4_set_43 : jd cX4_set 43 (.ifCond .eq 21) 3 46 := ⟨by decide +kernel, rfl⟩
theorem dd_X4_set_33 : jd cX4_set 33 (.if_icmp .ne 31) 3 36 := ⟨by decide +kernel, rfl⟩
theorem m_X4_set : jmV yX4_set cX4_set 4 (some .int) 2 := ⟨⟨(jj_m (w := Cond.code yX4_set cX4_set 4 (some .int)) (List.mem_of_getElem? (i := 578) (by decide +kernel)) rfl), (jj_m (w := Cond.initialized yX4_set.cls) (List.mem_of_getElem? (i := 64) (by decide +kernel)) rfl), ⟨by decide, by decide⟩, by decide +kernel⟩, (jj_m (w := Cond.instanceMethod yX4_set) (List.mem_of_getElem? (i := 576) (by decide +kernel)) rfl), (jj_m (w := Cond.selects yX4_set.cls yX4_set yX4_set) (List.mem_of_getElem? (i := 577) (by decide +kernel)) rfl)⟩
def fX4_set (i1 : Int32) (i2 : Int32) (X : M3) : Option (Int32 × M3) :=
  jn (α := Option (Int32 × M3)) (β := Unit) (fun j1 =>
    if i1 = 0 then
      (fX4_within i2 (0 : Int32) (3 : Int32)).bind fun r2 =>
      if r2 = 0 then
        j1 ()
      else
        lt (((X 2) 12 0)) fun x3 =>
        lt ((va_up X 2 (va_up (X 2) 12 (fun _ => i2)))) fun X4 =>
        some (x3, X4)
    else
      j1 ()) (fun _ => 
    if i1 = (1 : Int32) then
      (fX4_within i2 (1 : Int32) (9 : Int32)).bind fun r8 =>
      if r8 = 0 then
        some ((-1 : Int32), X)
      else
        lt (((X 2) 13 0)) fun x9 =>
        lt ((va_up X 2 (va_up (X 2) 13 (fun _ => i2)))) fun X10 =>
        some (x9, X10)
    else
      some ((-1 : Int32), X))

set_option maxHeartbeats 4000000 in
set_option maxRecDepth 100000 in
theorem tX4_set (l : Launch) {V : JV M3} {ob : Nat → Nat} {aa : Nat → Nat → Nat} (hX : vX4 V ob aa) (X : M3) (i1 : Int32) (i2 : Int32) : JC l V yX4_set cX4_set 4 (some .int) jj_i 1 [.ref (ob 0), .int i1, .int i2] X ((fX4_set i1 i2 X).map (fun q => (q.1, q.2))) := by
  refine jj_of (by decide) (Nat.le_of_ble_eq_true rfl) (fun E hlE hE => ?_)
  unfold fX4_set
  refine J_sub (L' := [(0, .ref (ob 0)), (1, .int i1), (2, .int i2)]) [0, 1, 2] rfl ?_
  refine J_iload_n hE dd_X4_set_0 1 rfl rfl ?_
  refine J_jn (m := 31) (Lf := fun _ => [(0, .ref (ob 0)), (1, .int i1), (2, .int i2)]) (sf := fun _ => []) (Xf := fun _ => X) (fun _ => ?_) (fun hj1 => ?_)
  · show J V E _ _ 31 [(0, .ref (ob 0)), (1, .int i1), (2, .int i2)] [] X
    refine J_iload_n hE dd_X4_set_31 1 rfl rfl ?_
    refine J_iconst hE (v := (1 : Int32)) dd_X4_set_32 (by decide) ?_
    refine J_icmp_ne hE (tgt := 64) dd_X4_set_33 (by decide) (fun c12 => ?_) (fun c12 => ?_)
    · refine J_iconst hE (v := (-1 : Int32)) dd_X4_set_64 (by decide) ?_
      exact J_iret hE dd_X4_set_65 rfl rfl
    · refine J_iload_n hE dd_X4_set_36 2 rfl rfl ?_
      refine J_iconst hE (v := (1 : Int32)) dd_X4_set_37 (by decide) ?_
      refine J_bipush hE (v := (9 : Int32)) dd_X4_set_38 (by decide) ?_
      refine J_invSri hE (As := [.int i2, .int (1 : Int32), .int (9 : Int32)]) (st := []) (tX4_within E.2.1 V X i2 (1 : Int32) (9 : Int32)) m_X4_within s_X4_within rfl ml_RX4_44 (Nat.le_of_ble_eq_true rfl) (Nat.le_of_ble_eq_true rfl) rfl (Nat.le_of_ble_eq_true rfl) dd_X4_set_40 (fun r8 => ?_)
      refine J_if_eq hE (tgt := 64) dd_X4_set_43 (by decide) (fun c11 => ?_) (fun c11 => ?_)
      · refine J_iconst hE (v := (-1 : Int32)) dd_X4_set_64 (by decide) ?_
        exact J_iret hE dd_X4_set_65 rfl rfl
      · refine J_aload_n hE dd_X4_set_46 0 rfl rfl ?_
        refine J_get hE (hX.rt.ob _) jc_X4 1 (by decide) fl_RX4_19 (v := .ref (ob 2)) rfl dd_X4_set_47 ?_
        refine J_get hE ((hX.sh sh2).ob _) jc_X1 13 (by decide) fl_RX4_82 (v := .int ((X 2) 13 0)) rfl dd_X4_set_50 ?_
        refine J_leti (fun x9 => ?_)
        refine J_istore_n hE (L' := [(3, .int x9), (0, .ref (ob 0)), (1, .int i1), (2, .int i2)]) dd_X4_set_53 (Nat.le_of_ble_eq_true rfl) rfl rfl ?_
        refine J_aload_n hE dd_X4_set_54 1 rfl rfl ?_
        refine J_get hE (hX.rt.ob _) jc_X4 1 (by decide) fl_RX4_19 (v := .ref (ob 2)) rfl dd_X4_set_55 ?_
        refine J_iload_n hE dd_X4_set_58 3 rfl rfl ?_
        refine J_put hE (hX.sh sh2) jc_X1 13 (by decide) (by decide) fl_RX4_82 rfl rfl rfl (Nat.le_of_ble_eq_true rfl) dd_X4_set_59 ?_
        refine J_letS (fun X10 => ?_)
        refine J_iload_n hE dd_X4_set_62 0 rfl rfl ?_
        exact J_iret hE dd_X4_set_63 rfl rfl
  · refine J_if_ne hE (tgt := 31) dd_X4_set_1 (by decide) (fun c6 => ?_) (fun c6 => ?_)
    · refine J_sub [0, 1, 2] rfl ?_
      exact hj1 ()
    · refine J_iload_n hE dd_X4_set_4 2 rfl rfl ?_
      refine J_iconst hE (v := (0 : Int32)) dd_X4_set_5 (by decide) ?_
      refine J_iconst hE (v := (3 : Int32)) dd_X4_set_6 (by decide) ?_
      refine J_invSri hE (As := [.int i2, .int (0 : Int32), .int (3 : Int32)]) (st := []) (tX4_within E.2.1 V X i2 (0 : Int32) (3 : Int32)) m_X4_within s_X4_within rfl ml_RX4_44 (Nat.le_of_ble_eq_true rfl) (Nat.le_of_ble_eq_true rfl) rfl (Nat.le_of_ble_eq_true rfl) dd_X4_set_7 (fun r2 => ?_)
      refine J_if_eq hE (tgt := 31) dd_X4_set_10 (by decide) (fun c5 => ?_) (fun c5 => ?_)
      · refine J_sub [0, 1, 2] rfl ?_
        exact hj1 ()
      · refine J_aload_n hE dd_X4_set_13 0 rfl rfl ?_
        refine J_get hE (hX.rt.ob _) jc_X4 1 (by decide) fl_RX4_19 (v := .ref (ob 2)) rfl dd_X4_set_14 ?_
        refine J_get hE ((hX.sh sh2).ob _) jc_X1 12 (by decide) fl_RX4_79 (v := .int ((X 2) 12 0)) rfl dd_X4_set_17 ?_
        refine J_leti (fun x3 => ?_)
        refine J_istore_n hE (L' := [(3, .int x3), (0, .ref (ob 0)), (1, .int i1), (2, .int i2)]) dd_X4_set_20 (Nat.le_of_ble_eq_true rfl) rfl rfl ?_
        refine J_aload_n hE dd_X4_set_21 1 rfl rfl ?_
        refine J_get hE (hX.rt.ob _) jc_X4 1 (by decide) fl_RX4_19 (v := .ref (ob 2)) rfl dd_X4_set_22 ?_
        refine J_iload_n hE dd_X4_set_25 3 rfl rfl ?_
        refine J_put hE (hX.sh sh2) jc_X1 12 (by decide) (by decide) fl_RX4_79 rfl rfl rfl (Nat.le_of_ble_eq_true rfl) dd_X4_set_26 ?_
        refine J_letS (fun X4 => ?_)
        refine J_iload_n hE dd_X4_set_29 0 rfl rfl ?_
        exact J_iret hE dd_X4_set_30 rfl rfl
theorem dd_X4_go_0 : jd cX4_go 0 (.iload_n 1) 1 1 := ⟨by decide +kernel, rfl⟩
theorem dd_X4_go_1 : jd cX4_go 1 (.iconst 0) 1 2 := ⟨by decide +kernel, rfl⟩
theorem dd_X4_go_2 : jd cX4_go 2 (.bipush 20) 2 4 := ⟨by decide +kernel, rfl⟩
theorem dd_X4_go_4 : jd cX4_go 4 (.invokestatic 44) 3 7 := ⟨by decide +kernel, rfl⟩
theorem dd_X4_go_12 : jd cX4_go 12 (.aload_n 0) 1 13 := ⟨by decide +kernel, rfl⟩
theorem dd_X4_go_13 : jd cX4_go 13 (.getfield 19) 3 16 := ⟨by decide +kernel, rfl⟩
theorem dd_X4_go_16 : jd cX4_go 16 (.getfield 85) 3 19 := ⟨by decide +kernel, rfl⟩
theorem dd_X4_go_19 : jd cX4_go 19 (.iload_n 1) 1 20 := ⟨by decide +kernel, rfl⟩
theorem dd_X4_go_20 : jd cX4_go 20 (.iadd) 1 21 := ⟨by decide +kernel, rfl⟩
theorem dd_X4_go_21 : jd cX4_go 21 (.sipush 999) 3 24 := ⟨by decide +kernel, rfl⟩
theorem dd_X4_go_30 : jd cX4_go 30 (.iconst 0) 1 31 := ⟨by decide +kernel, rfl⟩
theorem dd_X4_go_31 : jd cX4_go 31 (.istore_n 2) 1 32 := ⟨by decide +kernel, rfl⟩
theorem dd_X4_go_32 : jd cX4_go 32 (.iload_n 2) 1 33 := ⟨by decide +kernel, rfl⟩
theorem dd_X4_go_33 : jd cX4_go 33 (.iload_n 1) 1 34 := ⟨by decide +kernel, rfl⟩
theorem dd_X4_go_37 : jd cX4_go 37 (.aload_n 0) 1 38 := ⟨by decide +kernel, rfl⟩
theorem dd_X4_go_38 : jd cX4_go 38 (.getfield 19) 3 41 := ⟨by decide +kernel, rfl⟩
theorem ml_RX4_161 : (Cond.methodLink "MothCustoms" 161 yX1_passNight : Cond) ∈ jj_tb := jj_m (List.mem_of_getElem? (i := 583) (by decide +kernel)) rfl
theorem dd_X4_go_41 : jd cX4_go 41 (.invokevirtual 161) 3 44 := ⟨by decide +kernel, rfl⟩
theorem dd_X4_go_44 : jd cX4_go 44 (.iinc 2 1) 3 47 := ⟨by decide +kernel, rfl⟩
theorem dd_X4_go_47 : jd cX4_go 47 (.goto (-15)) 3 50 := ⟨by decide +kernel, rfl⟩
theorem dd_X4_go_34 : jd cX4_go 34 (.if_icmp .ge 16) 3 37 := ⟨by decide +kernel, rfl⟩
theorem dd_X4_go_50 : jd cX4_go 50 (.aload_n 0) 1 51 := ⟨by decide +kernel, rfl⟩
theorem dd_X4_go_51 : jd cX4_go 51 (.getfield 19) 3 54 := ⟨by decide +kernel, rfl⟩
theorem ml_RX4_164 : (Cond.methodLink "MothCustoms" 164 yX1_dutyOfAll : Cond) ∈ jj_tb := jj_m (List.mem_of_getElem? (i := 597) (by decide +kernel)) rfl
theorem dd_X4_go_54 : jd cX4_go 54 (.invokevirtual 164) 3 57 := ⟨by decide +kernel, rfl⟩
theorem dd_X4_go_57 : jd cX4_go 57 (.ireturn) 1 58 := ⟨by decide +kernel, rfl⟩
theorem dd_X4_go_27 : jd cX4_go 27 (.bipush (-3)) 2 29 := ⟨by decide +kernel, rfl⟩
theorem dd_X4_go_29 : jd cX4_go 29 (.ireturn) 1 30 := ⟨by decide +kernel, rfl⟩
theorem dd_X4_go_24 : jd cX4_go 24 (.if_icmp .le 6) 3 27 := ⟨by decide +kernel, rfl⟩
theorem dd_X4_go_10 : jd cX4_go 10 (.iconst (-1)) 1 11 := ⟨by decide +kernel, rfl⟩
theorem dd_X4_go_11 : jd cX4_go 11 (.ireturn) 1 12 := ⟨by decide +kernel, rfl⟩
theorem dd_X4_go_7 : jd cX4_go 7 (.ifCond .ne 5) 3 10 := ⟨by decide +kernel, rfl⟩
theorem m_X4_go : jmV yX4_go cX4_go 3 (some .int) 1 := ⟨⟨(jj_m (w := Cond.code yX4_go cX4_go 3 (some .int)) (List.mem_of_getElem? (i := 582) (by decide +kernel)) rfl), (jj_m (w := Cond.initialized yX4_go.cls) (List.mem_of_getElem? (i := 64) (by decide +kernel)) rfl), ⟨by decide, by decide⟩, by decide +kernel⟩, (jj_m (w := Cond.instanceMethod yX4_go) (List.mem_of_getElem? (i := 580) (by decide +kernel)) rfl), (jj_m (w := Cond.selects yX4_go.cls yX4_go yX4_go) (List.mem_of_getElem? (i := 581) (by decide +kernel)) rfl)⟩
def fX4_go_L32 (i1 : Int32) (k50 : M3 → Option (Int32 × M3)) : Nat → Int32 → M3 → Option (Int32 × M3)
  | 0, _, _ => none
  | n_ + 1, v2, X3 =>
    if i1 ≤ v2 then
      k50 X3
    else
      (fX1_passNight  (X3 2)).bind fun q4 =>
      lt ((va_up X3 2 q4)) fun X5 =>
      lt (v2 + (1 : Int32)) fun x6 =>
      fX4_go_L32 i1 k50 n_ x6 X5

def fX4_go (i1 : Int32) (X : M3) : Option (Int32 × M3) :=
  (fX4_within i1 (0 : Int32) (20 : Int32)).bind fun r1 =>
  if r1 = 0 then
    some ((-1 : Int32), X)
  else
    if (((X 2) 14 0) + i1) ≤ (999 : Int32) then
      fX4_go_L32 i1
        (fun p8 =>
          (fX1_dutyOfAll  (p8 2)).bind fun r9 =>
          some (r9, p8))
        400 (0 : Int32) X
    else
      some ((-3 : Int32), X)

set_option maxHeartbeats 4000000 in
set_option maxRecDepth 100000 in
theorem tX4_go_L32 {V : JV M3} {ob : Nat → Nat} {aa : Nat → Nat → Nat} (hX : vX4 V ob aa) (i1 : Int32) {E : JE (M3) Int32} (hE : JOk V E cX4_go yX4_go.cls 3 5 (some .int) jj_i) {k50 : M3 → Option (Int32 × M3)} (hk50 : ∀ p, J V E (fun q => (q.1, q.2)) (k50 p) 50 [(0, .ref (ob 0))] [] p) : ∀ (n_ : Nat) (v2 : Int32) (X3 : M3), J V E (fun q => (q.1, q.2)) (fX4_go_L32 i1 k50 n_ v2 X3) 32 [(0, .ref (ob 0)), (1, .int i1), (2, .int v2)] [] X3 := by
  intro n_
  induction n_ with
  | zero =>
    intros
    exact J_none
  | succ n_ ih =>
    intros v2 X3
    rw [fX4_go_L32]
    refine J_iload_n hE dd_X4_go_32 2 rfl rfl ?_
    refine J_iload_n hE dd_X4_go_33 1 rfl rfl ?_
    refine J_icmp_ge hE (tgt := 50) dd_X4_go_34 (by decide) (fun c7 => ?_) (fun c7 => ?_)
    · refine J_sub [0] rfl ?_
      exact hk50 X3
    · refine J_aload_n hE dd_X4_go_37 0 rfl rfl ?_
      refine J_get hE (hX.rt.ob _) jc_X4 1 (by decide) fl_RX4_19 (v := .ref (ob 2)) rfl dd_X4_go_38 ?_
      refine J_invVwv hE (e := fun S => va_up X3 2 S) (As := []) (st := []) (JC.lift_v (e := fun S => va_up X3 2 S) (tX1_passNight E.2.1 (hX.shS X3 sh2) (X3 2) ) (va_up_eta _ _)) ((hX.sh sh2).ob _) m_X1_passNight rfl ml_RX4_161 (Nat.le_of_ble_eq_true rfl) (Nat.le_of_ble_eq_true rfl) rfl (Nat.le_of_ble_eq_true rfl) dd_X4_go_41 (fun q4 => ?_)
      refine J_letS (fun X5 => ?_)
      refine J_iincL hE (v := (v2 + (1 : Int32))) (Lf := fun x6 => [(2, .int x6), (0, .ref (ob 0)), (1, .int i1)]) dd_X4_go_44 (j := 2) rfl (congrArg (v2 + ·) (by decide)) (Nat.le_of_ble_eq_true rfl) (fun _ => rfl) (fun x6 => ?_)
      refine J_goto hE (tgt := 32) dd_X4_go_47 (by decide) ?_
      refine J_sub [1, 2, 0] rfl ?_
      exact ih x6 X5
set_option maxHeartbeats 4000000 in
set_option maxRecDepth 100000 in
theorem tX4_go (l : Launch) {V : JV M3} {ob : Nat → Nat} {aa : Nat → Nat → Nat} (hX : vX4 V ob aa) (X : M3) (i1 : Int32) : JC l V yX4_go cX4_go 3 (some .int) jj_i 5 [.ref (ob 0), .int i1] X ((fX4_go i1 X).map (fun q => (q.1, q.2))) := by
  refine jj_of (by decide) (Nat.le_of_ble_eq_true rfl) (fun E hlE hE => ?_)
  unfold fX4_go
  refine J_sub (L' := [(0, .ref (ob 0)), (1, .int i1)]) [0, 1] rfl ?_
  refine J_iload_n hE dd_X4_go_0 1 rfl rfl ?_
  refine J_iconst hE (v := (0 : Int32)) dd_X4_go_1 (by decide) ?_
  refine J_bipush hE (v := (20 : Int32)) dd_X4_go_2 (by decide) ?_
  refine J_invSri hE (As := [.int i1, .int (0 : Int32), .int (20 : Int32)]) (st := []) (tX4_within E.2.1 V X i1 (0 : Int32) (20 : Int32)) m_X4_within s_X4_within rfl ml_RX4_44 (Nat.le_of_ble_eq_true rfl) (Nat.le_of_ble_eq_true rfl) rfl (Nat.le_of_ble_eq_true rfl) dd_X4_go_4 (fun r1 => ?_)
  refine J_if_ne hE (tgt := 12) dd_X4_go_7 (by decide) (fun c11 => ?_) (fun c11 => ?_)
  · refine J_aload_n hE dd_X4_go_12 0 rfl rfl ?_
    refine J_get hE (hX.rt.ob _) jc_X4 1 (by decide) fl_RX4_19 (v := .ref (ob 2)) rfl dd_X4_go_13 ?_
    refine J_get hE ((hX.sh sh2).ob _) jc_X1 14 (by decide) fl_RX4_85 (v := .int ((X 2) 14 0)) rfl dd_X4_go_16 ?_
    refine J_iload_n hE dd_X4_go_19 1 rfl rfl ?_
    refine J_iadd hE dd_X4_go_20 ?_
    refine J_sipush hE (v := (999 : Int32)) dd_X4_go_21 (by decide) ?_
    refine J_icmp_le hE (tgt := 30) dd_X4_go_24 (by decide) (fun c10 => ?_) (fun c10 => ?_)
    · refine J_iconst hE (v := (0 : Int32)) dd_X4_go_30 (by decide) ?_
      refine J_istore_n hE (L' := [(2, .int (0 : Int32)), (0, .ref (ob 0)), (1, .int i1)]) dd_X4_go_31 (Nat.le_of_ble_eq_true rfl) rfl rfl ?_
      refine J_sub [1, 2, 0] rfl ?_
      refine tX4_go_L32 hX i1 hE (fun p8 => ?_) 400 (0 : Int32) X
      show J V E _ _ 50 [(0, .ref (ob 0))] [] p8
      refine J_aload_n hE dd_X4_go_50 0 rfl rfl ?_
      refine J_get hE (hX.rt.ob _) jc_X4 1 (by decide) fl_RX4_19 (v := .ref (ob 2)) rfl dd_X4_go_51 ?_
      refine J_invVri hE (As := []) (st := []) (JC.lift_r (e := fun S => va_up p8 2 S) (tX1_dutyOfAll E.2.1 (hX.shS p8 sh2) (p8 2) ) (va_up_eta _ _)) ((hX.sh sh2).ob _) m_X1_dutyOfAll rfl ml_RX4_164 (Nat.le_of_ble_eq_true rfl) (Nat.le_of_ble_eq_true rfl) rfl (Nat.le_of_ble_eq_true rfl) dd_X4_go_54 (fun r9 => ?_)
      exact J_iret hE dd_X4_go_57 rfl rfl
    · refine J_bipush hE (v := (-3 : Int32)) dd_X4_go_27 (by decide) ?_
      exact J_iret hE dd_X4_go_29 rfl rfl
  · refine J_iconst hE (v := (-1 : Int32)) dd_X4_go_10 (by decide) ?_
    exact J_iret hE dd_X4_go_11 rfl rfl
theorem dd_X4_ahead_0 : jd cX4_ahead 0 (.iload_n 1) 1 1 := ⟨by decide +kernel, rfl⟩
theorem dd_X4_ahead_1 : jd cX4_ahead 1 (.iconst 0) 1 2 := ⟨by decide +kernel, rfl⟩
theorem dd_X4_ahead_2 : jd cX4_ahead 2 (.bipush 20) 2 4 := ⟨by decide +kernel, rfl⟩
theorem dd_X4_ahead_4 : jd cX4_ahead 4 (.invokestatic 44) 3 7 := ⟨by decide +kernel, rfl⟩
theorem dd_X4_ahead_19 : jd cX4_ahead 19 (.iconst (-1)) 1 20 := ⟨by decide +kernel, rfl⟩
theorem dd_X4_ahead_20 : jd cX4_ahead 20 (.ireturn) 1 21 := ⟨by decide +kernel, rfl⟩
theorem dd_X4_ahead_10 : jd cX4_ahead 10 (.iload_n 2) 1 11 := ⟨by decide +kernel, rfl⟩
theorem dd_X4_ahead_11 : jd cX4_ahead 11 (.iconst 0) 1 12 := ⟨by decide +kernel, rfl⟩
theorem dd_X4_ahead_12 : jd cX4_ahead 12 (.iconst 2) 1 13 := ⟨by decide +kernel, rfl⟩
theorem dd_X4_ahead_13 : jd cX4_ahead 13 (.invokestatic 44) 3 16 := ⟨by decide +kernel, rfl⟩
theorem dd_X4_ahead_21 : jd cX4_ahead 21 (.aload_n 0) 1 22 := ⟨by decide +kernel, rfl⟩
theorem dd_X4_ahead_22 : jd cX4_ahead 22 (.getfield 23) 3 25 := ⟨by decide +kernel, rfl⟩
theorem dd_X4_ahead_25 : jd cX4_ahead 25 (.aload_n 0) 1 26 := ⟨by decide +kernel, rfl⟩
theorem dd_X4_ahead_26 : jd cX4_ahead 26 (.getfield 19) 3 29 := ⟨by decide +kernel, rfl⟩
theorem dd_X4_ahead_29 : jd cX4_ahead 29 (.invokevirtual 66) 3 32 := ⟨by decide +kernel, rfl⟩
theorem dd_X4_ahead_32 : jd cX4_ahead 32 (.iconst 0) 1 33 := ⟨by decide +kernel, rfl⟩
theorem dd_X4_ahead_33 : jd cX4_ahead 33 (.istore_n 3) 1 34 := ⟨by decide +kernel, rfl⟩
theorem dd_X4_ahead_34 : jd cX4_ahead 34 (.iload_n 3) 1 35 := ⟨by decide +kernel, rfl⟩
theorem dd_X4_ahead_35 : jd cX4_ahead 35 (.iload_n 1) 1 36 := ⟨by decide +kernel, rfl⟩
theorem dd_X4_ahead_39 : jd cX4_ahead 39 (.aload_n 0) 1 40 := ⟨by decide +kernel, rfl⟩
theorem dd_X4_ahead_40 : jd cX4_ahead 40 (.getfield 23) 3 43 := ⟨by decide +kernel, rfl⟩
theorem dd_X4_ahead_43 : jd cX4_ahead 43 (.invokevirtual 161) 3 46 := ⟨by decide +kernel, rfl⟩
theorem dd_X4_ahead_46 : jd cX4_ahead 46 (.iinc 3 1) 3 49 := ⟨by decide +kernel, rfl⟩
theorem dd_X4_ahead_49 : jd cX4_ahead 49 (.goto (-15)) 3 52 := ⟨by decide +kernel, rfl⟩
theorem dd_X4_ahead_36 : jd cX4_ahead 36 (.if_icmp .ge 16) 3 39 := ⟨by decide +kernel, rfl⟩
theorem dd_X4_ahead_52 : jd cX4_ahead 52 (.iload_n 2) 1 53 := ⟨by decide +kernel, rfl⟩
theorem dd_X4_ahead_64 : jd cX4_ahead 64 (.iload_n 2) 1 65 := ⟨by decide +kernel, rfl⟩
theorem dd_X4_ahead_65 : jd cX4_ahead 65 (.iconst 1) 1 66 := ⟨by decide +kernel, rfl⟩
theorem dd_X4_ahead_79 : jd cX4_ahead 79 (.aload_n 0) 1 80 := ⟨by decide +kernel, rfl⟩
theorem dd_X4_ahead_80 : jd cX4_ahead 80 (.getfield 23) 3 83 := ⟨by decide +kernel, rfl⟩
theorem dd_X4_ahead_83 : jd cX4_ahead 83 (.invokevirtual 91) 3 86 := ⟨by decide +kernel, rfl⟩
theorem dd_X4_ahead_86 : jd cX4_ahead 86 (.ireturn) 1 87 := ⟨by decide +kernel, rfl⟩
theorem dd_X4_ahead_69 : jd cX4_ahead 69 (.aload_n 0) 1 70 := ⟨by decide +kernel, rfl⟩
theorem dd_X4_ahead_70 : jd cX4_ahead 70 (.getfield 23) 3 73 := ⟨by decide +kernel, rfl⟩
theorem ml_RX4_167 : (Cond.methodLink "MothCustoms" 167 yX1_holesInAll : Cond) ∈ jj_tb := jj_m (List.mem_of_getElem? (i := 606) (by decide +kernel)) rfl
theorem dd_X4_ahead_73 : jd cX4_ahead 73 (.invokevirtual 167) 3 76 := ⟨by decide +kernel, rfl⟩
theorem dd_X4_ahead_76 : jd cX4_ahead 76 (.goto 10) 3 79 := ⟨by decide +kernel, rfl⟩
theorem dd_X4_ahead_66 : jd cX4_ahead 66 (.if_icmp .ne 13) 3 69 := ⟨by decide +kernel, rfl⟩
theorem dd_X4_ahead_56 : jd cX4_ahead 56 (.aload_n 0) 1 57 := ⟨by decide +kernel, rfl⟩
theorem dd_X4_ahead_57 : jd cX4_ahead 57 (.getfield 23) 3 60 := ⟨by decide +kernel, rfl⟩
theorem dd_X4_ahead_60 : jd cX4_ahead 60 (.invokevirtual 164) 3 63 := ⟨by decide +kernel, rfl⟩
theorem dd_X4_ahead_63 : jd cX4_ahead 63 (.ireturn) 1 64 := ⟨by decide +kernel, rfl⟩
theorem dd_X4_ahead_53 : jd cX4_ahead 53 (.ifCond .ne 11) 3 56 := ⟨by decide +kernel, rfl⟩
theorem dd_X4_ahead_16 : jd cX4_ahead 16 (.ifCond .ne 5) 3 19 := ⟨by decide +kernel, rfl⟩
theorem dd_X4_ahead_7 : jd cX4_ahead 7 (.ifCond .eq 12) 3 10 := ⟨by decide +kernel, rfl⟩
theorem m_X4_ahead : jmV yX4_ahead cX4_ahead 4 (some .int) 2 := ⟨⟨(jj_m (w := Cond.code yX4_ahead cX4_ahead 4 (some .int)) (List.mem_of_getElem? (i := 605) (by decide +kernel)) rfl), (jj_m (w := Cond.initialized yX4_ahead.cls) (List.mem_of_getElem? (i := 64) (by decide +kernel)) rfl), ⟨by decide, by decide⟩, by decide +kernel⟩, (jj_m (w := Cond.instanceMethod yX4_ahead) (List.mem_of_getElem? (i := 603) (by decide +kernel)) rfl), (jj_m (w := Cond.selects yX4_ahead.cls yX4_ahead yX4_ahead) (List.mem_of_getElem? (i := 604) (by decide +kernel)) rfl)⟩
def fX4_ahead_L34 (i1 : Int32) (i2 : Int32) (k52 : M3 → Option (Int32 × M3)) : Nat → Int32 → M3 → Option (Int32 × M3)
  | 0, _, _ => none
  | n_ + 1, v5, X6 =>
    if i1 ≤ v5 then
      k52 X6
    else
      (fX1_passNight  (X6 3)).bind fun q7 =>
      lt ((va_up X6 3 q7)) fun X8 =>
      lt (v5 + (1 : Int32)) fun x9 =>
      fX4_ahead_L34 i1 i2 k52 n_ x9 X8

def fX4_ahead (i1 : Int32) (i2 : Int32) (X : M3) : Option (Int32 × M3) :=
  (fX4_within i1 (0 : Int32) (20 : Int32)).bind fun r1 =>
  if r1 = 0 then
    some ((-1 : Int32), X)
  else
    (fX4_within i2 (0 : Int32) (2 : Int32)).bind fun r2 =>
    if r2 = 0 then
      some ((-1 : Int32), X)
    else
      (fX1_copyFrom  (X 3) (X 2)).bind fun q3 =>
      lt ((va_up X 3 q3)) fun X4 =>
      fX4_ahead_L34 i1 i2
        (fun p11 =>
          if i2 = 0 then
            (fX1_dutyOfAll  (p11 3)).bind fun r15 =>
            some (r15, p11)
          else
            if i2 = (1 : Int32) then
              (fX1_holesInAll  (p11 3)).bind fun r13 =>
              some (r13, p11)
            else
              (fX1_eatenUp  (p11 3)).bind fun r12 =>
              some (r12, p11))
        400 (0 : Int32) X4

set_option maxHeartbeats 4000000 in
set_option maxRecDepth 100000 in
theorem tX4_ahead_L34 {V : JV M3} {ob : Nat → Nat} {aa : Nat → Nat → Nat} (hX : vX4 V ob aa) (i1 : Int32) (i2 : Int32) {E : JE (M3) Int32} (hE : JOk V E cX4_ahead yX4_ahead.cls 4 5 (some .int) jj_i) {k52 : M3 → Option (Int32 × M3)} (hk52 : ∀ p, J V E (fun q => (q.1, q.2)) (k52 p) 52 [(0, .ref (ob 0)), (2, .int i2)] [] p) : ∀ (n_ : Nat) (v5 : Int32) (X6 : M3), J V E (fun q => (q.1, q.2)) (fX4_ahead_L34 i1 i2 k52 n_ v5 X6) 34 [(0, .ref (ob 0)), (1, .int i1), (2, .int i2), (3, .int v5)] [] X6 := by
  intro n_
  induction n_ with
  | zero =>
    intros
    exact J_none
  | succ n_ ih =>
    intros v5 X6
    rw [fX4_ahead_L34]
    refine J_iload_n hE dd_X4_ahead_34 3 rfl rfl ?_
    refine J_iload_n hE dd_X4_ahead_35 1 rfl rfl ?_
    refine J_icmp_ge hE (tgt := 52) dd_X4_ahead_36 (by decide) (fun c10 => ?_) (fun c10 => ?_)
    · refine J_sub [0, 2] rfl ?_
      exact hk52 X6
    · refine J_aload_n hE dd_X4_ahead_39 0 rfl rfl ?_
      refine J_get hE (hX.rt.ob _) jc_X4 2 (by decide) fl_RX4_23 (v := .ref (ob 3)) rfl dd_X4_ahead_40 ?_
      refine J_invVwv hE (e := fun S => va_up X6 3 S) (As := []) (st := []) (JC.lift_v (e := fun S => va_up X6 3 S) (tX1_passNight E.2.1 (hX.shS X6 sh3) (X6 3) ) (va_up_eta _ _)) ((hX.sh sh3).ob _) m_X1_passNight rfl ml_RX4_161 (Nat.le_of_ble_eq_true rfl) (Nat.le_of_ble_eq_true rfl) rfl (Nat.le_of_ble_eq_true rfl) dd_X4_ahead_43 (fun q7 => ?_)
      refine J_letS (fun X8 => ?_)
      refine J_iincL hE (v := (v5 + (1 : Int32))) (Lf := fun x9 => [(3, .int x9), (0, .ref (ob 0)), (1, .int i1), (2, .int i2)]) dd_X4_ahead_46 (j := 3) rfl (congrArg (v5 + ·) (by decide)) (Nat.le_of_ble_eq_true rfl) (fun _ => rfl) (fun x9 => ?_)
      refine J_goto hE (tgt := 34) dd_X4_ahead_49 (by decide) ?_
      refine J_sub [1, 2, 3, 0] rfl ?_
      exact ih x9 X8
set_option maxHeartbeats 4000000 in
set_option maxRecDepth 100000 in
theorem tX4_ahead (l : Launch) {V : JV M3} {ob : Nat → Nat} {aa : Nat → Nat → Nat} (hX : vX4 V ob aa) (X : M3) (i1 : Int32) (i2 : Int32) : JC l V yX4_ahead cX4_ahead 4 (some .int) jj_i 5 [.ref (ob 0), .int i1, .int i2] X ((fX4_ahead i1 i2 X).map (fun q => (q.1, q.2))) := by
  refine jj_of (by decide) (Nat.le_of_ble_eq_true rfl) (fun E hlE hE => ?_)
  unfold fX4_ahead
  refine J_sub (L' := [(0, .ref (ob 0)), (1, .int i1), (2, .int i2)]) [0, 1, 2] rfl ?_
  refine J_iload_n hE dd_X4_ahead_0 1 rfl rfl ?_
  refine J_iconst hE (v := (0 : Int32)) dd_X4_ahead_1 (by decide) ?_
  refine J_bipush hE (v := (20 : Int32)) dd_X4_ahead_2 (by decide) ?_
  refine J_invSri hE (As := [.int i1, .int (0 : Int32), .int (20 : Int32)]) (st := []) (tX4_within E.2.1 V X i1 (0 : Int32) (20 : Int32)) m_X4_within s_X4_within rfl ml_RX4_44 (Nat.le_of_ble_eq_true rfl) (Nat.le_of_ble_eq_true rfl) rfl (Nat.le_of_ble_eq_true rfl) dd_X4_ahead_4 (fun r1 => ?_)
  refine J_if_eq hE (tgt := 19) dd_X4_ahead_7 (by decide) (fun c18 => ?_) (fun c18 => ?_)
  · refine J_iconst hE (v := (-1 : Int32)) dd_X4_ahead_19 (by decide) ?_
    exact J_iret hE dd_X4_ahead_20 rfl rfl
  · refine J_iload_n hE dd_X4_ahead_10 2 rfl rfl ?_
    refine J_iconst hE (v := (0 : Int32)) dd_X4_ahead_11 (by decide) ?_
    refine J_iconst hE (v := (2 : Int32)) dd_X4_ahead_12 (by decide) ?_
    refine J_invSri hE (As := [.int i2, .int (0 : Int32), .int (2 : Int32)]) (st := []) (tX4_within E.2.1 V X i2 (0 : Int32) (2 : Int32)) m_X4_within s_X4_within rfl ml_RX4_44 (Nat.le_of_ble_eq_true rfl) (Nat.le_of_ble_eq_true rfl) rfl (Nat.le_of_ble_eq_true rfl) dd_X4_ahead_13 (fun r2 => ?_)
    refine J_if_ne hE (tgt := 21) dd_X4_ahead_16 (by decide) (fun c17 => ?_) (fun c17 => ?_)
    · refine J_aload_n hE dd_X4_ahead_21 0 rfl rfl ?_
      refine J_get hE (hX.rt.ob _) jc_X4 2 (by decide) fl_RX4_23 (v := .ref (ob 3)) rfl dd_X4_ahead_22 ?_
      refine J_aload_n hE dd_X4_ahead_25 0 rfl rfl ?_
      refine J_get hE (hX.rt.ob _) jc_X4 1 (by decide) fl_RX4_19 (v := .ref (ob 2)) rfl dd_X4_ahead_26 ?_
      refine J_invVwv hE (e := fun S => va_up X 3 S) (As := [.ref (ob 2)]) (st := []) (JC.lift_v (e := fun S => va_up X 3 S) (tX1_copyFrom E.2.1 (hX.shS X sh3) (hX.shR X 3 sh2 (by decide)) (X 3) ) (va_up_eta _ _)) ((hX.sh sh3).ob _) m_X1_copyFrom rfl ml_RX4_66 (Nat.le_of_ble_eq_true rfl) (Nat.le_of_ble_eq_true rfl) rfl (Nat.le_of_ble_eq_true rfl) dd_X4_ahead_29 (fun q3 => ?_)
      refine J_letS (fun X4 => ?_)
      refine J_iconst hE (v := (0 : Int32)) dd_X4_ahead_32 (by decide) ?_
      refine J_istore_n hE (L' := [(3, .int (0 : Int32)), (0, .ref (ob 0)), (1, .int i1), (2, .int i2)]) dd_X4_ahead_33 (Nat.le_of_ble_eq_true rfl) rfl rfl ?_
      refine J_sub [1, 2, 3, 0] rfl ?_
      refine tX4_ahead_L34 hX i1 i2 hE (fun p11 => ?_) 400 (0 : Int32) X4
      show J V E _ _ 52 [(0, .ref (ob 0)), (2, .int i2)] [] p11
      refine J_iload_n hE dd_X4_ahead_52 1 rfl rfl ?_
      refine J_if_ne hE (tgt := 64) dd_X4_ahead_53 (by decide) (fun c16 => ?_) (fun c16 => ?_)
      · refine J_iload_n hE dd_X4_ahead_64 1 rfl rfl ?_
        refine J_iconst hE (v := (1 : Int32)) dd_X4_ahead_65 (by decide) ?_
        refine J_icmp_ne hE (tgt := 79) dd_X4_ahead_66 (by decide) (fun c14 => ?_) (fun c14 => ?_)
        · refine J_aload_n hE dd_X4_ahead_79 0 rfl rfl ?_
          refine J_get hE (hX.rt.ob _) jc_X4 2 (by decide) fl_RX4_23 (v := .ref (ob 3)) rfl dd_X4_ahead_80 ?_
          refine J_invVri hE (As := []) (st := []) (JC.lift_r (e := fun S => va_up p11 3 S) (tX1_eatenUp E.2.1 (hX.shS p11 sh3) (p11 3) ) (va_up_eta _ _)) ((hX.sh sh3).ob _) m_X1_eatenUp rfl ml_RX4_91 (Nat.le_of_ble_eq_true rfl) (Nat.le_of_ble_eq_true rfl) rfl (Nat.le_of_ble_eq_true rfl) dd_X4_ahead_83 (fun r12 => ?_)
          exact J_iret hE dd_X4_ahead_86 rfl rfl
        · refine J_aload_n hE dd_X4_ahead_69 0 rfl rfl ?_
          refine J_get hE (hX.rt.ob _) jc_X4 2 (by decide) fl_RX4_23 (v := .ref (ob 3)) rfl dd_X4_ahead_70 ?_
          refine J_invVri hE (As := []) (st := []) (JC.lift_r (e := fun S => va_up p11 3 S) (tX1_holesInAll E.2.1 (hX.shS p11 sh3) (p11 3) ) (va_up_eta _ _)) ((hX.sh sh3).ob _) m_X1_holesInAll rfl ml_RX4_167 (Nat.le_of_ble_eq_true rfl) (Nat.le_of_ble_eq_true rfl) rfl (Nat.le_of_ble_eq_true rfl) dd_X4_ahead_73 (fun r13 => ?_)
          refine J_goto hE (tgt := 86) dd_X4_ahead_76 (by decide) ?_
          exact J_iret hE dd_X4_ahead_86 rfl rfl
      · refine J_aload_n hE dd_X4_ahead_56 0 rfl rfl ?_
        refine J_get hE (hX.rt.ob _) jc_X4 2 (by decide) fl_RX4_23 (v := .ref (ob 3)) rfl dd_X4_ahead_57 ?_
        refine J_invVri hE (As := []) (st := []) (JC.lift_r (e := fun S => va_up p11 3 S) (tX1_dutyOfAll E.2.1 (hX.shS p11 sh3) (p11 3) ) (va_up_eta _ _)) ((hX.sh sh3).ob _) m_X1_dutyOfAll rfl ml_RX4_164 (Nat.le_of_ble_eq_true rfl) (Nat.le_of_ble_eq_true rfl) rfl (Nat.le_of_ble_eq_true rfl) dd_X4_ahead_60 (fun r15 => ?_)
        exact J_iret hE dd_X4_ahead_63 rfl rfl
    · refine J_iconst hE (v := (-1 : Int32)) dd_X4_ahead_19 (by decide) ?_
      exact J_iret hE dd_X4_ahead_20 rfl rfl
theorem dd_X4_when_0 : jd cX4_when 0 (.aload_n 0) 1 1 := ⟨by decide +kernel, rfl⟩
theorem dd_X4_when_1 : jd cX4_when 1 (.getfield 19) 3 4 := ⟨by decide +kernel, rfl⟩
theorem dd_X4_when_4 : jd cX4_when 4 (.iload_n 1) 1 5 := ⟨by decide +kernel, rfl⟩
theorem dd_X4_when_5 : jd cX4_when 5 (.invokevirtual 95) 3 8 := ⟨by decide +kernel, rfl⟩
theorem dd_X4_when_13 : jd cX4_when 13 (.aload_n 0) 1 14 := ⟨by decide +kernel, rfl⟩
theorem dd_X4_when_14 : jd cX4_when 14 (.getfield 23) 3 17 := ⟨by decide +kernel, rfl⟩
theorem dd_X4_when_17 : jd cX4_when 17 (.aload_n 0) 1 18 := ⟨by decide +kernel, rfl⟩
theorem dd_X4_when_18 : jd cX4_when 18 (.getfield 19) 3 21 := ⟨by decide +kernel, rfl⟩
theorem dd_X4_when_21 : jd cX4_when 21 (.invokevirtual 66) 3 24 := ⟨by decide +kernel, rfl⟩
theorem dd_X4_when_24 : jd cX4_when 24 (.iconst 0) 1 25 := ⟨by decide +kernel, rfl⟩
theorem dd_X4_when_25 : jd cX4_when 25 (.istore_n 2) 1 26 := ⟨by decide +kernel, rfl⟩
theorem dd_X4_when_26 : jd cX4_when 26 (.iload_n 2) 1 27 := ⟨by decide +kernel, rfl⟩
theorem dd_X4_when_27 : jd cX4_when 27 (.bipush 40) 2 29 := ⟨by decide +kernel, rfl⟩
theorem dd_X4_when_32 : jd cX4_when 32 (.aload_n 0) 1 33 := ⟨by decide +kernel, rfl⟩
theorem dd_X4_when_33 : jd cX4_when 33 (.getfield 23) 3 36 := ⟨by decide +kernel, rfl⟩
theorem dd_X4_when_36 : jd cX4_when 36 (.iload_n 1) 1 37 := ⟨by decide +kernel, rfl⟩
theorem ml_RX4_170 : (Cond.methodLink "MothCustoms" 170 yX1_isEatenUp : Cond) ∈ jj_tb := jj_m (List.mem_of_getElem? (i := 614) (by decide +kernel)) rfl
theorem dd_X4_when_37 : jd cX4_when 37 (.invokevirtual 170) 3 40 := ⟨by decide +kernel, rfl⟩
theorem dd_X4_when_45 : jd cX4_when 45 (.aload_n 0) 1 46 := ⟨by decide +kernel, rfl⟩
theorem dd_X4_when_46 : jd cX4_when 46 (.getfield 23) 3 49 := ⟨by decide +kernel, rfl⟩
theorem dd_X4_when_49 : jd cX4_when 49 (.invokevirtual 161) 3 52 := ⟨by decide +kernel, rfl⟩
theorem dd_X4_when_52 : jd cX4_when 52 (.iinc 2 1) 3 55 := ⟨by decide +kernel, rfl⟩
theorem dd_X4_when_55 : jd cX4_when 55 (.goto (-29)) 3 58 := ⟨by decide +kernel, rfl⟩
theorem dd_X4_when_43 : jd cX4_when 43 (.iload_n 2) 1 44 := ⟨by decide +kernel, rfl⟩
theorem dd_X4_when_44 : jd cX4_when 44 (.ireturn) 1 45 := ⟨by decide +kernel, rfl⟩
theorem dd_X4_when_40 : jd cX4_when 40 (.ifCond .eq 5) 3 43 := ⟨by decide +kernel, rfl⟩
theorem dd_X4_when_29 : jd cX4_when 29 (.if_icmp .gt 29) 3 32 := ⟨by decide +kernel, rfl⟩
theorem dd_X4_when_58 : jd cX4_when 58 (.bipush (-4)) 2 60 := ⟨by decide +kernel, rfl⟩
theorem dd_X4_when_60 : jd cX4_when 60 (.ireturn) 1 61 := ⟨by decide +kernel, rfl⟩
theorem dd_X4_when_11 : jd cX4_when 11 (.iconst (-1)) 1 12 := ⟨by decide +kernel, rfl⟩
theorem dd_X4_when_12 : jd cX4_when 12 (.ireturn) 1 13 := ⟨by decide +kernel, rfl⟩
theorem dd_X4_when_8 : jd cX4_when 8 (.ifCond .ne 5) 3 11 := ⟨by decide +kernel, rfl⟩
theorem m_X4_when : jmV yX4_when cX4_when 3 (some .int) 1 := ⟨⟨(jj_m (w := Cond.code yX4_when cX4_when 3 (some .int)) (List.mem_of_getElem? (i := 613) (by decide +kernel)) rfl), (jj_m (w := Cond.initialized yX4_when.cls) (List.mem_of_getElem? (i := 64) (by decide +kernel)) rfl), ⟨by decide, by decide⟩, by decide +kernel⟩, (jj_m (w := Cond.instanceMethod yX4_when) (List.mem_of_getElem? (i := 611) (by decide +kernel)) rfl), (jj_m (w := Cond.selects yX4_when.cls yX4_when yX4_when) (List.mem_of_getElem? (i := 612) (by decide +kernel)) rfl)⟩
def fX4_when_L26 (i1 : Int32) (k58 : M3 → Option (Int32 × M3)) : Nat → Int32 → M3 → Option (Int32 × M3)
  | 0, _, _ => none
  | n_ + 1, v4, X5 =>
    if (40 : Int32) < v4 then
      k58 X5
    else
      (fX1_isEatenUp i1 (X5 3)).bind fun r6 =>
      if r6 = 0 then
        (fX1_passNight  (X5 3)).bind fun q7 =>
        lt ((va_up X5 3 q7)) fun X8 =>
        lt (v4 + (1 : Int32)) fun x9 =>
        fX4_when_L26 i1 k58 n_ x9 X8
      else
        some (v4, X5)

def fX4_when (i1 : Int32) (X : M3) : Option (Int32 × M3) :=
  (fX1_hasBolt i1 (X 2)).bind fun r1 =>
  if r1 = 0 then
    some ((-1 : Int32), X)
  else
    (fX1_copyFrom  (X 3) (X 2)).bind fun q2 =>
    lt ((va_up X 3 q2)) fun X3 =>
    fX4_when_L26 i1
      (fun p12 =>
        some ((-4 : Int32), p12))
      400 (0 : Int32) X3

set_option maxHeartbeats 4000000 in
set_option maxRecDepth 100000 in
theorem tX4_when_L26 {V : JV M3} {ob : Nat → Nat} {aa : Nat → Nat → Nat} (hX : vX4 V ob aa) (i1 : Int32) {E : JE (M3) Int32} (hE : JOk V E cX4_when yX4_when.cls 3 5 (some .int) jj_i) {k58 : M3 → Option (Int32 × M3)} (hk58 : ∀ p, J V E (fun q => (q.1, q.2)) (k58 p) 58 [] [] p) : ∀ (n_ : Nat) (v4 : Int32) (X5 : M3), J V E (fun q => (q.1, q.2)) (fX4_when_L26 i1 k58 n_ v4 X5) 26 [(0, .ref (ob 0)), (1, .int i1), (2, .int v4)] [] X5 := by
  intro n_
  induction n_ with
  | zero =>
    intros
    exact J_none
  | succ n_ ih =>
    intros v4 X5
    rw [fX4_when_L26]
    refine J_iload_n hE dd_X4_when_26 2 rfl rfl ?_
    refine J_bipush hE (v := (40 : Int32)) dd_X4_when_27 (by decide) ?_
    refine J_icmp_gt hE (tgt := 58) dd_X4_when_29 (by decide) (fun c11 => ?_) (fun c11 => ?_)
    · refine J_sub [] rfl ?_
      exact hk58 X5
    · refine J_aload_n hE dd_X4_when_32 0 rfl rfl ?_
      refine J_get hE (hX.rt.ob _) jc_X4 2 (by decide) fl_RX4_23 (v := .ref (ob 3)) rfl dd_X4_when_33 ?_
      refine J_iload_n hE dd_X4_when_36 1 rfl rfl ?_
      refine J_invVri hE (As := [.int i1]) (st := []) (JC.lift_r (e := fun S => va_up X5 3 S) (tX1_isEatenUp E.2.1 (hX.shS X5 sh3) (X5 3) i1) (va_up_eta _ _)) ((hX.sh sh3).ob _) m_X1_isEatenUp rfl ml_RX4_170 (Nat.le_of_ble_eq_true rfl) (Nat.le_of_ble_eq_true rfl) rfl (Nat.le_of_ble_eq_true rfl) dd_X4_when_37 (fun r6 => ?_)
      refine J_if_eq hE (tgt := 45) dd_X4_when_40 (by decide) (fun c10 => ?_) (fun c10 => ?_)
      · refine J_aload_n hE dd_X4_when_45 0 rfl rfl ?_
        refine J_get hE (hX.rt.ob _) jc_X4 2 (by decide) fl_RX4_23 (v := .ref (ob 3)) rfl dd_X4_when_46 ?_
        refine J_invVwv hE (e := fun S => va_up X5 3 S) (As := []) (st := []) (JC.lift_v (e := fun S => va_up X5 3 S) (tX1_passNight E.2.1 (hX.shS X5 sh3) (X5 3) ) (va_up_eta _ _)) ((hX.sh sh3).ob _) m_X1_passNight rfl ml_RX4_161 (Nat.le_of_ble_eq_true rfl) (Nat.le_of_ble_eq_true rfl) rfl (Nat.le_of_ble_eq_true rfl) dd_X4_when_49 (fun q7 => ?_)
        refine J_letS (fun X8 => ?_)
        refine J_iincL hE (v := (v4 + (1 : Int32))) (Lf := fun x9 => [(2, .int x9), (0, .ref (ob 0)), (1, .int i1)]) dd_X4_when_52 (j := 2) rfl (congrArg (v4 + ·) (by decide)) (Nat.le_of_ble_eq_true rfl) (fun _ => rfl) (fun x9 => ?_)
        refine J_goto hE (tgt := 26) dd_X4_when_55 (by decide) ?_
        refine J_sub [1, 2, 0] rfl ?_
        exact ih x9 X8
      · refine J_iload_n hE dd_X4_when_43 2 rfl rfl ?_
        exact J_iret hE dd_X4_when_44 rfl rfl
set_option maxHeartbeats 4000000 in
set_option maxRecDepth 100000 in
theorem tX4_when (l : Launch) {V : JV M3} {ob : Nat → Nat} {aa : Nat → Nat → Nat} (hX : vX4 V ob aa) (X : M3) (i1 : Int32) : JC l V yX4_when cX4_when 3 (some .int) jj_i 5 [.ref (ob 0), .int i1] X ((fX4_when i1 X).map (fun q => (q.1, q.2))) := by
  refine jj_of (by decide) (Nat.le_of_ble_eq_true rfl) (fun E hlE hE => ?_)
  unfold fX4_when
  refine J_sub (L' := [(0, .ref (ob 0)), (1, .int i1)]) [0, 1] rfl ?_
  refine J_aload_n hE dd_X4_when_0 0 rfl rfl ?_
  refine J_get hE (hX.rt.ob _) jc_X4 1 (by decide) fl_RX4_19 (v := .ref (ob 2)) rfl dd_X4_when_1 ?_
  refine J_iload_n hE dd_X4_when_4 1 rfl rfl ?_
  refine J_invVri hE (As := [.int i1]) (st := []) (JC.lift_r (e := fun S => va_up X 2 S) (tX1_hasBolt E.2.1 (hX.shS X sh2) (X 2) i1) (va_up_eta _ _)) ((hX.sh sh2).ob _) m_X1_hasBolt rfl ml_RX4_95 (Nat.le_of_ble_eq_true rfl) (Nat.le_of_ble_eq_true rfl) rfl (Nat.le_of_ble_eq_true rfl) dd_X4_when_5 (fun r1 => ?_)
  refine J_if_ne hE (tgt := 13) dd_X4_when_8 (by decide) (fun c13 => ?_) (fun c13 => ?_)
  · refine J_aload_n hE dd_X4_when_13 0 rfl rfl ?_
    refine J_get hE (hX.rt.ob _) jc_X4 2 (by decide) fl_RX4_23 (v := .ref (ob 3)) rfl dd_X4_when_14 ?_
    refine J_aload_n hE dd_X4_when_17 0 rfl rfl ?_
    refine J_get hE (hX.rt.ob _) jc_X4 1 (by decide) fl_RX4_19 (v := .ref (ob 2)) rfl dd_X4_when_18 ?_
    refine J_invVwv hE (e := fun S => va_up X 3 S) (As := [.ref (ob 2)]) (st := []) (JC.lift_v (e := fun S => va_up X 3 S) (tX1_copyFrom E.2.1 (hX.shS X sh3) (hX.shR X 3 sh2 (by decide)) (X 3) ) (va_up_eta _ _)) ((hX.sh sh3).ob _) m_X1_copyFrom rfl ml_RX4_66 (Nat.le_of_ble_eq_true rfl) (Nat.le_of_ble_eq_true rfl) rfl (Nat.le_of_ble_eq_true rfl) dd_X4_when_21 (fun q2 => ?_)
    refine J_letS (fun X3 => ?_)
    refine J_iconst hE (v := (0 : Int32)) dd_X4_when_24 (by decide) ?_
    refine J_istore_n hE (L' := [(2, .int (0 : Int32)), (0, .ref (ob 0)), (1, .int i1)]) dd_X4_when_25 (Nat.le_of_ble_eq_true rfl) rfl rfl ?_
    refine J_sub [1, 2, 0] rfl ?_
    refine tX4_when_L26 hX i1 hE (fun p12 => ?_) 400 (0 : Int32) X3
    show J V E _ _ 58 [] [] p12
    refine J_bipush hE (v := (-4 : Int32)) dd_X4_when_58 (by decide) ?_
    exact J_iret hE dd_X4_when_60 rfl rfl
  · refine J_iconst hE (v := (-1 : Int32)) dd_X4_when_11 (by decide) ?_
    exact J_iret hE dd_X4_when_12 rfl rfl
theorem dd_X4_tryNight_0 : jd cX4_tryNight 0 (.aload_n 0) 1 1 := ⟨by decide +kernel, rfl⟩
theorem dd_X4_tryNight_1 : jd cX4_tryNight 1 (.getfield 23) 3 4 := ⟨by decide +kernel, rfl⟩
theorem dd_X4_tryNight_4 : jd cX4_tryNight 4 (.aload_n 0) 1 5 := ⟨by decide +kernel, rfl⟩
theorem dd_X4_tryNight_5 : jd cX4_tryNight 5 (.getfield 19) 3 8 := ⟨by decide +kernel, rfl⟩
theorem dd_X4_tryNight_8 : jd cX4_tryNight 8 (.invokevirtual 66) 3 11 := ⟨by decide +kernel, rfl⟩
theorem dd_X4_tryNight_11 : jd cX4_tryNight 11 (.aload_n 0) 1 12 := ⟨by decide +kernel, rfl⟩
theorem dd_X4_tryNight_12 : jd cX4_tryNight 12 (.getfield 23) 3 15 := ⟨by decide +kernel, rfl⟩
theorem dd_X4_tryNight_15 : jd cX4_tryNight 15 (.iload_n 1) 1 16 := ⟨by decide +kernel, rfl⟩
theorem ml_RX4_192 : (Cond.methodLink "MothCustoms" 192 yX1_letLoose : Cond) ∈ jj_tb := jj_m (List.mem_of_getElem? (i := 623) (by decide +kernel)) rfl
theorem dd_X4_tryNight_16 : jd cX4_tryNight 16 (.invokevirtual 192) 3 19 := ⟨by decide +kernel, rfl⟩
theorem dd_X4_tryNight_19 : jd cX4_tryNight 19 (.return_) 1 20 := ⟨by decide +kernel, rfl⟩
theorem m_X4_tryNight : jmV yX4_tryNight cX4_tryNight 2 none 1 := ⟨⟨(jj_m (w := Cond.code yX4_tryNight cX4_tryNight 2 none) (List.mem_of_getElem? (i := 622) (by decide +kernel)) rfl), (jj_m (w := Cond.initialized yX4_tryNight.cls) (List.mem_of_getElem? (i := 64) (by decide +kernel)) rfl), ⟨by decide, by decide⟩, by decide +kernel⟩, (jj_m (w := Cond.instanceMethod yX4_tryNight) (List.mem_of_getElem? (i := 621) (by decide +kernel)) rfl), (jj_m (w := Cond.selects yX4_tryNight.cls yX4_tryNight yX4_tryNight) (List.mem_of_getElem? (i := 10) (by decide +kernel)) rfl)⟩
def fX4_tryNight (i1 : Int32) (X : M3) : Option (M3) :=
  (fX1_copyFrom  (X 3) (X 2)).bind fun q1 =>
  lt ((va_up X 3 q1)) fun X2 =>
  (fX1_letLoose i1 (X2 3)).bind fun q3 =>
  lt ((va_up X2 3 q3)) fun X4 =>
  some X4

set_option maxHeartbeats 4000000 in
set_option maxRecDepth 100000 in
theorem tX4_tryNight (l : Launch) {V : JV M3} {ob : Nat → Nat} {aa : Nat → Nat → Nat} (hX : vX4 V ob aa) (X : M3) (i1 : Int32) : JC l V yX4_tryNight cX4_tryNight 2 none jj_v 4 [.ref (ob 0), .int i1] X ((fX4_tryNight i1 X).map (fun q => ((), q))) := by
  refine jj_of (by decide) (Nat.le_of_ble_eq_true rfl) (fun E hlE hE => ?_)
  unfold fX4_tryNight
  refine J_sub (L' := [(0, .ref (ob 0)), (1, .int i1)]) [0, 1] rfl ?_
  refine J_aload_n hE dd_X4_tryNight_0 0 rfl rfl ?_
  refine J_get hE (hX.rt.ob _) jc_X4 2 (by decide) fl_RX4_23 (v := .ref (ob 3)) rfl dd_X4_tryNight_1 ?_
  refine J_aload_n hE dd_X4_tryNight_4 0 rfl rfl ?_
  refine J_get hE (hX.rt.ob _) jc_X4 1 (by decide) fl_RX4_19 (v := .ref (ob 2)) rfl dd_X4_tryNight_5 ?_
  refine J_invVwv hE (e := fun S => va_up X 3 S) (As := [.ref (ob 2)]) (st := []) (JC.lift_v (e := fun S => va_up X 3 S) (tX1_copyFrom E.2.1 (hX.shS X sh3) (hX.shR X 3 sh2 (by decide)) (X 3) ) (va_up_eta _ _)) ((hX.sh sh3).ob _) m_X1_copyFrom rfl ml_RX4_66 (Nat.le_of_ble_eq_true rfl) (Nat.le_of_ble_eq_true rfl) rfl (Nat.le_of_ble_eq_true rfl) dd_X4_tryNight_8 (fun q1 => ?_)
  refine J_letS (fun X2 => ?_)
  refine J_aload_n hE dd_X4_tryNight_11 0 rfl rfl ?_
  refine J_get hE (hX.rt.ob _) jc_X4 2 (by decide) fl_RX4_23 (v := .ref (ob 3)) rfl dd_X4_tryNight_12 ?_
  refine J_iload_n hE dd_X4_tryNight_15 1 rfl rfl ?_
  refine J_invVwv hE (e := fun S => va_up X2 3 S) (As := [.int i1]) (st := []) (JC.lift_v (e := fun S => va_up X2 3 S) (tX1_letLoose E.2.1 (hX.shS X2 sh3) (X2 3) i1) (va_up_eta _ _)) ((hX.sh sh3).ob _) m_X1_letLoose rfl ml_RX4_192 (Nat.le_of_ble_eq_true rfl) (Nat.le_of_ble_eq_true rfl) rfl (Nat.le_of_ble_eq_true rfl) dd_X4_tryNight_16 (fun q3 => ?_)
  refine J_letS (fun X4 => ?_)
  exact J_vret hE dd_X4_tryNight_19 rfl rfl
theorem dd_X4_eats_0 : jd cX4_eats 0 (.aload_n 0) 1 1 := ⟨by decide +kernel, rfl⟩
theorem dd_X4_eats_1 : jd cX4_eats 1 (.getfield 19) 3 4 := ⟨by decide +kernel, rfl⟩
theorem dd_X4_eats_4 : jd cX4_eats 4 (.iload_n 1) 1 5 := ⟨by decide +kernel, rfl⟩
theorem dd_X4_eats_5 : jd cX4_eats 5 (.invokevirtual 115) 3 8 := ⟨by decide +kernel, rfl⟩
theorem dd_X4_eats_13 : jd cX4_eats 13 (.aload_n 0) 1 14 := ⟨by decide +kernel, rfl⟩
theorem dd_X4_eats_14 : jd cX4_eats 14 (.iconst 1) 1 15 := ⟨by decide +kernel, rfl⟩
theorem dd_X4_eats_15 : jd cX4_eats 15 (.iload_n 1) 1 16 := ⟨by decide +kernel, rfl⟩
theorem dd_X4_eats_16 : jd cX4_eats 16 (.ishl) 1 17 := ⟨by decide +kernel, rfl⟩
theorem ml_RX4_173 : (Cond.methodLink "MothCustoms" 173 yX4_tryNight : Cond) ∈ jj_tb := jj_m (List.mem_of_getElem? (i := 619) (by decide +kernel)) rfl
theorem dd_X4_eats_17 : jd cX4_eats 17 (.invokevirtual 173) 3 20 := ⟨by decide +kernel, rfl⟩
theorem dd_X4_eats_20 : jd cX4_eats 20 (.aload_n 0) 1 21 := ⟨by decide +kernel, rfl⟩
theorem dd_X4_eats_21 : jd cX4_eats 21 (.getfield 23) 3 24 := ⟨by decide +kernel, rfl⟩
theorem dd_X4_eats_24 : jd cX4_eats 24 (.invokevirtual 167) 3 27 := ⟨by decide +kernel, rfl⟩
theorem dd_X4_eats_27 : jd cX4_eats 27 (.aload_n 0) 1 28 := ⟨by decide +kernel, rfl⟩
theorem dd_X4_eats_28 : jd cX4_eats 28 (.getfield 19) 3 31 := ⟨by decide +kernel, rfl⟩
theorem dd_X4_eats_31 : jd cX4_eats 31 (.invokevirtual 167) 3 34 := ⟨by decide +kernel, rfl⟩
theorem dd_X4_eats_34 : jd cX4_eats 34 (.isub) 1 35 := ⟨by decide +kernel, rfl⟩
theorem dd_X4_eats_35 : jd cX4_eats 35 (.ireturn) 1 36 := ⟨by decide +kernel, rfl⟩
theorem dd_X4_eats_11 : jd cX4_eats 11 (.iconst (-1)) 1 12 := ⟨by decide +kernel, rfl⟩
theorem dd_X4_eats_12 : jd cX4_eats 12 (.ireturn) 1 13 := ⟨by decide +kernel, rfl⟩
theorem dd_X4_eats_8 : jd cX4_eats 8 (.ifCond .ne 5) 3 11 := ⟨by decide +kernel, rfl⟩
theorem m_X4_eats : jmV yX4_eats cX4_eats 2 (some .int) 1 := ⟨⟨(jj_m (w := Cond.code yX4_eats cX4_eats 2 (some .int)) (List.mem_of_getElem? (i := 618) (by decide +kernel)) rfl), (jj_m (w := Cond.initialized yX4_eats.cls) (List.mem_of_getElem? (i := 64) (by decide +kernel)) rfl), ⟨by decide, by decide⟩, by decide +kernel⟩, (jj_m (w := Cond.instanceMethod yX4_eats) (List.mem_of_getElem? (i := 616) (by decide +kernel)) rfl), (jj_m (w := Cond.selects yX4_eats.cls yX4_eats yX4_eats) (List.mem_of_getElem? (i := 617) (by decide +kernel)) rfl)⟩
def fX4_eats (i1 : Int32) (X : M3) : Option (Int32 × M3) :=
  (fX1_hasMoth i1 (X 2)).bind fun r1 =>
  if r1 = 0 then
    some ((-1 : Int32), X)
  else
    (fX4_tryNight ((1 : Int32) <<< (i1 &&& 31)) X).bind fun q2 =>
    lt (q2) fun X3 =>
    (fX1_holesInAll  (X3 3)).bind fun r4 =>
    (fX1_holesInAll  (X3 2)).bind fun r5 =>
    some ((r4 - r5), X3)

set_option maxHeartbeats 4000000 in
set_option maxRecDepth 100000 in
theorem tX4_eats (l : Launch) {V : JV M3} {ob : Nat → Nat} {aa : Nat → Nat → Nat} (hX : vX4 V ob aa) (X : M3) (i1 : Int32) : JC l V yX4_eats cX4_eats 2 (some .int) jj_i 5 [.ref (ob 0), .int i1] X ((fX4_eats i1 X).map (fun q => (q.1, q.2))) := by
  refine jj_of (by decide) (Nat.le_of_ble_eq_true rfl) (fun E hlE hE => ?_)
  unfold fX4_eats
  refine J_sub (L' := [(0, .ref (ob 0)), (1, .int i1)]) [0, 1] rfl ?_
  refine J_aload_n hE dd_X4_eats_0 0 rfl rfl ?_
  refine J_get hE (hX.rt.ob _) jc_X4 1 (by decide) fl_RX4_19 (v := .ref (ob 2)) rfl dd_X4_eats_1 ?_
  refine J_iload_n hE dd_X4_eats_4 1 rfl rfl ?_
  refine J_invVri hE (As := [.int i1]) (st := []) (JC.lift_r (e := fun S => va_up X 2 S) (tX1_hasMoth E.2.1 (hX.shS X sh2) (X 2) i1) (va_up_eta _ _)) ((hX.sh sh2).ob _) m_X1_hasMoth rfl ml_RX4_115 (Nat.le_of_ble_eq_true rfl) (Nat.le_of_ble_eq_true rfl) rfl (Nat.le_of_ble_eq_true rfl) dd_X4_eats_5 (fun r1 => ?_)
  refine J_if_ne hE (tgt := 13) dd_X4_eats_8 (by decide) (fun c6 => ?_) (fun c6 => ?_)
  · refine J_aload_n hE dd_X4_eats_13 0 rfl rfl ?_
    refine J_iconst hE (v := (1 : Int32)) dd_X4_eats_14 (by decide) ?_
    refine J_iload_n hE dd_X4_eats_15 1 rfl rfl ?_
    refine J_ishl hE dd_X4_eats_16 ?_
    refine J_invVwv hE (e := fun x => x) (As := [.int ((1 : Int32) <<< (i1 &&& 31))]) (st := []) (tX4_tryNight E.2.1 hX X ((1 : Int32) <<< (i1 &&& 31))) (hX.rt.ob _) m_X4_tryNight rfl ml_RX4_173 (Nat.le_of_ble_eq_true rfl) (Nat.le_of_ble_eq_true rfl) rfl (Nat.le_of_ble_eq_true rfl) dd_X4_eats_17 (fun q2 => ?_)
    refine J_letS (fun X3 => ?_)
    refine J_aload_n hE dd_X4_eats_20 0 rfl rfl ?_
    refine J_get hE (hX.rt.ob _) jc_X4 2 (by decide) fl_RX4_23 (v := .ref (ob 3)) rfl dd_X4_eats_21 ?_
    refine J_invVri hE (As := []) (st := []) (JC.lift_r (e := fun S => va_up X3 3 S) (tX1_holesInAll E.2.1 (hX.shS X3 sh3) (X3 3) ) (va_up_eta _ _)) ((hX.sh sh3).ob _) m_X1_holesInAll rfl ml_RX4_167 (Nat.le_of_ble_eq_true rfl) (Nat.le_of_ble_eq_true rfl) rfl (Nat.le_of_ble_eq_true rfl) dd_X4_eats_24 (fun r4 => ?_)
    refine J_aload_n hE dd_X4_eats_27 0 rfl rfl ?_
    refine J_get hE (hX.rt.ob _) jc_X4 1 (by decide) fl_RX4_19 (v := .ref (ob 2)) rfl dd_X4_eats_28 ?_
    refine J_invVri hE (As := []) (st := [.int r4]) (JC.lift_r (e := fun S => va_up X3 2 S) (tX1_holesInAll E.2.1 (hX.shS X3 sh2) (X3 2) ) (va_up_eta _ _)) ((hX.sh sh2).ob _) m_X1_holesInAll rfl ml_RX4_167 (Nat.le_of_ble_eq_true rfl) (Nat.le_of_ble_eq_true rfl) rfl (Nat.le_of_ble_eq_true rfl) dd_X4_eats_31 (fun r5 => ?_)
    refine J_isub hE dd_X4_eats_34 ?_
    exact J_iret hE dd_X4_eats_35 rfl rfl
  · refine J_iconst hE (v := (-1 : Int32)) dd_X4_eats_11 (by decide) ?_
    exact J_iret hE dd_X4_eats_12 rfl rfl
theorem dd_X4_duty_0 : jd cX4_duty 0 (.iload_n 1) 1 1 := ⟨by decide +kernel, rfl⟩
theorem dd_X4_duty_12 : jd cX4_duty 12 (.iload_n 1) 1 13 := ⟨by decide +kernel, rfl⟩
theorem dd_X4_duty_13 : jd cX4_duty 13 (.iconst 1) 1 14 := ⟨by decide +kernel, rfl⟩
theorem dd_X4_duty_19 : jd cX4_duty 19 (.aload_n 0) 1 20 := ⟨by decide +kernel, rfl⟩
theorem dd_X4_duty_20 : jd cX4_duty 20 (.bipush 15) 2 22 := ⟨by decide +kernel, rfl⟩
theorem dd_X4_duty_22 : jd cX4_duty 22 (.invokevirtual 173) 3 25 := ⟨by decide +kernel, rfl⟩
theorem dd_X4_duty_25 : jd cX4_duty 25 (.aload_n 0) 1 26 := ⟨by decide +kernel, rfl⟩
theorem dd_X4_duty_26 : jd cX4_duty 26 (.getfield 23) 3 29 := ⟨by decide +kernel, rfl⟩
theorem dd_X4_duty_29 : jd cX4_duty 29 (.invokevirtual 167) 3 32 := ⟨by decide +kernel, rfl⟩
theorem dd_X4_duty_32 : jd cX4_duty 32 (.aload_n 0) 1 33 := ⟨by decide +kernel, rfl⟩
theorem dd_X4_duty_33 : jd cX4_duty 33 (.getfield 23) 3 36 := ⟨by decide +kernel, rfl⟩
theorem dd_X4_duty_36 : jd cX4_duty 36 (.getfield 82) 3 39 := ⟨by decide +kernel, rfl⟩
theorem dd_X4_duty_39 : jd cX4_duty 39 (.imul) 1 40 := ⟨by decide +kernel, rfl⟩
theorem dd_X4_duty_40 : jd cX4_duty 40 (.ireturn) 1 41 := ⟨by decide +kernel, rfl⟩
theorem dd_X4_duty_17 : jd cX4_duty 17 (.iconst (-1)) 1 18 := ⟨by decide +kernel, rfl⟩
theorem dd_X4_duty_18 : jd cX4_duty 18 (.ireturn) 1 19 := ⟨by decide +kernel, rfl⟩
theorem dd_X4_duty_14 : jd cX4_duty 14 (.if_icmp .eq 5) 3 17 := ⟨by decide +kernel, rfl⟩
theorem dd_X4_duty_4 : jd cX4_duty 4 (.aload_n 0) 1 5 := ⟨by decide +kernel, rfl⟩
theorem dd_X4_duty_5 : jd cX4_duty 5 (.getfield 19) 3 8 := ⟨by decide +kernel, rfl⟩
theorem dd_X4_duty_8 : jd cX4_duty 8 (.invokevirtual 164) 3 11 := ⟨by decide +kernel, rfl⟩
theorem dd_X4_duty_11 : jd cX4_duty 11 (.ireturn) 1 12 := ⟨by decide +kernel, rfl⟩
theorem dd_X4_duty_1 : jd cX4_duty 1 (.ifCond .ne 11) 3 4 := ⟨by decide +kernel, rfl⟩
theorem m_X4_duty : jmV yX4_duty cX4_duty 2 (some .int) 1 := ⟨⟨(jj_m (w := Cond.code yX4_duty cX4_duty 2 (some .int)) (List.mem_of_getElem? (i := 627) (by decide +kernel)) rfl), (jj_m (w := Cond.initialized yX4_duty.cls) (List.mem_of_getElem? (i := 64) (by decide +kernel)) rfl), ⟨by decide, by decide⟩, by decide +kernel⟩, (jj_m (w := Cond.instanceMethod yX4_duty) (List.mem_of_getElem? (i := 625) (by decide +kernel)) rfl), (jj_m (w := Cond.selects yX4_duty.cls yX4_duty yX4_duty) (List.mem_of_getElem? (i := 626) (by decide +kernel)) rfl)⟩
def fX4_duty (i1 : Int32) (X : M3) : Option (Int32 × M3) :=
  if i1 = 0 then
    (fX1_dutyOfAll  (X 2)).bind fun r5 =>
    some (r5, X)
  else
    if i1 = (1 : Int32) then
      (fX4_tryNight (15 : Int32) X).bind fun q1 =>
      lt (q1) fun X2 =>
      (fX1_holesInAll  (X2 3)).bind fun r3 =>
      some ((r3 * ((X2 3) 13 0)), X2)
    else
      some ((-1 : Int32), X)

set_option maxHeartbeats 4000000 in
set_option maxRecDepth 100000 in
theorem tX4_duty (l : Launch) {V : JV M3} {ob : Nat → Nat} {aa : Nat → Nat → Nat} (hX : vX4 V ob aa) (X : M3) (i1 : Int32) : JC l V yX4_duty cX4_duty 2 (some .int) jj_i 5 [.ref (ob 0), .int i1] X ((fX4_duty i1 X).map (fun q => (q.1, q.2))) := by
  refine jj_of (by decide) (Nat.le_of_ble_eq_true rfl) (fun E hlE hE => ?_)
  unfold fX4_duty
  refine J_sub (L' := [(0, .ref (ob 0)), (1, .int i1)]) [0, 1] rfl ?_
  refine J_iload_n hE dd_X4_duty_0 1 rfl rfl ?_
  refine J_if_ne hE (tgt := 12) dd_X4_duty_1 (by decide) (fun c6 => ?_) (fun c6 => ?_)
  · refine J_iload_n hE dd_X4_duty_12 1 rfl rfl ?_
    refine J_iconst hE (v := (1 : Int32)) dd_X4_duty_13 (by decide) ?_
    refine J_icmp_eq hE (tgt := 19) dd_X4_duty_14 (by decide) (fun c4 => ?_) (fun c4 => ?_)
    · refine J_aload_n hE dd_X4_duty_19 0 rfl rfl ?_
      refine J_bipush hE (v := (15 : Int32)) dd_X4_duty_20 (by decide) ?_
      refine J_invVwv hE (e := fun x => x) (As := [.int (15 : Int32)]) (st := []) (tX4_tryNight E.2.1 hX X (15 : Int32)) (hX.rt.ob _) m_X4_tryNight rfl ml_RX4_173 (Nat.le_of_ble_eq_true rfl) (Nat.le_of_ble_eq_true rfl) rfl (Nat.le_of_ble_eq_true rfl) dd_X4_duty_22 (fun q1 => ?_)
      refine J_letS (fun X2 => ?_)
      refine J_aload_n hE dd_X4_duty_25 0 rfl rfl ?_
      refine J_get hE (hX.rt.ob _) jc_X4 2 (by decide) fl_RX4_23 (v := .ref (ob 3)) rfl dd_X4_duty_26 ?_
      refine J_invVri hE (As := []) (st := []) (JC.lift_r (e := fun S => va_up X2 3 S) (tX1_holesInAll E.2.1 (hX.shS X2 sh3) (X2 3) ) (va_up_eta _ _)) ((hX.sh sh3).ob _) m_X1_holesInAll rfl ml_RX4_167 (Nat.le_of_ble_eq_true rfl) (Nat.le_of_ble_eq_true rfl) rfl (Nat.le_of_ble_eq_true rfl) dd_X4_duty_29 (fun r3 => ?_)
      refine J_aload_n hE dd_X4_duty_32 0 rfl rfl ?_
      refine J_get hE (hX.rt.ob _) jc_X4 2 (by decide) fl_RX4_23 (v := .ref (ob 3)) rfl dd_X4_duty_33 ?_
      refine J_get hE ((hX.sh sh3).ob _) jc_X1 13 (by decide) fl_RX4_82 (v := .int ((X2 3) 13 0)) rfl dd_X4_duty_36 ?_
      refine J_imul hE dd_X4_duty_39 ?_
      exact J_iret hE dd_X4_duty_40 rfl rfl
    · refine J_iconst hE (v := (-1 : Int32)) dd_X4_duty_17 (by decide) ?_
      exact J_iret hE dd_X4_duty_18 rfl rfl
  · refine J_aload_n hE dd_X4_duty_4 0 rfl rfl ?_
    refine J_get hE (hX.rt.ob _) jc_X4 1 (by decide) fl_RX4_19 (v := .ref (ob 2)) rfl dd_X4_duty_5 ?_
    refine J_invVri hE (As := []) (st := []) (JC.lift_r (e := fun S => va_up X 2 S) (tX1_dutyOfAll E.2.1 (hX.shS X sh2) (X 2) ) (va_up_eta _ _)) ((hX.sh sh2).ob _) m_X1_dutyOfAll rfl ml_RX4_164 (Nat.le_of_ble_eq_true rfl) (Nat.le_of_ble_eq_true rfl) rfl (Nat.le_of_ble_eq_true rfl) dd_X4_duty_8 (fun r5 => ?_)
    exact J_iret hE dd_X4_duty_11 rfl rfl
theorem dd_X4_best_0 : jd cX4_best 0 (.iload_n 1) 1 1 := ⟨by decide +kernel, rfl⟩
theorem dd_X4_best_1 : jd cX4_best 1 (.bipush 10) 2 3 := ⟨by decide +kernel, rfl⟩
theorem dd_X4_best_6 : jd cX4_best 6 (.aload_n 0) 1 7 := ⟨by decide +kernel, rfl⟩
theorem dd_X4_best_7 : jd cX4_best 7 (.getfield 19) 3 10 := ⟨by decide +kernel, rfl⟩
theorem dd_X4_best_10 : jd cX4_best 10 (.iload_n 1) 1 11 := ⟨by decide +kernel, rfl⟩
theorem dd_X4_best_11 : jd cX4_best 11 (.bipush 10) 2 13 := ⟨by decide +kernel, rfl⟩
theorem dd_X4_best_13 : jd cX4_best 13 (.isub) 1 14 := ⟨by decide +kernel, rfl⟩
theorem dd_X4_best_14 : jd cX4_best 14 (.invokevirtual 95) 3 17 := ⟨by decide +kernel, rfl⟩
theorem dd_X4_best_20 : jd cX4_best 20 (.iconst 1) 1 21 := ⟨by decide +kernel, rfl⟩
theorem dd_X4_best_21 : jd cX4_best 21 (.goto 4) 3 24 := ⟨by decide +kernel, rfl⟩
theorem dd_X4_best_17 : jd cX4_best 17 (.ifCond .eq 7) 3 20 := ⟨by decide +kernel, rfl⟩
theorem dd_X4_best_3 : jd cX4_best 3 (.if_icmp .lt 21) 3 6 := ⟨by decide +kernel, rfl⟩
theorem dd_X4_best_24 : jd cX4_best 24 (.iconst 0) 1 25 := ⟨by decide +kernel, rfl⟩
theorem dd_X4_best_25 : jd cX4_best 25 (.istore_n 2) 1 26 := ⟨by decide +kernel, rfl⟩
theorem dd_X4_best_26 : jd cX4_best 26 (.iload_n 1) 1 27 := ⟨by decide +kernel, rfl⟩
theorem dd_X4_best_30 : jd cX4_best 30 (.iload_n 2) 1 31 := ⟨by decide +kernel, rfl⟩
theorem dd_X4_best_34 : jd cX4_best 34 (.iconst (-1)) 1 35 := ⟨by decide +kernel, rfl⟩
theorem dd_X4_best_35 : jd cX4_best 35 (.ireturn) 1 36 := ⟨by decide +kernel, rfl⟩
theorem dd_X4_best_31 : jd cX4_best 31 (.ifCond .ne 5) 3 34 := ⟨by decide +kernel, rfl⟩
theorem dd_X4_best_27 : jd cX4_best 27 (.ifCond .eq 9) 3 30 := ⟨by decide +kernel, rfl⟩
theorem dd_X4_best_36 : jd cX4_best 36 (.aload_n 0) 1 37 := ⟨by decide +kernel, rfl⟩
theorem fl_RX4_40 : (Cond.fieldLink "MothCustoms" 40 "MothCustoms" "search" "LMothCustoms$Search;" : Cond) ∈ jj_tb := jj_m (List.mem_of_getElem? (i := 273) (by decide +kernel)) rfl
theorem dd_X4_best_37 : jd cX4_best 37 (.getfield 40) 3 40 := ⟨by decide +kernel, rfl⟩
theorem dd_X4_best_40 : jd cX4_best 40 (.aload_n 0) 1 41 := ⟨by decide +kernel, rfl⟩
theorem dd_X4_best_41 : jd cX4_best 41 (.getfield 19) 3 44 := ⟨by decide +kernel, rfl⟩
theorem ml_RX4_176 : (Cond.methodLink "MothCustoms" 176 yX0_findBest : Cond) ∈ jj_tb := jj_m (List.mem_of_getElem? (i := 632) (by decide +kernel)) rfl
theorem dd_X4_best_44 : jd cX4_best 44 (.invokevirtual 176) 3 47 := ⟨by decide +kernel, rfl⟩
theorem dd_X4_best_47 : jd cX4_best 47 (.iload_n 2) 1 48 := ⟨by decide +kernel, rfl⟩
theorem dd_X4_best_66 : jd cX4_best 66 (.aload_n 0) 1 67 := ⟨by decide +kernel, rfl⟩
theorem dd_X4_best_67 : jd cX4_best 67 (.getfield 40) 3 70 := ⟨by decide +kernel, rfl⟩
theorem fl_RX4_182 : (Cond.fieldLink "MothCustoms" 182 "MothCustoms$Search" "least" "I" : Cond) ∈ jj_tb := jj_m (List.mem_of_getElem? (i := 252) (by decide +kernel)) rfl
theorem dd_X4_best_70 : jd cX4_best 70 (.getfield 182) 3 73 := ⟨by decide +kernel, rfl⟩
theorem dd_X4_best_73 : jd cX4_best 73 (.ireturn) 1 74 := ⟨by decide +kernel, rfl⟩
theorem dd_X4_best_51 : jd cX4_best 51 (.aload_n 0) 1 52 := ⟨by decide +kernel, rfl⟩
theorem dd_X4_best_52 : jd cX4_best 52 (.getfield 40) 3 55 := ⟨by decide +kernel, rfl⟩
theorem fl_RX4_179 : (Cond.fieldLink "MothCustoms" 179 "MothCustoms$Search" "bestCodes" "[I" : Cond) ∈ jj_tb := jj_m (List.mem_of_getElem? (i := 250) (by decide +kernel)) rfl
theorem dd_X4_best_55 : jd cX4_best 55 (.getfield 179) 3 58 := ⟨by decide +kernel, rfl⟩
theorem dd_X4_best_58 : jd cX4_best 58 (.iload_n 1) 1 59 := ⟨by decide +kernel, rfl⟩
theorem dd_X4_best_59 : jd cX4_best 59 (.bipush 10) 2 61 := ⟨by decide +kernel, rfl⟩
theorem dd_X4_best_61 : jd cX4_best 61 (.isub) 1 62 := ⟨by decide +kernel, rfl⟩
theorem dd_X4_best_62 : jd cX4_best 62 (.iaload) 1 63 := ⟨by decide +kernel, rfl⟩
theorem dd_X4_best_63 : jd cX4_best 63 (.goto 10) 3 66 := ⟨by decide +kernel, rfl⟩
theorem dd_X4_best_48 : jd cX4_best 48 (.ifCond .eq 18) 3 51 := ⟨by decide +kernel, rfl⟩
theorem m_X4_best : jmV yX4_best cX4_best 3 (some .int) 1 := ⟨⟨(jj_m (w := Cond.code yX4_best cX4_best 3 (some .int)) (List.mem_of_getElem? (i := 631) (by decide +kernel)) rfl), (jj_m (w := Cond.initialized yX4_best.cls) (List.mem_of_getElem? (i := 64) (by decide +kernel)) rfl), ⟨by decide, by decide⟩, by decide +kernel⟩, (jj_m (w := Cond.instanceMethod yX4_best) (List.mem_of_getElem? (i := 629) (by decide +kernel)) rfl), (jj_m (w := Cond.selects yX4_best.cls yX4_best yX4_best) (List.mem_of_getElem? (i := 630) (by decide +kernel)) rfl)⟩
def fX4_best (i1 : Int32) (X : M3) : Option (Int32 × M3) :=
  jn (α := Option (Int32 × M3)) (β := Int32) (fun j2 =>
    jn (α := Option (Int32 × M3)) (β := Unit) (fun j1 =>
      if i1 < (10 : Int32) then
        j1 ()
      else
        (fX1_hasBolt (i1 - (10 : Int32)) (X 2)).bind fun r3 =>
        if r3 = 0 then
          j1 ()
        else
          j2 (1 : Int32)) (fun _ => 
      j2 (0 : Int32))) (fun p7 => 
    jn (α := Option (Int32 × M3)) (β := Unit) (fun j8 =>
      if i1 = 0 then
        j8 ()
      else
        if p7 = 0 then
          some ((-1 : Int32), X)
        else
          j8 ()) (fun _ => 
      (fX0_findBest  (X 10) (X 11) (X 2)).bind fun q12 =>
      lt ((va_up (va_up X 10 q12.1) 11 q12.2)) fun X13 =>
      if p7 = 0 then
        some (((X13 10) 3 0), X13)
      else
        bnd (i1 - (10 : Int32)) 5 <|
        some (((X13 10) 2 (i1 - (10 : Int32)).toNatClampNeg), X13)))

set_option maxHeartbeats 4000000 in
set_option maxRecDepth 100000 in
theorem tX4_best (l : Launch) {V : JV M3} {ob : Nat → Nat} {aa : Nat → Nat → Nat} (hX : vX4 V ob aa) (X : M3) (i1 : Int32) : JC l V yX4_best cX4_best 3 (some .int) jj_i 14 [.ref (ob 0), .int i1] X ((fX4_best i1 X).map (fun q => (q.1, q.2))) := by
  refine jj_of (by decide) (Nat.le_of_ble_eq_true rfl) (fun E hlE hE => ?_)
  unfold fX4_best
  refine J_sub (L' := [(0, .ref (ob 0)), (1, .int i1)]) [0, 1] rfl ?_
  refine J_iload_n hE dd_X4_best_0 1 rfl rfl ?_
  refine J_bipush hE (v := (10 : Int32)) dd_X4_best_1 (by decide) ?_
  refine J_jn (m := 25) (Lf := fun p7 => [(0, .ref (ob 0)), (1, .int i1)]) (sf := fun p7 => [.int p7]) (Xf := fun p7 => X) (fun p7 => ?_) (fun hj2 => ?_)
  · show J V E _ _ 25 [(0, .ref (ob 0)), (1, .int i1)] [.int p7] X
    refine J_istore_n hE (L' := [(2, .int p7), (0, .ref (ob 0)), (1, .int i1)]) dd_X4_best_25 (Nat.le_of_ble_eq_true rfl) rfl rfl ?_
    refine J_iload_n hE dd_X4_best_26 2 rfl rfl ?_
    refine J_jn (m := 36) (Lf := fun _ => [(0, .ref (ob 0)), (1, .int i1), (2, .int p7)]) (sf := fun _ => []) (Xf := fun _ => X) (fun _ => ?_) (fun hj8 => ?_)
    · show J V E _ _ 36 [(0, .ref (ob 0)), (1, .int i1), (2, .int p7)] [] X
      refine J_aload_n hE dd_X4_best_36 0 rfl rfl ?_
      refine J_get hE (hX.rt.ob _) jc_X4 5 (by decide) fl_RX4_40 (v := .ref (ob 10)) rfl dd_X4_best_37 ?_
      refine J_aload_n hE dd_X4_best_40 0 rfl rfl ?_
      refine J_get hE (hX.rt.ob _) jc_X4 1 (by decide) fl_RX4_19 (v := .ref (ob 2)) rfl dd_X4_best_41 ?_
      refine J_invVwv hE (e := fun p : M2 × M2 => va_up (va_up X 10 p.1) 11 p.2) (As := [.ref (ob 2)]) (st := []) (JC.lift_v (e := fun p : M2 × M2 => va_up (va_up X 10 p.1) 11 p.2) (tX0_findBest E.2.1 (hX.sr1 X) (hX.sr2 X) (hX.sr3 X) (X 10) (X 11) ) (va_up_eta2 _ _ _)) (hX.sr.ob _) m_X0_findBest rfl ml_RX4_176 (Nat.le_of_ble_eq_true rfl) (Nat.le_of_ble_eq_true rfl) rfl (Nat.le_of_ble_eq_true rfl) dd_X4_best_44 (fun q12 => ?_)
      refine J_letS (fun X13 => ?_)
      refine J_iload_n hE dd_X4_best_47 2 rfl rfl ?_
      refine J_if_eq hE (tgt := 66) dd_X4_best_48 (by decide) (fun c14 => ?_) (fun c14 => ?_)
      · refine J_aload_n hE dd_X4_best_66 0 rfl rfl ?_
        refine J_get hE (hX.rt.ob _) jc_X4 5 (by decide) fl_RX4_40 (v := .ref (ob 10)) rfl dd_X4_best_67 ?_
        refine J_get hE (hX.sr.ob _) jc_X0 3 (by decide) fl_RX4_182 (v := .int ((X13 10) 3 0)) rfl dd_X4_best_70 ?_
        exact J_iret hE dd_X4_best_73 rfl rfl
      · refine J_aload_n hE dd_X4_best_51 0 rfl rfl ?_
        refine J_get hE (hX.rt.ob _) jc_X4 5 (by decide) fl_RX4_40 (v := .ref (ob 10)) rfl dd_X4_best_52 ?_
        refine J_get hE (hX.sr.ob _) jc_X0 2 (by decide) fl_RX4_179 (v := .ref ((aa 10) 2)) rfl dd_X4_best_55 ?_
        refine J_iload_n hE dd_X4_best_58 1 rfl rfl ?_
        refine J_bipush hE (v := (10 : Int32)) dd_X4_best_59 (by decide) ?_
        refine J_isub hE dd_X4_best_61 ?_
        refine J_ald hE (hX.sr.arr 2 (n := 5) (ty := .int) (by decide) _) dd_X4_best_62 ?_
        refine J_goto hE (tgt := 73) dd_X4_best_63 (by decide) ?_
        exact J_iret hE dd_X4_best_73 rfl rfl
    · refine J_if_eq hE (tgt := 36) dd_X4_best_27 (by decide) (fun c10 => ?_) (fun c10 => ?_)
      · refine J_sub [1, 2, 0] rfl ?_
        exact hj8 ()
      · refine J_iload_n hE dd_X4_best_30 0 rfl rfl ?_
        refine J_if_ne hE (tgt := 36) dd_X4_best_31 (by decide) (fun c9 => ?_) (fun c9 => ?_)
        · refine J_sub [1, 2, 0] rfl ?_
          exact hj8 ()
        · refine J_iconst hE (v := (-1 : Int32)) dd_X4_best_34 (by decide) ?_
          exact J_iret hE dd_X4_best_35 rfl rfl
  · refine J_jn (m := 24) (Lf := fun _ => [(0, .ref (ob 0)), (1, .int i1)]) (sf := fun _ => []) (Xf := fun _ => X) (fun _ => ?_) (fun hj1 => ?_)
    · show J V E _ _ 24 [(0, .ref (ob 0)), (1, .int i1)] [] X
      refine J_iconst hE (v := (0 : Int32)) dd_X4_best_24 (by decide) ?_
      refine J_sub [0, 1] rfl ?_
      exact hj2 (0 : Int32)
    · refine J_icmp_lt hE (tgt := 24) dd_X4_best_3 (by decide) (fun c5 => ?_) (fun c5 => ?_)
      · refine J_sub [0, 1] rfl ?_
        exact hj1 ()
      · refine J_aload_n hE dd_X4_best_6 0 rfl rfl ?_
        refine J_get hE (hX.rt.ob _) jc_X4 1 (by decide) fl_RX4_19 (v := .ref (ob 2)) rfl dd_X4_best_7 ?_
        refine J_iload_n hE dd_X4_best_10 1 rfl rfl ?_
        refine J_bipush hE (v := (10 : Int32)) dd_X4_best_11 (by decide) ?_
        refine J_isub hE dd_X4_best_13 ?_
        refine J_invVri hE (As := [.int (i1 - (10 : Int32))]) (st := []) (JC.lift_r (e := fun S => va_up X 2 S) (tX1_hasBolt E.2.1 (hX.shS X sh2) (X 2) (i1 - (10 : Int32))) (va_up_eta _ _)) ((hX.sh sh2).ob _) m_X1_hasBolt rfl ml_RX4_95 (Nat.le_of_ble_eq_true rfl) (Nat.le_of_ble_eq_true rfl) rfl (Nat.le_of_ble_eq_true rfl) dd_X4_best_14 (fun r3 => ?_)
        refine J_if_eq hE (tgt := 24) dd_X4_best_17 (by decide) (fun c4 => ?_) (fun c4 => ?_)
        · refine J_sub [0, 1] rfl ?_
          exact hj1 ()
        · refine J_iconst hE (v := (1 : Int32)) dd_X4_best_20 (by decide) ?_
          refine J_goto hE (tgt := 25) dd_X4_best_21 (by decide) ?_
          refine J_sub [0, 1] rfl ?_
          exact hj2 (1 : Int32)
theorem dd_X4_leastBy_0 : jd cX4_leastBy 0 (.iload_n 2) 1 1 := ⟨by decide +kernel, rfl⟩
theorem dd_X4_leastBy_1 : jd cX4_leastBy 1 (.iconst 0) 1 2 := ⟨by decide +kernel, rfl⟩
theorem dd_X4_leastBy_2 : jd cX4_leastBy 2 (.iconst 1) 1 3 := ⟨by decide +kernel, rfl⟩
theorem dd_X4_leastBy_3 : jd cX4_leastBy 3 (.invokestatic 44) 3 6 := ⟨by decide +kernel, rfl⟩
theorem dd_X4_leastBy_11 : jd cX4_leastBy 11 (.bipush (-4)) 2 13 := ⟨by decide +kernel, rfl⟩
theorem dd_X4_leastBy_13 : jd cX4_leastBy 13 (.istore_n 3) 1 14 := ⟨by decide +kernel, rfl⟩
theorem dd_X4_leastBy_14 : jd cX4_leastBy 14 (.aload_n 0) 1 15 := ⟨by decide +kernel, rfl⟩
theorem dd_X4_leastBy_15 : jd cX4_leastBy 15 (.bipush 15) 2 17 := ⟨by decide +kernel, rfl⟩
theorem dd_X4_leastBy_17 : jd cX4_leastBy 17 (.invokevirtual 173) 3 20 := ⟨by decide +kernel, rfl⟩
theorem dd_X4_leastBy_20 : jd cX4_leastBy 20 (.aload_n 0) 1 21 := ⟨by decide +kernel, rfl⟩
theorem dd_X4_leastBy_21 : jd cX4_leastBy 21 (.getfield 23) 3 24 := ⟨by decide +kernel, rfl⟩
theorem dd_X4_leastBy_24 : jd cX4_leastBy 24 (.invokevirtual 164) 3 27 := ⟨by decide +kernel, rfl⟩
theorem dd_X4_leastBy_27 : jd cX4_leastBy 27 (.istore 4) 2 29 := ⟨by decide +kernel, rfl⟩
theorem dd_X4_leastBy_29 : jd cX4_leastBy 29 (.iconst 0) 1 30 := ⟨by decide +kernel, rfl⟩
theorem dd_X4_leastBy_30 : jd cX4_leastBy 30 (.istore 5) 2 32 := ⟨by decide +kernel, rfl⟩
theorem dd_X4_leastBy_32 : jd cX4_leastBy 32 (.iload 5) 2 34 := ⟨by decide +kernel, rfl⟩
theorem dd_X4_leastBy_34 : jd cX4_leastBy 34 (.aload_n 0) 1 35 := ⟨by decide +kernel, rfl⟩
theorem dd_X4_leastBy_35 : jd cX4_leastBy 35 (.getfield 19) 3 38 := ⟨by decide +kernel, rfl⟩
theorem dd_X4_leastBy_38 : jd cX4_leastBy 38 (.getfield 73) 3 41 := ⟨by decide +kernel, rfl⟩
theorem dd_X4_leastBy_44 : jd cX4_leastBy 44 (.aload_n 0) 1 45 := ⟨by decide +kernel, rfl⟩
theorem dd_X4_leastBy_45 : jd cX4_leastBy 45 (.getfield 23) 3 48 := ⟨by decide +kernel, rfl⟩
theorem dd_X4_leastBy_48 : jd cX4_leastBy 48 (.aload_n 0) 1 49 := ⟨by decide +kernel, rfl⟩
theorem dd_X4_leastBy_49 : jd cX4_leastBy 49 (.getfield 19) 3 52 := ⟨by decide +kernel, rfl⟩
theorem dd_X4_leastBy_52 : jd cX4_leastBy 52 (.invokevirtual 66) 3 55 := ⟨by decide +kernel, rfl⟩
theorem dd_X4_leastBy_55 : jd cX4_leastBy 55 (.iload_n 1) 1 56 := ⟨by decide +kernel, rfl⟩
theorem dd_X4_leastBy_78 : jd cX4_leastBy 78 (.aload_n 0) 1 79 := ⟨by decide +kernel, rfl⟩
theorem dd_X4_leastBy_79 : jd cX4_leastBy 79 (.getfield 23) 3 82 := ⟨by decide +kernel, rfl⟩
theorem dd_X4_leastBy_82 : jd cX4_leastBy 82 (.iload 5) 2 84 := ⟨by decide +kernel, rfl⟩
theorem dd_X4_leastBy_84 : jd cX4_leastBy 84 (.aload_n 0) 1 85 := ⟨by decide +kernel, rfl⟩
theorem dd_X4_leastBy_85 : jd cX4_leastBy 85 (.getfield 23) 3 88 := ⟨by decide +kernel, rfl⟩
theorem dd_X4_leastBy_88 : jd cX4_leastBy 88 (.iload 5) 2 90 := ⟨by decide +kernel, rfl⟩
theorem dd_X4_leastBy_90 : jd cX4_leastBy 90 (.invokevirtual 108) 3 93 := ⟨by decide +kernel, rfl⟩
theorem dd_X4_leastBy_93 : jd cX4_leastBy 93 (.invokevirtual 140) 3 96 := ⟨by decide +kernel, rfl⟩
theorem dd_X4_leastBy_59 : jd cX4_leastBy 59 (.aload_n 0) 1 60 := ⟨by decide +kernel, rfl⟩
theorem dd_X4_leastBy_60 : jd cX4_leastBy 60 (.getfield 23) 3 63 := ⟨by decide +kernel, rfl⟩
theorem dd_X4_leastBy_63 : jd cX4_leastBy 63 (.dup) 1 64 := ⟨by decide +kernel, rfl⟩
theorem dd_X4_leastBy_64 : jd cX4_leastBy 64 (.getfield 88) 3 67 := ⟨by decide +kernel, rfl⟩
theorem dd_X4_leastBy_67 : jd cX4_leastBy 67 (.iconst 1) 1 68 := ⟨by decide +kernel, rfl⟩
theorem dd_X4_leastBy_68 : jd cX4_leastBy 68 (.iload 5) 2 70 := ⟨by decide +kernel, rfl⟩
theorem dd_X4_leastBy_70 : jd cX4_leastBy 70 (.ishl) 1 71 := ⟨by decide +kernel, rfl⟩
theorem dd_X4_leastBy_71 : jd cX4_leastBy 71 (.ior) 1 72 := ⟨by decide +kernel, rfl⟩
theorem dd_X4_leastBy_72 : jd cX4_leastBy 72 (.putfield 88) 3 75 := ⟨by decide +kernel, rfl⟩
theorem dd_X4_leastBy_75 : jd cX4_leastBy 75 (.goto 21) 3 78 := ⟨by decide +kernel, rfl⟩
theorem dd_X4_leastBy_56 : jd cX4_leastBy 56 (.ifCond .eq 22) 3 59 := ⟨by decide +kernel, rfl⟩
theorem dd_X4_leastBy_96 : jd cX4_leastBy 96 (.aload_n 0) 1 97 := ⟨by decide +kernel, rfl⟩
theorem dd_X4_leastBy_97 : jd cX4_leastBy 97 (.getfield 23) 3 100 := ⟨by decide +kernel, rfl⟩
theorem dd_X4_leastBy_100 : jd cX4_leastBy 100 (.bipush 15) 2 102 := ⟨by decide +kernel, rfl⟩
theorem dd_X4_leastBy_102 : jd cX4_leastBy 102 (.invokevirtual 192) 3 105 := ⟨by decide +kernel, rfl⟩
theorem dd_X4_leastBy_105 : jd cX4_leastBy 105 (.aload_n 0) 1 106 := ⟨by decide +kernel, rfl⟩
theorem dd_X4_leastBy_106 : jd cX4_leastBy 106 (.getfield 23) 3 109 := ⟨by decide +kernel, rfl⟩
theorem dd_X4_leastBy_109 : jd cX4_leastBy 109 (.invokevirtual 164) 3 112 := ⟨by decide +kernel, rfl⟩
theorem dd_X4_leastBy_112 : jd cX4_leastBy 112 (.istore 6) 2 114 := ⟨by decide +kernel, rfl⟩
theorem dd_X4_leastBy_114 : jd cX4_leastBy 114 (.iload 6) 2 116 := ⟨by decide +kernel, rfl⟩
theorem dd_X4_leastBy_116 : jd cX4_leastBy 116 (.iload 4) 2 118 := ⟨by decide +kernel, rfl⟩
theorem dd_X4_leastBy_121 : jd cX4_leastBy 121 (.iload 6) 2 123 := ⟨by decide +kernel, rfl⟩
theorem dd_X4_leastBy_123 : jd cX4_leastBy 123 (.istore 4) 2 125 := ⟨by decide +kernel, rfl⟩
theorem dd_X4_leastBy_125 : jd cX4_leastBy 125 (.iload 5) 2 127 := ⟨by decide +kernel, rfl⟩
theorem dd_X4_leastBy_127 : jd cX4_leastBy 127 (.istore_n 3) 1 128 := ⟨by decide +kernel, rfl⟩
theorem dd_X4_leastBy_118 : jd cX4_leastBy 118 (.if_icmp .ge 10) 3 121 := ⟨by decide +kernel, rfl⟩
theorem dd_X4_leastBy_128 : jd cX4_leastBy 128 (.iinc 5 1) 3 131 := ⟨by decide +kernel, rfl⟩
theorem dd_X4_leastBy_131 : jd cX4_leastBy 131 (.goto (-99)) 3 134 := ⟨by decide +kernel, rfl⟩
theorem dd_X4_leastBy_41 : jd cX4_leastBy 41 (.if_icmp .ge 93) 3 44 := ⟨by decide +kernel, rfl⟩
theorem dd_X4_leastBy_134 : jd cX4_leastBy 134 (.iload_n 2) 1 135 := ⟨by decide +kernel, rfl⟩
theorem dd_X4_leastBy_144 : jd cX4_leastBy 144 (.iload_n 3) 1 145 := ⟨by decide +kernel, rfl⟩
theorem dd_X4_leastBy_150 : jd cX4_leastBy 150 (.ireturn) 1 151 := ⟨by decide +kernel, rfl⟩
theorem dd_X4_leastBy_145 : jd cX4_leastBy 145 (.goto 5) 3 148 := ⟨by decide +kernel, rfl⟩
theorem dd_X4_leastBy_138 : jd cX4_leastBy 138 (.iload_n 3) 1 139 := ⟨by decide +kernel, rfl⟩
theorem dd_X4_leastBy_139 : jd cX4_leastBy 139 (.bipush (-4)) 2 141 := ⟨by decide +kernel, rfl⟩
theorem dd_X4_leastBy_148 : jd cX4_leastBy 148 (.iload 4) 2 150 := ⟨by decide +kernel, rfl⟩
theorem dd_X4_leastBy_141 : jd cX4_leastBy 141 (.if_icmp .ne 7) 3 144 := ⟨by decide +kernel, rfl⟩
theorem dd_X4_leastBy_135 : jd cX4_leastBy 135 (.ifCond .eq 9) 3 138 := ⟨by decide +kernel, rfl⟩
theorem dd_X4_leastBy_9 : jd cX4_leastBy 9 (.iconst (-1)) 1 10 := ⟨by decide +kernel, rfl⟩
theorem dd_X4_leastBy_10 : jd cX4_leastBy 10 (.ireturn) 1 11 := ⟨by decide +kernel, rfl⟩
theorem dd_X4_leastBy_6 : jd cX4_leastBy 6 (.ifCond .ne 5) 3 9 := ⟨by decide +kernel, rfl⟩
theorem m_X4_leastBy : jmV yX4_leastBy cX4_leastBy 7 (some .int) 2 := ⟨⟨(jj_m (w := Cond.code yX4_leastBy cX4_leastBy 7 (some .int)) (List.mem_of_getElem? (i := 655) (by decide +kernel)) rfl), (jj_m (w := Cond.initialized yX4_leastBy.cls) (List.mem_of_getElem? (i := 64) (by decide +kernel)) rfl), ⟨by decide, by decide⟩, by decide +kernel⟩, (jj_m (w := Cond.instanceMethod yX4_leastBy) (List.mem_of_getElem? (i := 654) (by decide +kernel)) rfl), (jj_m (w := Cond.selects yX4_leastBy.cls yX4_leastBy yX4_leastBy) (List.mem_of_getElem? (i := 11) (by decide +kernel)) rfl)⟩
def fX4_leastBy_L32 (i1 : Int32) (i2 : Int32) (k134 : (Int32 × Int32 × M3) → Option (Int32 × M3)) : Nat → Int32 → Int32 → Int32 → M3 → Option (Int32 × M3)
  | 0, _, _, _, _ => none
  | n_ + 1, v5, v6, v7, X8 =>
    if ((X8 2) 0 0) ≤ v7 then
      k134 (v5, v6, X8)
    else
      (fX1_copyFrom  (X8 3) (X8 2)).bind fun q9 =>
      lt ((va_up X8 3 q9)) fun X10 =>
      jn (α := Option (Int32 × M3)) (β := M3) (fun j11 =>
        if i1 = 0 then
          (fX1_baleOf v7 (X10 3)).bind fun r12 =>
          (fX1_putOnTop v7 r12 (X10 3)).bind fun q13 =>
          lt ((va_up X10 3 q13)) fun X14 =>
          j11 X14
        else
          lt ((va_up X10 3 (va_up (X10 3) 4 (fun _ => (((X10 3) 4 0) ||| ((1 : Int32) <<< (v7 &&& 31))))))) fun X15 =>
          j11 X15) (fun p17 => 
        (fX1_letLoose (15 : Int32) (p17 3)).bind fun q18 =>
        lt ((va_up p17 3 q18)) fun X19 =>
        (fX1_dutyOfAll  (X19 3)).bind fun r20 =>
        jn (α := Option (Int32 × M3)) (β := Int32 × Int32) (fun j21 =>
          if v6 ≤ r20 then
            j21 (v5, v6)
          else
            j21 (v7, r20)) (fun p23 => 
          lt (v7 + (1 : Int32)) fun x24 =>
          fX4_leastBy_L32 i1 i2 k134 n_ p23.1 p23.2 x24 X19))

def fX4_leastBy (i1 : Int32) (i2 : Int32) (X : M3) : Option (Int32 × M3) :=
  (fX4_within i2 (0 : Int32) (1 : Int32)).bind fun r1 =>
  if r1 = 0 then
    some ((-1 : Int32), X)
  else
    (fX4_tryNight (15 : Int32) X).bind fun q2 =>
    lt (q2) fun X3 =>
    (fX1_dutyOfAll  (X3 3)).bind fun r4 =>
    fX4_leastBy_L32 i1 i2
      (fun p26 =>
        if i2 = 0 then
          some (p26.1, p26.2.2)
        else
          if p26.1 = (-4 : Int32) then
            some (p26.1, p26.2.2)
          else
            some (p26.2.1, p26.2.2))
      400 (-4 : Int32) r4 (0 : Int32) X3

set_option maxHeartbeats 4000000 in
set_option maxRecDepth 100000 in
theorem tX4_leastBy_L32 {V : JV M3} {ob : Nat → Nat} {aa : Nat → Nat → Nat} (hX : vX4 V ob aa) (i1 : Int32) (i2 : Int32) {E : JE (M3) Int32} (hE : JOk V E cX4_leastBy yX4_leastBy.cls 7 5 (some .int) jj_i) {k134 : (Int32 × Int32 × M3) → Option (Int32 × M3)} (hk134 : ∀ p, J V E (fun q => (q.1, q.2)) (k134 p) 134 [(2, .int i2), (3, .int p.1), (4, .int p.2.1)] [] p.2.2) : ∀ (n_ : Nat) (v5 : Int32) (v6 : Int32) (v7 : Int32) (X8 : M3), J V E (fun q => (q.1, q.2)) (fX4_leastBy_L32 i1 i2 k134 n_ v5 v6 v7 X8) 32 [(0, .ref (ob 0)), (1, .int i1), (2, .int i2), (3, .int v5), (4, .int v6), (5, .int v7)] [] X8 := by
  intro n_
  induction n_ with
  | zero =>
    intros
    exact J_none
  | succ n_ ih =>
    intros v5 v6 v7 X8
    rw [fX4_leastBy_L32]
    refine J_iload hE dd_X4_leastBy_32 5 rfl ?_
    refine J_aload_n hE dd_X4_leastBy_34 0 rfl rfl ?_
    refine J_get hE (hX.rt.ob _) jc_X4 1 (by decide) fl_RX4_19 (v := .ref (ob 2)) rfl dd_X4_leastBy_35 ?_
    refine J_get hE ((hX.sh sh2).ob _) jc_X1 0 (by decide) fl_RX4_73 (v := .int ((X8 2) 0 0)) rfl dd_X4_leastBy_38 ?_
    refine J_icmp_ge hE (tgt := 134) dd_X4_leastBy_41 (by decide) (fun c25 => ?_) (fun c25 => ?_)
    · refine J_sub [2, 3, 4] rfl ?_
      exact hk134 (v5, v6, X8)
    · refine J_aload_n hE dd_X4_leastBy_44 0 rfl rfl ?_
      refine J_get hE (hX.rt.ob _) jc_X4 2 (by decide) fl_RX4_23 (v := .ref (ob 3)) rfl dd_X4_leastBy_45 ?_
      refine J_aload_n hE dd_X4_leastBy_48 0 rfl rfl ?_
      refine J_get hE (hX.rt.ob _) jc_X4 1 (by decide) fl_RX4_19 (v := .ref (ob 2)) rfl dd_X4_leastBy_49 ?_
      refine J_invVwv hE (e := fun S => va_up X8 3 S) (As := [.ref (ob 2)]) (st := []) (JC.lift_v (e := fun S => va_up X8 3 S) (tX1_copyFrom E.2.1 (hX.shS X8 sh3) (hX.shR X8 3 sh2 (by decide)) (X8 3) ) (va_up_eta _ _)) ((hX.sh sh3).ob _) m_X1_copyFrom rfl ml_RX4_66 (Nat.le_of_ble_eq_true rfl) (Nat.le_of_ble_eq_true rfl) rfl (Nat.le_of_ble_eq_true rfl) dd_X4_leastBy_52 (fun q9 => ?_)
      refine J_letS (fun X10 => ?_)
      refine J_iload_n hE dd_X4_leastBy_55 1 rfl rfl ?_
      refine J_jn (m := 96) (Lf := fun p17 => [(0, .ref (ob 0)), (1, .int i1), (2, .int i2), (3, .int v5), (4, .int v6), (5, .int v7)]) (sf := fun p17 => []) (Xf := fun p17 => p17) (fun p17 => ?_) (fun hj11 => ?_)
      · show J V E _ _ 96 [(0, .ref (ob 0)), (1, .int i1), (2, .int i2), (3, .int v5), (4, .int v6), (5, .int v7)] [] p17
        refine J_aload_n hE dd_X4_leastBy_96 0 rfl rfl ?_
        refine J_get hE (hX.rt.ob _) jc_X4 2 (by decide) fl_RX4_23 (v := .ref (ob 3)) rfl dd_X4_leastBy_97 ?_
        refine J_bipush hE (v := (15 : Int32)) dd_X4_leastBy_100 (by decide) ?_
        refine J_invVwv hE (e := fun S => va_up p17 3 S) (As := [.int (15 : Int32)]) (st := []) (JC.lift_v (e := fun S => va_up p17 3 S) (tX1_letLoose E.2.1 (hX.shS p17 sh3) (p17 3) (15 : Int32)) (va_up_eta _ _)) ((hX.sh sh3).ob _) m_X1_letLoose rfl ml_RX4_192 (Nat.le_of_ble_eq_true rfl) (Nat.le_of_ble_eq_true rfl) rfl (Nat.le_of_ble_eq_true rfl) dd_X4_leastBy_102 (fun q18 => ?_)
        refine J_letS (fun X19 => ?_)
        refine J_aload_n hE dd_X4_leastBy_105 0 rfl rfl ?_
        refine J_get hE (hX.rt.ob _) jc_X4 2 (by decide) fl_RX4_23 (v := .ref (ob 3)) rfl dd_X4_leastBy_106 ?_
        refine J_invVri hE (As := []) (st := []) (JC.lift_r (e := fun S => va_up X19 3 S) (tX1_dutyOfAll E.2.1 (hX.shS X19 sh3) (X19 3) ) (va_up_eta _ _)) ((hX.sh sh3).ob _) m_X1_dutyOfAll rfl ml_RX4_164 (Nat.le_of_ble_eq_true rfl) (Nat.le_of_ble_eq_true rfl) rfl (Nat.le_of_ble_eq_true rfl) dd_X4_leastBy_109 (fun r20 => ?_)
        refine J_istore hE (L' := [(6, .int r20), (0, .ref (ob 0)), (1, .int i1), (2, .int i2), (3, .int v5), (4, .int v6), (5, .int v7)]) dd_X4_leastBy_112 (Nat.le_of_ble_eq_true rfl) rfl ?_
        refine J_iload hE dd_X4_leastBy_114 0 rfl ?_
        refine J_iload hE dd_X4_leastBy_116 5 rfl ?_
        refine J_jn (m := 128) (Lf := fun p23 => [(0, .ref (ob 0)), (1, .int i1), (2, .int i2), (3, .int p23.1), (4, .int p23.2), (5, .int v7)]) (sf := fun p23 => []) (Xf := fun p23 => X19) (fun p23 => ?_) (fun hj21 => ?_)
        · show J V E _ _ 128 [(0, .ref (ob 0)), (1, .int i1), (2, .int i2), (3, .int p23.1), (4, .int p23.2), (5, .int v7)] [] X19
          refine J_iincL hE (v := (v7 + (1 : Int32))) (Lf := fun x24 => [(5, .int x24), (0, .ref (ob 0)), (1, .int i1), (2, .int i2), (3, .int p23.1), (4, .int p23.2)]) dd_X4_leastBy_128 (j := 5) rfl (congrArg (v7 + ·) (by decide)) (Nat.le_of_ble_eq_true rfl) (fun _ => rfl) (fun x24 => ?_)
          refine J_goto hE (tgt := 32) dd_X4_leastBy_131 (by decide) ?_
          refine J_sub [1, 2, 3, 4, 5, 0] rfl ?_
          exact ih p23.1 p23.2 x24 X19
        · refine J_icmp_ge hE (tgt := 128) dd_X4_leastBy_118 (by decide) (fun c22 => ?_) (fun c22 => ?_)
          · refine J_sub [1, 2, 3, 4, 5, 6] rfl ?_
            exact hj21 (v5, v6)
          · refine J_iload hE dd_X4_leastBy_121 0 rfl ?_
            refine J_istore hE (L' := [(4, .int r20), (6, .int r20), (0, .ref (ob 0)), (1, .int i1), (2, .int i2), (3, .int v5), (5, .int v7)]) dd_X4_leastBy_123 (Nat.le_of_ble_eq_true rfl) rfl ?_
            refine J_iload hE dd_X4_leastBy_125 6 rfl ?_
            refine J_istore_n hE (L' := [(3, .int v7), (4, .int r20), (6, .int r20), (0, .ref (ob 0)), (1, .int i1), (2, .int i2), (5, .int v7)]) dd_X4_leastBy_127 (Nat.le_of_ble_eq_true rfl) rfl rfl ?_
            refine J_sub [3, 4, 5, 0, 1, 6] rfl ?_
            exact hj21 (v7, r20)
      · refine J_if_eq hE (tgt := 78) dd_X4_leastBy_56 (by decide) (fun c16 => ?_) (fun c16 => ?_)
        · refine J_aload_n hE dd_X4_leastBy_78 0 rfl rfl ?_
          refine J_get hE (hX.rt.ob _) jc_X4 2 (by decide) fl_RX4_23 (v := .ref (ob 3)) rfl dd_X4_leastBy_79 ?_
          refine J_iload hE dd_X4_leastBy_82 5 rfl ?_
          refine J_aload_n hE dd_X4_leastBy_84 0 rfl rfl ?_
          refine J_get hE (hX.rt.ob _) jc_X4 2 (by decide) fl_RX4_23 (v := .ref (ob 3)) rfl dd_X4_leastBy_85 ?_
          refine J_iload hE dd_X4_leastBy_88 5 rfl ?_
          refine J_invVri hE (As := [.int v7]) (st := [.int v7, .ref (ob 3)]) (JC.lift_r (e := fun S => va_up X10 3 S) (tX1_baleOf E.2.1 (hX.shS X10 sh3) (X10 3) v7) (va_up_eta _ _)) ((hX.sh sh3).ob _) m_X1_baleOf rfl ml_RX4_108 (Nat.le_of_ble_eq_true rfl) (Nat.le_of_ble_eq_true rfl) rfl (Nat.le_of_ble_eq_true rfl) dd_X4_leastBy_90 (fun r12 => ?_)
          refine J_invVwv hE (e := fun S => va_up X10 3 S) (As := [.int v7, .int r12]) (st := []) (JC.lift_v (e := fun S => va_up X10 3 S) (tX1_putOnTop E.2.1 (hX.shS X10 sh3) (X10 3) v7 r12) (va_up_eta _ _)) ((hX.sh sh3).ob _) m_X1_putOnTop rfl ml_RX4_140 (Nat.le_of_ble_eq_true rfl) (Nat.le_of_ble_eq_true rfl) rfl (Nat.le_of_ble_eq_true rfl) dd_X4_leastBy_93 (fun q13 => ?_)
          refine J_letS (fun X14 => ?_)
          refine J_sub [0, 1, 2, 3, 4, 5] rfl ?_
          exact hj11 X14
        · refine J_aload_n hE dd_X4_leastBy_59 0 rfl rfl ?_
          refine J_get hE (hX.rt.ob _) jc_X4 2 (by decide) fl_RX4_23 (v := .ref (ob 3)) rfl dd_X4_leastBy_60 ?_
          refine J_dup hE dd_X4_leastBy_63 rfl ?_
          refine J_get hE ((hX.sh sh3).ob _) jc_X1 4 (by decide) fl_RX4_88 (v := .int ((X10 3) 4 0)) rfl dd_X4_leastBy_64 ?_
          refine J_iconst hE (v := (1 : Int32)) dd_X4_leastBy_67 (by decide) ?_
          refine J_iload hE dd_X4_leastBy_68 5 rfl ?_
          refine J_ishl hE dd_X4_leastBy_70 ?_
          refine J_ior hE dd_X4_leastBy_71 ?_
          refine J_put hE (hX.sh sh3) jc_X1 4 (by decide) (by decide) fl_RX4_88 rfl rfl rfl (Nat.le_of_ble_eq_true rfl) dd_X4_leastBy_72 ?_
          refine J_letS (fun X15 => ?_)
          refine J_goto hE (tgt := 96) dd_X4_leastBy_75 (by decide) ?_
          refine J_sub [0, 1, 2, 3, 4, 5] rfl ?_
          exact hj11 X15
set_option maxHeartbeats 4000000 in
set_option maxRecDepth 100000 in
theorem tX4_leastBy (l : Launch) {V : JV M3} {ob : Nat → Nat} {aa : Nat → Nat → Nat} (hX : vX4 V ob aa) (X : M3) (i1 : Int32) (i2 : Int32) : JC l V yX4_leastBy cX4_leastBy 7 (some .int) jj_i 5 [.ref (ob 0), .int i1, .int i2] X ((fX4_leastBy i1 i2 X).map (fun q => (q.1, q.2))) := by
  refine jj_of (by decide) (Nat.le_of_ble_eq_true rfl) (fun E hlE hE => ?_)
  unfold fX4_leastBy
  refine J_sub (L' := [(0, .ref (ob 0)), (1, .int i1), (2, .int i2)]) [0, 1, 2] rfl ?_
  refine J_iload_n hE dd_X4_leastBy_0 2 rfl rfl ?_
  refine J_iconst hE (v := (0 : Int32)) dd_X4_leastBy_1 (by decide) ?_
  refine J_iconst hE (v := (1 : Int32)) dd_X4_leastBy_2 (by decide) ?_
  refine J_invSri hE (As := [.int i2, .int (0 : Int32), .int (1 : Int32)]) (st := []) (tX4_within E.2.1 V X i2 (0 : Int32) (1 : Int32)) m_X4_within s_X4_within rfl ml_RX4_44 (Nat.le_of_ble_eq_true rfl) (Nat.le_of_ble_eq_true rfl) rfl (Nat.le_of_ble_eq_true rfl) dd_X4_leastBy_3 (fun r1 => ?_)
  refine J_if_ne hE (tgt := 11) dd_X4_leastBy_6 (by decide) (fun c29 => ?_) (fun c29 => ?_)
  · refine J_bipush hE (v := (-4 : Int32)) dd_X4_leastBy_11 (by decide) ?_
    refine J_istore_n hE (L' := [(3, .int (-4 : Int32)), (0, .ref (ob 0)), (1, .int i1), (2, .int i2)]) dd_X4_leastBy_13 (Nat.le_of_ble_eq_true rfl) rfl rfl ?_
    refine J_aload_n hE dd_X4_leastBy_14 1 rfl rfl ?_
    refine J_bipush hE (v := (15 : Int32)) dd_X4_leastBy_15 (by decide) ?_
    refine J_invVwv hE (e := fun x => x) (As := [.int (15 : Int32)]) (st := []) (tX4_tryNight E.2.1 hX X (15 : Int32)) (hX.rt.ob _) m_X4_tryNight rfl ml_RX4_173 (Nat.le_of_ble_eq_true rfl) (Nat.le_of_ble_eq_true rfl) rfl (Nat.le_of_ble_eq_true rfl) dd_X4_leastBy_17 (fun q2 => ?_)
    refine J_letS (fun X3 => ?_)
    refine J_aload_n hE dd_X4_leastBy_20 1 rfl rfl ?_
    refine J_get hE (hX.rt.ob _) jc_X4 2 (by decide) fl_RX4_23 (v := .ref (ob 3)) rfl dd_X4_leastBy_21 ?_
    refine J_invVri hE (As := []) (st := []) (JC.lift_r (e := fun S => va_up X3 3 S) (tX1_dutyOfAll E.2.1 (hX.shS X3 sh3) (X3 3) ) (va_up_eta _ _)) ((hX.sh sh3).ob _) m_X1_dutyOfAll rfl ml_RX4_164 (Nat.le_of_ble_eq_true rfl) (Nat.le_of_ble_eq_true rfl) rfl (Nat.le_of_ble_eq_true rfl) dd_X4_leastBy_24 (fun r4 => ?_)
    refine J_istore hE (L' := [(4, .int r4), (3, .int (-4 : Int32)), (0, .ref (ob 0)), (1, .int i1), (2, .int i2)]) dd_X4_leastBy_27 (Nat.le_of_ble_eq_true rfl) rfl ?_
    refine J_iconst hE (v := (0 : Int32)) dd_X4_leastBy_29 (by decide) ?_
    refine J_istore hE (L' := [(5, .int (0 : Int32)), (4, .int r4), (3, .int (-4 : Int32)), (0, .ref (ob 0)), (1, .int i1), (2, .int i2)]) dd_X4_leastBy_30 (Nat.le_of_ble_eq_true rfl) rfl ?_
    refine J_sub [3, 4, 5, 2, 1, 0] rfl ?_
    refine tX4_leastBy_L32 hX i1 i2 hE (fun p26 => ?_) 400 (-4 : Int32) r4 (0 : Int32) X3
    show J V E _ _ 134 [(2, .int i2), (3, .int p26.1), (4, .int p26.2.1)] [] p26.2.2
    refine J_iload_n hE dd_X4_leastBy_134 0 rfl rfl ?_
    refine J_if_eq hE (tgt := 144) dd_X4_leastBy_135 (by decide) (fun c28 => ?_) (fun c28 => ?_)
    · refine J_iload_n hE dd_X4_leastBy_144 1 rfl rfl ?_
      refine J_goto hE (tgt := 150) dd_X4_leastBy_145 (by decide) ?_
      exact J_iret hE dd_X4_leastBy_150 rfl rfl
    · refine J_iload_n hE dd_X4_leastBy_138 1 rfl rfl ?_
      refine J_bipush hE (v := (-4 : Int32)) dd_X4_leastBy_139 (by decide) ?_
      refine J_icmp_ne hE (tgt := 148) dd_X4_leastBy_141 (by decide) (fun c27 => ?_) (fun c27 => ?_)
      · refine J_iload hE dd_X4_leastBy_148 2 rfl ?_
        exact J_iret hE dd_X4_leastBy_150 rfl rfl
      · refine J_iload_n hE dd_X4_leastBy_144 1 rfl rfl ?_
        refine J_goto hE (tgt := 150) dd_X4_leastBy_145 (by decide) ?_
        exact J_iret hE dd_X4_leastBy_150 rfl rfl
  · refine J_iconst hE (v := (-1 : Int32)) dd_X4_leastBy_9 (by decide) ?_
    exact J_iret hE dd_X4_leastBy_10 rfl rfl
theorem dd_X4_guard_0 : jd cX4_guard 0 (.aload_n 0) 1 1 := ⟨by decide +kernel, rfl⟩
theorem dd_X4_guard_1 : jd cX4_guard 1 (.iconst 1) 1 2 := ⟨by decide +kernel, rfl⟩
theorem dd_X4_guard_2 : jd cX4_guard 2 (.iload_n 1) 1 3 := ⟨by decide +kernel, rfl⟩
theorem ml_RX4_185 : (Cond.methodLink "MothCustoms" 185 yX4_leastBy : Cond) ∈ jj_tb := jj_m (List.mem_of_getElem? (i := 652) (by decide +kernel)) rfl
theorem dd_X4_guard_3 : jd cX4_guard 3 (.invokevirtual 185) 3 6 := ⟨by decide +kernel, rfl⟩
theorem dd_X4_guard_6 : jd cX4_guard 6 (.ireturn) 1 7 := ⟨by decide +kernel, rfl⟩
theorem m_X4_guard : jmV yX4_guard cX4_guard 2 (some .int) 1 := ⟨⟨(jj_m (w := Cond.code yX4_guard cX4_guard 2 (some .int)) (List.mem_of_getElem? (i := 651) (by decide +kernel)) rfl), (jj_m (w := Cond.initialized yX4_guard.cls) (List.mem_of_getElem? (i := 64) (by decide +kernel)) rfl), ⟨by decide, by decide⟩, by decide +kernel⟩, (jj_m (w := Cond.instanceMethod yX4_guard) (List.mem_of_getElem? (i := 649) (by decide +kernel)) rfl), (jj_m (w := Cond.selects yX4_guard.cls yX4_guard yX4_guard) (List.mem_of_getElem? (i := 650) (by decide +kernel)) rfl)⟩
def fX4_guard (i1 : Int32) (X : M3) : Option (Int32 × M3) :=
  (fX4_leastBy (1 : Int32) i1 X).bind fun q1 =>
  lt (q1.2) fun X2 =>
  some (q1.1, X2)

set_option maxHeartbeats 4000000 in
set_option maxRecDepth 100000 in
theorem tX4_guard (l : Launch) {V : JV M3} {ob : Nat → Nat} {aa : Nat → Nat → Nat} (hX : vX4 V ob aa) (X : M3) (i1 : Int32) : JC l V yX4_guard cX4_guard 2 (some .int) jj_i 6 [.ref (ob 0), .int i1] X ((fX4_guard i1 X).map (fun q => (q.1, q.2))) := by
  refine jj_of (by decide) (Nat.le_of_ble_eq_true rfl) (fun E hlE hE => ?_)
  unfold fX4_guard
  refine J_sub (L' := [(0, .ref (ob 0)), (1, .int i1)]) [0, 1] rfl ?_
  refine J_aload_n hE dd_X4_guard_0 0 rfl rfl ?_
  refine J_iconst hE (v := (1 : Int32)) dd_X4_guard_1 (by decide) ?_
  refine J_iload_n hE dd_X4_guard_2 1 rfl rfl ?_
  refine J_invVwi hE (e := fun x => x) (As := [.int (1 : Int32), .int i1]) (st := []) (tX4_leastBy E.2.1 hX X (1 : Int32) i1) (hX.rt.ob _) m_X4_leastBy rfl ml_RX4_185 (Nat.le_of_ble_eq_true rfl) (Nat.le_of_ble_eq_true rfl) rfl (Nat.le_of_ble_eq_true rfl) dd_X4_guard_3 (fun q1 => ?_)
  refine J_letS (fun X2 => ?_)
  exact J_iret hE dd_X4_guard_6 rfl rfl
theorem dd_X4_send_0 : jd cX4_send 0 (.aload_n 0) 1 1 := ⟨by decide +kernel, rfl⟩
theorem dd_X4_send_1 : jd cX4_send 1 (.getfield 19) 3 4 := ⟨by decide +kernel, rfl⟩
theorem dd_X4_send_4 : jd cX4_send 4 (.iload_n 1) 1 5 := ⟨by decide +kernel, rfl⟩
theorem dd_X4_send_5 : jd cX4_send 5 (.invokevirtual 115) 3 8 := ⟨by decide +kernel, rfl⟩
theorem dd_X4_send_20 : jd cX4_send 20 (.iconst (-1)) 1 21 := ⟨by decide +kernel, rfl⟩
theorem dd_X4_send_21 : jd cX4_send 21 (.ireturn) 1 22 := ⟨by decide +kernel, rfl⟩
theorem dd_X4_send_11 : jd cX4_send 11 (.iload_n 2) 1 12 := ⟨by decide +kernel, rfl⟩
theorem dd_X4_send_12 : jd cX4_send 12 (.iconst 0) 1 13 := ⟨by decide +kernel, rfl⟩
theorem dd_X4_send_13 : jd cX4_send 13 (.iconst 1) 1 14 := ⟨by decide +kernel, rfl⟩
theorem dd_X4_send_14 : jd cX4_send 14 (.invokestatic 44) 3 17 := ⟨by decide +kernel, rfl⟩
theorem dd_X4_send_22 : jd cX4_send 22 (.iconst 0) 1 23 := ⟨by decide +kernel, rfl⟩
theorem dd_X4_send_23 : jd cX4_send 23 (.istore_n 3) 1 24 := ⟨by decide +kernel, rfl⟩
theorem dd_X4_send_24 : jd cX4_send 24 (.iconst (-1)) 1 25 := ⟨by decide +kernel, rfl⟩
theorem dd_X4_send_25 : jd cX4_send 25 (.istore 4) 2 27 := ⟨by decide +kernel, rfl⟩
theorem dd_X4_send_27 : jd cX4_send 27 (.iconst 0) 1 28 := ⟨by decide +kernel, rfl⟩
theorem dd_X4_send_28 : jd cX4_send 28 (.istore 5) 2 30 := ⟨by decide +kernel, rfl⟩
theorem dd_X4_send_30 : jd cX4_send 30 (.iload 5) 2 32 := ⟨by decide +kernel, rfl⟩
theorem dd_X4_send_32 : jd cX4_send 32 (.iconst 3) 1 33 := ⟨by decide +kernel, rfl⟩
theorem dd_X4_send_36 : jd cX4_send 36 (.aload_n 0) 1 37 := ⟨by decide +kernel, rfl⟩
theorem dd_X4_send_37 : jd cX4_send 37 (.getfield 23) 3 40 := ⟨by decide +kernel, rfl⟩
theorem dd_X4_send_40 : jd cX4_send 40 (.aload_n 0) 1 41 := ⟨by decide +kernel, rfl⟩
theorem dd_X4_send_41 : jd cX4_send 41 (.getfield 19) 3 44 := ⟨by decide +kernel, rfl⟩
theorem dd_X4_send_44 : jd cX4_send 44 (.invokevirtual 66) 3 47 := ⟨by decide +kernel, rfl⟩
theorem dd_X4_send_47 : jd cX4_send 47 (.aload_n 0) 1 48 := ⟨by decide +kernel, rfl⟩
theorem dd_X4_send_48 : jd cX4_send 48 (.getfield 23) 3 51 := ⟨by decide +kernel, rfl⟩
theorem fl_RX4_189 : (Cond.fieldLink "MothCustoms" 189 "MothCustoms$Shed" "at" "[I" : Cond) ∈ jj_tb := jj_m (List.mem_of_getElem? (i := 163) (by decide +kernel)) rfl
theorem dd_X4_send_51 : jd cX4_send 51 (.getfield 189) 3 54 := ⟨by decide +kernel, rfl⟩
theorem dd_X4_send_54 : jd cX4_send 54 (.iload_n 1) 1 55 := ⟨by decide +kernel, rfl⟩
theorem dd_X4_send_55 : jd cX4_send 55 (.iload 5) 2 57 := ⟨by decide +kernel, rfl⟩
theorem dd_X4_send_57 : jd cX4_send 57 (.iastore) 1 58 := ⟨by decide +kernel, rfl⟩
theorem dd_X4_send_58 : jd cX4_send 58 (.aload_n 0) 1 59 := ⟨by decide +kernel, rfl⟩
theorem dd_X4_send_59 : jd cX4_send 59 (.getfield 23) 3 62 := ⟨by decide +kernel, rfl⟩
theorem dd_X4_send_62 : jd cX4_send 62 (.bipush 15) 2 64 := ⟨by decide +kernel, rfl⟩
theorem dd_X4_send_64 : jd cX4_send 64 (.invokevirtual 192) 3 67 := ⟨by decide +kernel, rfl⟩
theorem dd_X4_send_67 : jd cX4_send 67 (.aload_n 0) 1 68 := ⟨by decide +kernel, rfl⟩
theorem dd_X4_send_68 : jd cX4_send 68 (.getfield 23) 3 71 := ⟨by decide +kernel, rfl⟩
theorem dd_X4_send_71 : jd cX4_send 71 (.invokevirtual 164) 3 74 := ⟨by decide +kernel, rfl⟩
theorem dd_X4_send_74 : jd cX4_send 74 (.istore 6) 2 76 := ⟨by decide +kernel, rfl⟩
theorem dd_X4_send_76 : jd cX4_send 76 (.iload 6) 2 78 := ⟨by decide +kernel, rfl⟩
theorem dd_X4_send_78 : jd cX4_send 78 (.iload 4) 2 80 := ⟨by decide +kernel, rfl⟩
theorem dd_X4_send_83 : jd cX4_send 83 (.iload 6) 2 85 := ⟨by decide +kernel, rfl⟩
theorem dd_X4_send_85 : jd cX4_send 85 (.istore 4) 2 87 := ⟨by decide +kernel, rfl⟩
theorem dd_X4_send_87 : jd cX4_send 87 (.iload 5) 2 89 := ⟨by decide +kernel, rfl⟩
theorem dd_X4_send_89 : jd cX4_send 89 (.istore_n 3) 1 90 := ⟨by decide +kernel, rfl⟩
theorem dd_X4_send_80 : jd cX4_send 80 (.if_icmp .le 10) 3 83 := ⟨by decide +kernel, rfl⟩
theorem dd_X4_send_90 : jd cX4_send 90 (.iinc 5 1) 3 93 := ⟨by decide +kernel, rfl⟩
theorem dd_X4_send_93 : jd cX4_send 93 (.goto (-63)) 3 96 := ⟨by decide +kernel, rfl⟩
theorem dd_X4_send_33 : jd cX4_send 33 (.if_icmp .ge 63) 3 36 := ⟨by decide +kernel, rfl⟩
theorem dd_X4_send_96 : jd cX4_send 96 (.iload_n 2) 1 97 := ⟨by decide +kernel, rfl⟩
theorem dd_X4_send_104 : jd cX4_send 104 (.iload 4) 2 106 := ⟨by decide +kernel, rfl⟩
theorem dd_X4_send_106 : jd cX4_send 106 (.ireturn) 1 107 := ⟨by decide +kernel, rfl⟩
theorem dd_X4_send_100 : jd cX4_send 100 (.iload_n 3) 1 101 := ⟨by decide +kernel, rfl⟩
theorem dd_X4_send_101 : jd cX4_send 101 (.goto 5) 3 104 := ⟨by decide +kernel, rfl⟩
theorem dd_X4_send_97 : jd cX4_send 97 (.ifCond .ne 7) 3 100 := ⟨by decide +kernel, rfl⟩
theorem dd_X4_send_17 : jd cX4_send 17 (.ifCond .ne 5) 3 20 := ⟨by decide +kernel, rfl⟩
theorem dd_X4_send_8 : jd cX4_send 8 (.ifCond .eq 12) 3 11 := ⟨by decide +kernel, rfl⟩
theorem m_X4_send : jmV yX4_send cX4_send 7 (some .int) 2 := ⟨⟨(jj_m (w := Cond.code yX4_send cX4_send 7 (some .int)) (List.mem_of_getElem? (i := 659) (by decide +kernel)) rfl), (jj_m (w := Cond.initialized yX4_send.cls) (List.mem_of_getElem? (i := 64) (by decide +kernel)) rfl), ⟨by decide, by decide⟩, by decide +kernel⟩, (jj_m (w := Cond.instanceMethod yX4_send) (List.mem_of_getElem? (i := 657) (by decide +kernel)) rfl), (jj_m (w := Cond.selects yX4_send.cls yX4_send yX4_send) (List.mem_of_getElem? (i := 658) (by decide +kernel)) rfl)⟩
def fX4_send_L30 (i1 : Int32) (i2 : Int32) (k96 : (Int32 × Int32 × M3) → Option (Int32 × M3)) : Nat → Int32 → Int32 → Int32 → M3 → Option (Int32 × M3)
  | 0, _, _, _, _ => none
  | n_ + 1, v3, v4, v5, X6 =>
    if (3 : Int32) ≤ v5 then
      k96 (v3, v4, X6)
    else
      (fX1_copyFrom  (X6 3) (X6 2)).bind fun q7 =>
      lt ((va_up X6 3 q7)) fun X8 =>
      bnd i1 4 <|
      lt ((va_up X8 3 (va_up (X8 3) 11 (upd ((X8 3) 11) i1.toNatClampNeg v5)))) fun X9 =>
      (fX1_letLoose (15 : Int32) (X9 3)).bind fun q10 =>
      lt ((va_up X9 3 q10)) fun X11 =>
      (fX1_dutyOfAll  (X11 3)).bind fun r12 =>
      jn (α := Option (Int32 × M3)) (β := Int32 × Int32) (fun j13 =>
        if r12 ≤ v4 then
          j13 (v3, v4)
        else
          j13 (v5, r12)) (fun p15 => 
        lt (v5 + (1 : Int32)) fun x16 =>
        fX4_send_L30 i1 i2 k96 n_ p15.1 p15.2 x16 X11)

def fX4_send (i1 : Int32) (i2 : Int32) (X : M3) : Option (Int32 × M3) :=
  (fX1_hasMoth i1 (X 2)).bind fun r1 =>
  if r1 = 0 then
    some ((-1 : Int32), X)
  else
    (fX4_within i2 (0 : Int32) (1 : Int32)).bind fun r2 =>
    if r2 = 0 then
      some ((-1 : Int32), X)
    else
      fX4_send_L30 i1 i2
        (fun p18 =>
          if i2 = 0 then
            some (p18.1, p18.2.2)
          else
            some (p18.2.1, p18.2.2))
        400 (0 : Int32) (-1 : Int32) (0 : Int32) X

set_option maxHeartbeats 4000000 in
set_option maxRecDepth 100000 in
theorem tX4_send_L30 {V : JV M3} {ob : Nat → Nat} {aa : Nat → Nat → Nat} (hX : vX4 V ob aa) (i1 : Int32) (i2 : Int32) {E : JE (M3) Int32} (hE : JOk V E cX4_send yX4_send.cls 7 4 (some .int) jj_i) {k96 : (Int32 × Int32 × M3) → Option (Int32 × M3)} (hk96 : ∀ p, J V E (fun q => (q.1, q.2)) (k96 p) 96 [(2, .int i2), (3, .int p.1), (4, .int p.2.1)] [] p.2.2) : ∀ (n_ : Nat) (v3 : Int32) (v4 : Int32) (v5 : Int32) (X6 : M3), J V E (fun q => (q.1, q.2)) (fX4_send_L30 i1 i2 k96 n_ v3 v4 v5 X6) 30 [(0, .ref (ob 0)), (1, .int i1), (2, .int i2), (3, .int v3), (4, .int v4), (5, .int v5)] [] X6 := by
  intro n_
  induction n_ with
  | zero =>
    intros
    exact J_none
  | succ n_ ih =>
    intros v3 v4 v5 X6
    rw [fX4_send_L30]
    refine J_iload hE dd_X4_send_30 5 rfl ?_
    refine J_iconst hE (v := (3 : Int32)) dd_X4_send_32 (by decide) ?_
    refine J_icmp_ge hE (tgt := 96) dd_X4_send_33 (by decide) (fun c17 => ?_) (fun c17 => ?_)
    · refine J_sub [2, 3, 4] rfl ?_
      exact hk96 (v3, v4, X6)
    · refine J_aload_n hE dd_X4_send_36 0 rfl rfl ?_
      refine J_get hE (hX.rt.ob _) jc_X4 2 (by decide) fl_RX4_23 (v := .ref (ob 3)) rfl dd_X4_send_37 ?_
      refine J_aload_n hE dd_X4_send_40 0 rfl rfl ?_
      refine J_get hE (hX.rt.ob _) jc_X4 1 (by decide) fl_RX4_19 (v := .ref (ob 2)) rfl dd_X4_send_41 ?_
      refine J_invVwv hE (e := fun S => va_up X6 3 S) (As := [.ref (ob 2)]) (st := []) (JC.lift_v (e := fun S => va_up X6 3 S) (tX1_copyFrom E.2.1 (hX.shS X6 sh3) (hX.shR X6 3 sh2 (by decide)) (X6 3) ) (va_up_eta _ _)) ((hX.sh sh3).ob _) m_X1_copyFrom rfl ml_RX4_66 (Nat.le_of_ble_eq_true rfl) (Nat.le_of_ble_eq_true rfl) rfl (Nat.le_of_ble_eq_true rfl) dd_X4_send_44 (fun q7 => ?_)
      refine J_letS (fun X8 => ?_)
      refine J_aload_n hE dd_X4_send_47 0 rfl rfl ?_
      refine J_get hE (hX.rt.ob _) jc_X4 2 (by decide) fl_RX4_23 (v := .ref (ob 3)) rfl dd_X4_send_48 ?_
      refine J_get hE ((hX.sh sh3).ob _) jc_X1 11 (by decide) fl_RX4_189 (v := .ref ((aa 3) 11)) rfl dd_X4_send_51 ?_
      refine J_iload_n hE dd_X4_send_54 1 rfl rfl ?_
      refine J_iload hE dd_X4_send_55 5 rfl ?_
      refine J_ast hE (hX.sh sh3) 11 (N := 4) (by decide) dd_X4_send_57 ?_
      refine J_letS (fun X9 => ?_)
      refine J_aload_n hE dd_X4_send_58 0 rfl rfl ?_
      refine J_get hE (hX.rt.ob _) jc_X4 2 (by decide) fl_RX4_23 (v := .ref (ob 3)) rfl dd_X4_send_59 ?_
      refine J_bipush hE (v := (15 : Int32)) dd_X4_send_62 (by decide) ?_
      refine J_invVwv hE (e := fun S => va_up X9 3 S) (As := [.int (15 : Int32)]) (st := []) (JC.lift_v (e := fun S => va_up X9 3 S) (tX1_letLoose E.2.1 (hX.shS X9 sh3) (X9 3) (15 : Int32)) (va_up_eta _ _)) ((hX.sh sh3).ob _) m_X1_letLoose rfl ml_RX4_192 (Nat.le_of_ble_eq_true rfl) (Nat.le_of_ble_eq_true rfl) rfl (Nat.le_of_ble_eq_true rfl) dd_X4_send_64 (fun q10 => ?_)
      refine J_letS (fun X11 => ?_)
      refine J_aload_n hE dd_X4_send_67 0 rfl rfl ?_
      refine J_get hE (hX.rt.ob _) jc_X4 2 (by decide) fl_RX4_23 (v := .ref (ob 3)) rfl dd_X4_send_68 ?_
      refine J_invVri hE (As := []) (st := []) (JC.lift_r (e := fun S => va_up X11 3 S) (tX1_dutyOfAll E.2.1 (hX.shS X11 sh3) (X11 3) ) (va_up_eta _ _)) ((hX.sh sh3).ob _) m_X1_dutyOfAll rfl ml_RX4_164 (Nat.le_of_ble_eq_true rfl) (Nat.le_of_ble_eq_true rfl) rfl (Nat.le_of_ble_eq_true rfl) dd_X4_send_71 (fun r12 => ?_)
      refine J_istore hE (L' := [(6, .int r12), (0, .ref (ob 0)), (1, .int i1), (2, .int i2), (3, .int v3), (4, .int v4), (5, .int v5)]) dd_X4_send_74 (Nat.le_of_ble_eq_true rfl) rfl ?_
      refine J_iload hE dd_X4_send_76 0 rfl ?_
      refine J_iload hE dd_X4_send_78 5 rfl ?_
      refine J_jn (m := 90) (Lf := fun p15 => [(0, .ref (ob 0)), (1, .int i1), (2, .int i2), (3, .int p15.1), (4, .int p15.2), (5, .int v5)]) (sf := fun p15 => []) (Xf := fun p15 => X11) (fun p15 => ?_) (fun hj13 => ?_)
      · show J V E _ _ 90 [(0, .ref (ob 0)), (1, .int i1), (2, .int i2), (3, .int p15.1), (4, .int p15.2), (5, .int v5)] [] X11
        refine J_iincL hE (v := (v5 + (1 : Int32))) (Lf := fun x16 => [(5, .int x16), (0, .ref (ob 0)), (1, .int i1), (2, .int i2), (3, .int p15.1), (4, .int p15.2)]) dd_X4_send_90 (j := 5) rfl (congrArg (v5 + ·) (by decide)) (Nat.le_of_ble_eq_true rfl) (fun _ => rfl) (fun x16 => ?_)
        refine J_goto hE (tgt := 30) dd_X4_send_93 (by decide) ?_
        refine J_sub [1, 2, 3, 4, 5, 0] rfl ?_
        exact ih p15.1 p15.2 x16 X11
      · refine J_icmp_le hE (tgt := 90) dd_X4_send_80 (by decide) (fun c14 => ?_) (fun c14 => ?_)
        · refine J_sub [1, 2, 3, 4, 5, 6] rfl ?_
          exact hj13 (v3, v4)
        · refine J_iload hE dd_X4_send_83 0 rfl ?_
          refine J_istore hE (L' := [(4, .int r12), (6, .int r12), (0, .ref (ob 0)), (1, .int i1), (2, .int i2), (3, .int v3), (5, .int v5)]) dd_X4_send_85 (Nat.le_of_ble_eq_true rfl) rfl ?_
          refine J_iload hE dd_X4_send_87 6 rfl ?_
          refine J_istore_n hE (L' := [(3, .int v5), (4, .int r12), (6, .int r12), (0, .ref (ob 0)), (1, .int i1), (2, .int i2), (5, .int v5)]) dd_X4_send_89 (Nat.le_of_ble_eq_true rfl) rfl rfl ?_
          refine J_sub [3, 4, 5, 0, 1, 6] rfl ?_
          exact hj13 (v5, r12)
set_option maxHeartbeats 4000000 in
set_option maxRecDepth 100000 in
theorem tX4_send (l : Launch) {V : JV M3} {ob : Nat → Nat} {aa : Nat → Nat → Nat} (hX : vX4 V ob aa) (X : M3) (i1 : Int32) (i2 : Int32) : JC l V yX4_send cX4_send 7 (some .int) jj_i 4 [.ref (ob 0), .int i1, .int i2] X ((fX4_send i1 i2 X).map (fun q => (q.1, q.2))) := by
  refine jj_of (by decide) (Nat.le_of_ble_eq_true rfl) (fun E hlE hE => ?_)
  unfold fX4_send
  refine J_sub (L' := [(0, .ref (ob 0)), (1, .int i1), (2, .int i2)]) [0, 1, 2] rfl ?_
  refine J_aload_n hE dd_X4_send_0 0 rfl rfl ?_
  refine J_get hE (hX.rt.ob _) jc_X4 1 (by decide) fl_RX4_19 (v := .ref (ob 2)) rfl dd_X4_send_1 ?_
  refine J_iload_n hE dd_X4_send_4 1 rfl rfl ?_
  refine J_invVri hE (As := [.int i1]) (st := []) (JC.lift_r (e := fun S => va_up X 2 S) (tX1_hasMoth E.2.1 (hX.shS X sh2) (X 2) i1) (va_up_eta _ _)) ((hX.sh sh2).ob _) m_X1_hasMoth rfl ml_RX4_115 (Nat.le_of_ble_eq_true rfl) (Nat.le_of_ble_eq_true rfl) rfl (Nat.le_of_ble_eq_true rfl) dd_X4_send_5 (fun r1 => ?_)
  refine J_if_eq hE (tgt := 20) dd_X4_send_8 (by decide) (fun c21 => ?_) (fun c21 => ?_)
  · refine J_iconst hE (v := (-1 : Int32)) dd_X4_send_20 (by decide) ?_
    exact J_iret hE dd_X4_send_21 rfl rfl
  · refine J_iload_n hE dd_X4_send_11 2 rfl rfl ?_
    refine J_iconst hE (v := (0 : Int32)) dd_X4_send_12 (by decide) ?_
    refine J_iconst hE (v := (1 : Int32)) dd_X4_send_13 (by decide) ?_
    refine J_invSri hE (As := [.int i2, .int (0 : Int32), .int (1 : Int32)]) (st := []) (tX4_within E.2.1 V X i2 (0 : Int32) (1 : Int32)) m_X4_within s_X4_within rfl ml_RX4_44 (Nat.le_of_ble_eq_true rfl) (Nat.le_of_ble_eq_true rfl) rfl (Nat.le_of_ble_eq_true rfl) dd_X4_send_14 (fun r2 => ?_)
    refine J_if_ne hE (tgt := 22) dd_X4_send_17 (by decide) (fun c20 => ?_) (fun c20 => ?_)
    · refine J_iconst hE (v := (0 : Int32)) dd_X4_send_22 (by decide) ?_
      refine J_istore_n hE (L' := [(3, .int (0 : Int32)), (0, .ref (ob 0)), (1, .int i1), (2, .int i2)]) dd_X4_send_23 (Nat.le_of_ble_eq_true rfl) rfl rfl ?_
      refine J_iconst hE (v := (-1 : Int32)) dd_X4_send_24 (by decide) ?_
      refine J_istore hE (L' := [(4, .int (-1 : Int32)), (3, .int (0 : Int32)), (0, .ref (ob 0)), (1, .int i1), (2, .int i2)]) dd_X4_send_25 (Nat.le_of_ble_eq_true rfl) rfl ?_
      refine J_iconst hE (v := (0 : Int32)) dd_X4_send_27 (by decide) ?_
      refine J_istore hE (L' := [(5, .int (0 : Int32)), (4, .int (-1 : Int32)), (3, .int (0 : Int32)), (0, .ref (ob 0)), (1, .int i1), (2, .int i2)]) dd_X4_send_28 (Nat.le_of_ble_eq_true rfl) rfl ?_
      refine J_sub [3, 4, 5, 2, 1, 0] rfl ?_
      refine tX4_send_L30 hX i1 i2 hE (fun p18 => ?_) 400 (0 : Int32) (-1 : Int32) (0 : Int32) X
      show J V E _ _ 96 [(2, .int i2), (3, .int p18.1), (4, .int p18.2.1)] [] p18.2.2
      refine J_iload_n hE dd_X4_send_96 0 rfl rfl ?_
      refine J_if_ne hE (tgt := 104) dd_X4_send_97 (by decide) (fun c19 => ?_) (fun c19 => ?_)
      · refine J_iload hE dd_X4_send_104 2 rfl ?_
        exact J_iret hE dd_X4_send_106 rfl rfl
      · refine J_iload_n hE dd_X4_send_100 1 rfl rfl ?_
        refine J_goto hE (tgt := 106) dd_X4_send_101 (by decide) ?_
        exact J_iret hE dd_X4_send_106 rfl rfl
    · refine J_iconst hE (v := (-1 : Int32)) dd_X4_send_20 (by decide) ?_
      exact J_iret hE dd_X4_send_21 rfl rfl
theorem dd_X4_raise_0 : jd cX4_raise 0 (.aload_n 0) 1 1 := ⟨by decide +kernel, rfl⟩
theorem dd_X4_raise_1 : jd cX4_raise 1 (.iconst 0) 1 2 := ⟨by decide +kernel, rfl⟩
theorem dd_X4_raise_2 : jd cX4_raise 2 (.iload_n 1) 1 3 := ⟨by decide +kernel, rfl⟩
theorem dd_X4_raise_3 : jd cX4_raise 3 (.invokevirtual 185) 3 6 := ⟨by decide +kernel, rfl⟩
theorem dd_X4_raise_6 : jd cX4_raise 6 (.ireturn) 1 7 := ⟨by decide +kernel, rfl⟩
theorem m_X4_raise : jmV yX4_raise cX4_raise 2 (some .int) 1 := ⟨⟨(jj_m (w := Cond.code yX4_raise cX4_raise 2 (some .int)) (List.mem_of_getElem? (i := 663) (by decide +kernel)) rfl), (jj_m (w := Cond.initialized yX4_raise.cls) (List.mem_of_getElem? (i := 64) (by decide +kernel)) rfl), ⟨by decide, by decide⟩, by decide +kernel⟩, (jj_m (w := Cond.instanceMethod yX4_raise) (List.mem_of_getElem? (i := 661) (by decide +kernel)) rfl), (jj_m (w := Cond.selects yX4_raise.cls yX4_raise yX4_raise) (List.mem_of_getElem? (i := 662) (by decide +kernel)) rfl)⟩
def fX4_raise (i1 : Int32) (X : M3) : Option (Int32 × M3) :=
  (fX4_leastBy (0 : Int32) i1 X).bind fun q1 =>
  lt (q1.2) fun X2 =>
  some (q1.1, X2)

set_option maxHeartbeats 4000000 in
set_option maxRecDepth 100000 in
theorem tX4_raise (l : Launch) {V : JV M3} {ob : Nat → Nat} {aa : Nat → Nat → Nat} (hX : vX4 V ob aa) (X : M3) (i1 : Int32) : JC l V yX4_raise cX4_raise 2 (some .int) jj_i 6 [.ref (ob 0), .int i1] X ((fX4_raise i1 X).map (fun q => (q.1, q.2))) := by
  refine jj_of (by decide) (Nat.le_of_ble_eq_true rfl) (fun E hlE hE => ?_)
  unfold fX4_raise
  refine J_sub (L' := [(0, .ref (ob 0)), (1, .int i1)]) [0, 1] rfl ?_
  refine J_aload_n hE dd_X4_raise_0 0 rfl rfl ?_
  refine J_iconst hE (v := (0 : Int32)) dd_X4_raise_1 (by decide) ?_
  refine J_iload_n hE dd_X4_raise_2 1 rfl rfl ?_
  refine J_invVwi hE (e := fun x => x) (As := [.int (0 : Int32), .int i1]) (st := []) (tX4_leastBy E.2.1 hX X (0 : Int32) i1) (hX.rt.ob _) m_X4_leastBy rfl ml_RX4_185 (Nat.le_of_ble_eq_true rfl) (Nat.le_of_ble_eq_true rfl) rfl (Nat.le_of_ble_eq_true rfl) dd_X4_raise_3 (fun q1 => ?_)
  refine J_letS (fun X2 => ?_)
  exact J_iret hE dd_X4_raise_6 rfl rfl
theorem dd_X4_weight_0 : jd cX4_weight 0 (.lconst 1) 1 1 := ⟨by decide +kernel, rfl⟩
theorem dd_X4_weight_1 : jd cX4_weight 1 (.lstore_n 3) 1 2 := ⟨by decide +kernel, rfl⟩
theorem dd_X4_weight_2 : jd cX4_weight 2 (.iconst 0) 1 3 := ⟨by decide +kernel, rfl⟩
theorem dd_X4_weight_3 : jd cX4_weight 3 (.istore 5) 2 5 := ⟨by decide +kernel, rfl⟩
theorem dd_X4_weight_5 : jd cX4_weight 5 (.iload 5) 2 7 := ⟨by decide +kernel, rfl⟩
theorem dd_X4_weight_7 : jd cX4_weight 7 (.aload_n 0) 1 8 := ⟨by decide +kernel, rfl⟩
theorem dd_X4_weight_8 : jd cX4_weight 8 (.getfield 19) 3 11 := ⟨by decide +kernel, rfl⟩
theorem dd_X4_weight_11 : jd cX4_weight 11 (.getfield 76) 3 14 := ⟨by decide +kernel, rfl⟩
theorem dd_X4_weight_17 : jd cX4_weight 17 (.lload_n 3) 1 18 := ⟨by decide +kernel, rfl⟩
theorem dd_X4_weight_18 : jd cX4_weight 18 (.iload_n 2) 1 19 := ⟨by decide +kernel, rfl⟩
theorem dd_X4_weight_19 : jd cX4_weight 19 (.iload 5) 2 21 := ⟨by decide +kernel, rfl⟩
theorem dd_X4_weight_21 : jd cX4_weight 21 (.ishr) 1 22 := ⟨by decide +kernel, rfl⟩
theorem dd_X4_weight_22 : jd cX4_weight 22 (.iconst 1) 1 23 := ⟨by decide +kernel, rfl⟩
theorem dd_X4_weight_23 : jd cX4_weight 23 (.iand) 1 24 := ⟨by decide +kernel, rfl⟩
theorem dd_X4_weight_24 : jd cX4_weight 24 (.iconst 1) 1 25 := ⟨by decide +kernel, rfl⟩
theorem dd_X4_weight_33 : jd cX4_weight 33 (.bipush 10) 2 35 := ⟨by decide +kernel, rfl⟩
theorem dd_X4_weight_35 : jd cX4_weight 35 (.iload_n 1) 1 36 := ⟨by decide +kernel, rfl⟩
theorem dd_X4_weight_36 : jd cX4_weight 36 (.isub) 1 37 := ⟨by decide +kernel, rfl⟩
theorem dd_X4_weight_37 : jd cX4_weight 37 (.i2l) 1 38 := ⟨by decide +kernel, rfl⟩
theorem dd_X4_weight_28 : jd cX4_weight 28 (.iload_n 1) 1 29 := ⟨by decide +kernel, rfl⟩
theorem dd_X4_weight_29 : jd cX4_weight 29 (.i2l) 1 30 := ⟨by decide +kernel, rfl⟩
theorem dd_X4_weight_30 : jd cX4_weight 30 (.goto 8) 3 33 := ⟨by decide +kernel, rfl⟩
theorem dd_X4_weight_25 : jd cX4_weight 25 (.if_icmp .ne 8) 3 28 := ⟨by decide +kernel, rfl⟩
theorem dd_X4_weight_38 : jd cX4_weight 38 (.lmul) 1 39 := ⟨by decide +kernel, rfl⟩
theorem dd_X4_weight_39 : jd cX4_weight 39 (.lstore_n 3) 1 40 := ⟨by decide +kernel, rfl⟩
theorem dd_X4_weight_40 : jd cX4_weight 40 (.iinc 5 1) 3 43 := ⟨by decide +kernel, rfl⟩
theorem dd_X4_weight_43 : jd cX4_weight 43 (.goto (-38)) 3 46 := ⟨by decide +kernel, rfl⟩
theorem dd_X4_weight_14 : jd cX4_weight 14 (.if_icmp .ge 32) 3 17 := ⟨by decide +kernel, rfl⟩
theorem dd_X4_weight_46 : jd cX4_weight 46 (.lload_n 3) 1 47 := ⟨by decide +kernel, rfl⟩
theorem dd_X4_weight_47 : jd cX4_weight 47 (.lreturn) 1 48 := ⟨by decide +kernel, rfl⟩
theorem m_X4_weight : jmV yX4_weight cX4_weight 6 (some .long) 2 := ⟨⟨(jj_m (w := Cond.code yX4_weight cX4_weight 6 (some .long)) (List.mem_of_getElem? (i := 672) (by decide +kernel)) rfl), (jj_m (w := Cond.initialized yX4_weight.cls) (List.mem_of_getElem? (i := 64) (by decide +kernel)) rfl), ⟨by decide, by decide⟩, by decide +kernel⟩, (jj_m (w := Cond.instanceMethod yX4_weight) (List.mem_of_getElem? (i := 671) (by decide +kernel)) rfl), (jj_m (w := Cond.selects yX4_weight.cls yX4_weight yX4_weight) (List.mem_of_getElem? (i := 12) (by decide +kernel)) rfl)⟩
def fX4_weight_L5 (X : M3) (i1 : Int32) (i2 : Int32) (k46 : Int64 → Option (Int64)) : Nat → Int64 → Int32 → Option (Int64)
  | 0, _, _ => none
  | n_ + 1, w1, v2 =>
    if ((X 2) 7 0) ≤ v2 then
      k46 w1
    else
      jn (α := Option (Int64)) (β := Int64) (fun j3 =>
        if ((i2 >>> (v2 &&& 31)) &&& (1 : Int32)) = (1 : Int32) then
          j3 (i1.toInt64)
        else
          j3 (((10 : Int32) - i1).toInt64)) (fun p5 => 
        lt ((w1 * p5)) fun y6 =>
        lt (v2 + (1 : Int32)) fun x7 =>
        fX4_weight_L5 X i1 i2 k46 n_ y6 x7)

def fX4_weight (i1 : Int32) (i2 : Int32) (X : M3) : Option (Int64) :=
  fX4_weight_L5 X i1 i2
    (fun p9 =>
      some p9)
    400 (1 : Int64) (0 : Int32)

set_option maxHeartbeats 4000000 in
set_option maxRecDepth 100000 in
theorem tX4_weight_L5 {V : JV M3} {ob : Nat → Nat} {aa : Nat → Nat → Nat} (hX : vX4 V ob aa) (X : M3) (i1 : Int32) (i2 : Int32) {E : JE (M3) Int64} (hE : JOk V E cX4_weight yX4_weight.cls 6 0 (some .long) jj_l) {k46 : Int64 → Option (Int64)} (hk46 : ∀ p, J V E (fun r => (r, X)) (k46 p) 46 [(3, .long p)] [] X) : ∀ (n_ : Nat) (w1 : Int64) (v2 : Int32), J V E (fun r => (r, X)) (fX4_weight_L5 X i1 i2 k46 n_ w1 v2) 5 [(0, .ref (ob 0)), (1, .int i1), (2, .int i2), (3, .long w1), (5, .int v2)] [] X := by
  intro n_
  induction n_ with
  | zero =>
    intros
    exact J_none
  | succ n_ ih =>
    intros w1 v2
    rw [fX4_weight_L5]
    refine J_iload hE dd_X4_weight_5 4 rfl ?_
    refine J_aload_n hE dd_X4_weight_7 0 rfl rfl ?_
    refine J_get hE (hX.rt.ob _) jc_X4 1 (by decide) fl_RX4_19 (v := .ref (ob 2)) rfl dd_X4_weight_8 ?_
    refine J_get hE ((hX.sh sh2).ob _) jc_X1 7 (by decide) fl_RX4_76 (v := .int ((X 2) 7 0)) rfl dd_X4_weight_11 ?_
    refine J_icmp_ge hE (tgt := 46) dd_X4_weight_14 (by decide) (fun c8 => ?_) (fun c8 => ?_)
    · refine J_sub [3] rfl ?_
      exact hk46 w1
    · refine J_lload_n hE dd_X4_weight_17 3 rfl rfl ?_
      refine J_iload_n hE dd_X4_weight_18 2 rfl rfl ?_
      refine J_iload hE dd_X4_weight_19 4 rfl ?_
      refine J_ishr hE dd_X4_weight_21 ?_
      refine J_iconst hE (v := (1 : Int32)) dd_X4_weight_22 (by decide) ?_
      refine J_iand hE dd_X4_weight_23 ?_
      refine J_iconst hE (v := (1 : Int32)) dd_X4_weight_24 (by decide) ?_
      refine J_jn (m := 38) (Lf := fun p5 => [(0, .ref (ob 0)), (1, .int i1), (2, .int i2), (5, .int v2)]) (sf := fun p5 => [.long p5, .long w1]) (Xf := fun p5 => X) (fun p5 => ?_) (fun hj3 => ?_)
      · show J V E _ _ 38 [(0, .ref (ob 0)), (1, .int i1), (2, .int i2), (5, .int v2)] [.long p5, .long w1] X
        refine J_lmul hE dd_X4_weight_38 ?_
        refine J_letl (fun y6 => ?_)
        refine J_lstore_n hE (L' := [(3, .long y6), (0, .ref (ob 0)), (1, .int i1), (2, .int i2), (5, .int v2)]) dd_X4_weight_39 (Nat.le_of_ble_eq_true rfl) rfl rfl ?_
        refine J_iincL hE (v := (v2 + (1 : Int32))) (Lf := fun x7 => [(5, .int x7), (3, .long y6), (0, .ref (ob 0)), (1, .int i1), (2, .int i2)]) dd_X4_weight_40 (j := 4) rfl (congrArg (v2 + ·) (by decide)) (Nat.le_of_ble_eq_true rfl) (fun _ => rfl) (fun x7 => ?_)
        refine J_goto hE (tgt := 5) dd_X4_weight_43 (by decide) ?_
        refine J_sub [2, 3, 4, 1, 0] rfl ?_
        exact ih y6 x7
      · refine J_icmp_ne hE (tgt := 33) dd_X4_weight_25 (by decide) (fun c4 => ?_) (fun c4 => ?_)
        · refine J_bipush hE (v := (10 : Int32)) dd_X4_weight_33 (by decide) ?_
          refine J_iload_n hE dd_X4_weight_35 1 rfl rfl ?_
          refine J_isub hE dd_X4_weight_36 ?_
          refine J_i2l hE dd_X4_weight_37 ?_
          refine J_sub [0, 1, 2, 4] rfl ?_
          exact hj3 (((10 : Int32) - i1).toInt64)
        · refine J_iload_n hE dd_X4_weight_28 1 rfl rfl ?_
          refine J_i2l hE dd_X4_weight_29 ?_
          refine J_goto hE (tgt := 38) dd_X4_weight_30 (by decide) ?_
          refine J_sub [0, 1, 2, 4] rfl ?_
          exact hj3 (i1.toInt64)
set_option maxHeartbeats 4000000 in
set_option maxRecDepth 100000 in
theorem tX4_weight (l : Launch) {V : JV M3} {ob : Nat → Nat} {aa : Nat → Nat → Nat} (hX : vX4 V ob aa) (X : M3) (i1 : Int32) (i2 : Int32) : JC l V yX4_weight cX4_weight 6 (some .long) jj_l 0 [.ref (ob 0), .int i1, .int i2] X ((fX4_weight i1 i2 X).map (fun r => (r, X))) := by
  refine jj_of (by decide) (Nat.le_of_ble_eq_true rfl) (fun E hlE hE => ?_)
  unfold fX4_weight
  refine J_sub (L' := [(0, .ref (ob 0)), (1, .int i1), (2, .int i2)]) [0, 1, 2] rfl ?_
  refine J_lconst hE (v := (1 : Int64)) dd_X4_weight_0 (by decide) ?_
  refine J_lstore_n hE (L' := [(3, .long (1 : Int64)), (0, .ref (ob 0)), (1, .int i1), (2, .int i2)]) dd_X4_weight_1 (Nat.le_of_ble_eq_true rfl) rfl rfl ?_
  refine J_iconst hE (v := (0 : Int32)) dd_X4_weight_2 (by decide) ?_
  refine J_istore hE (L' := [(5, .int (0 : Int32)), (3, .long (1 : Int64)), (0, .ref (ob 0)), (1, .int i1), (2, .int i2)]) dd_X4_weight_3 (Nat.le_of_ble_eq_true rfl) rfl ?_
  refine J_sub [2, 3, 4, 1, 0] rfl ?_
  refine tX4_weight_L5 hX X i1 i2 hE (fun p9 => ?_) 400 (1 : Int64) (0 : Int32)
  show J V E _ _ 46 [(3, .long p9)] [] X
  refine J_lload_n hE dd_X4_weight_46 0 rfl rfl ?_
  exact J_lret hE dd_X4_weight_47 rfl rfl
theorem dd_X4_partOfFraction_0 : jd cX4_partOfFraction 0 (.lconst 1) 1 1 := ⟨by decide +kernel, rfl⟩
theorem dd_X4_partOfFraction_1 : jd cX4_partOfFraction 1 (.lstore 4) 2 3 := ⟨by decide +kernel, rfl⟩
theorem dd_X4_partOfFraction_3 : jd cX4_partOfFraction 3 (.iconst 0) 1 4 := ⟨by decide +kernel, rfl⟩
theorem dd_X4_partOfFraction_4 : jd cX4_partOfFraction 4 (.istore 6) 2 6 := ⟨by decide +kernel, rfl⟩
theorem dd_X4_partOfFraction_6 : jd cX4_partOfFraction 6 (.iload 6) 2 8 := ⟨by decide +kernel, rfl⟩
theorem dd_X4_partOfFraction_8 : jd cX4_partOfFraction 8 (.aload_n 0) 1 9 := ⟨by decide +kernel, rfl⟩
theorem dd_X4_partOfFraction_9 : jd cX4_partOfFraction 9 (.getfield 19) 3 12 := ⟨by decide +kernel, rfl⟩
theorem dd_X4_partOfFraction_12 : jd cX4_partOfFraction 12 (.getfield 76) 3 15 := ⟨by decide +kernel, rfl⟩
theorem dd_X4_partOfFraction_18 : jd cX4_partOfFraction 18 (.lload 4) 2 20 := ⟨by decide +kernel, rfl⟩
theorem cl_RX4_264 : (Cond.constantLong "MothCustoms" 264 (10 : Int64) : Cond) ∈ jj_tb := jj_m (List.mem_of_getElem? (i := 677) (by decide +kernel)) rfl
theorem dd_X4_partOfFraction_20 : jd cX4_partOfFraction 20 (.ldc2_w 264) 3 23 := ⟨by decide +kernel, rfl⟩
theorem dd_X4_partOfFraction_23 : jd cX4_partOfFraction 23 (.lmul) 1 24 := ⟨by decide +kernel, rfl⟩
theorem dd_X4_partOfFraction_24 : jd cX4_partOfFraction 24 (.lstore 4) 2 26 := ⟨by decide +kernel, rfl⟩
theorem dd_X4_partOfFraction_26 : jd cX4_partOfFraction 26 (.iinc 6 1) 3 29 := ⟨by decide +kernel, rfl⟩
theorem dd_X4_partOfFraction_29 : jd cX4_partOfFraction 29 (.goto (-23)) 3 32 := ⟨by decide +kernel, rfl⟩
theorem dd_X4_partOfFraction_15 : jd cX4_partOfFraction 15 (.if_icmp .ge 17) 3 18 := ⟨by decide +kernel, rfl⟩
theorem dd_X4_partOfFraction_32 : jd cX4_partOfFraction 32 (.lload 4) 2 34 := ⟨by decide +kernel, rfl⟩
theorem dd_X4_partOfFraction_34 : jd cX4_partOfFraction 34 (.lload_n 1) 1 35 := ⟨by decide +kernel, rfl⟩
theorem ml_RX4_266 : (Cond.methodLink "MothCustoms" 266 yX4_commonDivisor : Cond) ∈ jj_tb := jj_m (List.mem_of_getElem? (i := 678) (by decide +kernel)) rfl
theorem dd_X4_partOfFraction_35 : jd cX4_partOfFraction 35 (.invokestatic 266) 3 38 := ⟨by decide +kernel, rfl⟩
theorem dd_X4_partOfFraction_38 : jd cX4_partOfFraction 38 (.lstore 6) 2 40 := ⟨by decide +kernel, rfl⟩
theorem dd_X4_partOfFraction_40 : jd cX4_partOfFraction 40 (.lload 6) 2 42 := ⟨by decide +kernel, rfl⟩
theorem dd_X4_partOfFraction_42 : jd cX4_partOfFraction 42 (.lconst 0) 1 43 := ⟨by decide +kernel, rfl⟩
theorem dd_X4_partOfFraction_43 : jd cX4_partOfFraction 43 (.lcmp) 1 44 := ⟨by decide +kernel, rfl⟩
theorem dd_X4_partOfFraction_51 : jd cX4_partOfFraction 51 (.iload_n 3) 1 52 := ⟨by decide +kernel, rfl⟩
theorem dd_X4_partOfFraction_62 : jd cX4_partOfFraction 62 (.lload 4) 2 64 := ⟨by decide +kernel, rfl⟩
theorem dd_X4_partOfFraction_64 : jd cX4_partOfFraction 64 (.lload 6) 2 66 := ⟨by decide +kernel, rfl⟩
theorem dd_X4_partOfFraction_66 : jd cX4_partOfFraction 66 (.ldiv) 1 67 := ⟨by decide +kernel, rfl⟩
theorem dd_X4_partOfFraction_67 : jd cX4_partOfFraction 67 (.lreturn) 1 68 := ⟨by decide +kernel, rfl⟩
theorem dd_X4_partOfFraction_55 : jd cX4_partOfFraction 55 (.lload_n 1) 1 56 := ⟨by decide +kernel, rfl⟩
theorem dd_X4_partOfFraction_56 : jd cX4_partOfFraction 56 (.lload 6) 2 58 := ⟨by decide +kernel, rfl⟩
theorem dd_X4_partOfFraction_58 : jd cX4_partOfFraction 58 (.ldiv) 1 59 := ⟨by decide +kernel, rfl⟩
theorem dd_X4_partOfFraction_59 : jd cX4_partOfFraction 59 (.goto 8) 3 62 := ⟨by decide +kernel, rfl⟩
theorem dd_X4_partOfFraction_52 : jd cX4_partOfFraction 52 (.ifCond .ne 10) 3 55 := ⟨by decide +kernel, rfl⟩
theorem cl_RX4_195 : (Cond.constantLong "MothCustoms" 195 (-1 : Int64) : Cond) ∈ jj_tb := jj_m (List.mem_of_getElem? (i := 668) (by decide +kernel)) rfl
theorem dd_X4_partOfFraction_47 : jd cX4_partOfFraction 47 (.ldc2_w 195) 3 50 := ⟨by decide +kernel, rfl⟩
theorem dd_X4_partOfFraction_50 : jd cX4_partOfFraction 50 (.lreturn) 1 51 := ⟨by decide +kernel, rfl⟩
theorem dd_X4_partOfFraction_44 : jd cX4_partOfFraction 44 (.ifCond .gt 7) 3 47 := ⟨by decide +kernel, rfl⟩
theorem m_X4_partOfFraction : jmV yX4_partOfFraction cX4_partOfFraction 8 (some .long) 2 := ⟨⟨(jj_m (w := Cond.code yX4_partOfFraction cX4_partOfFraction 8 (some .long)) (List.mem_of_getElem? (i := 676) (by decide +kernel)) rfl), (jj_m (w := Cond.initialized yX4_partOfFraction.cls) (List.mem_of_getElem? (i := 64) (by decide +kernel)) rfl), ⟨by decide, by decide⟩, by decide +kernel⟩, (jj_m (w := Cond.instanceMethod yX4_partOfFraction) (List.mem_of_getElem? (i := 675) (by decide +kernel)) rfl), (jj_m (w := Cond.selects yX4_partOfFraction.cls yX4_partOfFraction yX4_partOfFraction) (List.mem_of_getElem? (i := 13) (by decide +kernel)) rfl)⟩
def fX4_partOfFraction_L6 (X : M3) (l1 : Int64) (i3 : Int32) (k32 : Int64 → Option (Int64)) : Nat → Int64 → Int32 → Option (Int64)
  | 0, _, _ => none
  | n_ + 1, w1, v2 =>
    if ((X 2) 7 0) ≤ v2 then
      k32 w1
    else
      lt ((w1 * (10 : Int64))) fun y3 =>
      lt (v2 + (1 : Int32)) fun x4 =>
      fX4_partOfFraction_L6 X l1 i3 k32 n_ y3 x4

def fX4_partOfFraction (l1 : Int64) (i3 : Int32) (X : M3) : Option (Int64) :=
  fX4_partOfFraction_L6 X l1 i3
    (fun p6 =>
      (fX4_commonDivisor p6 l1).bind fun r7 =>
      if 0 < (lg_cmp r7 (0 : Int64)) then
        if i3 = 0 then
          if r7 = 0 then none else
          some (l1 / r7)
        else
          if r7 = 0 then none else
          some (p6 / r7)
      else
        some (-1 : Int64))
    400 (1 : Int64) (0 : Int32)

set_option maxHeartbeats 4000000 in
set_option maxRecDepth 100000 in
theorem tX4_partOfFraction_L6 {V : JV M3} {ob : Nat → Nat} {aa : Nat → Nat → Nat} (hX : vX4 V ob aa) (X : M3) (l1 : Int64) (i3 : Int32) {E : JE (M3) Int64} (hE : JOk V E cX4_partOfFraction yX4_partOfFraction.cls 8 1 (some .long) jj_l) {k32 : Int64 → Option (Int64)} (hk32 : ∀ p, J V E (fun r => (r, X)) (k32 p) 32 [(1, .long l1), (3, .int i3), (4, .long p)] [] X) : ∀ (n_ : Nat) (w1 : Int64) (v2 : Int32), J V E (fun r => (r, X)) (fX4_partOfFraction_L6 X l1 i3 k32 n_ w1 v2) 6 [(0, .ref (ob 0)), (1, .long l1), (3, .int i3), (4, .long w1), (6, .int v2)] [] X := by
  intro n_
  induction n_ with
  | zero =>
    intros
    exact J_none
  | succ n_ ih =>
    intros w1 v2
    rw [fX4_partOfFraction_L6]
    refine J_iload hE dd_X4_partOfFraction_6 4 rfl ?_
    refine J_aload_n hE dd_X4_partOfFraction_8 0 rfl rfl ?_
    refine J_get hE (hX.rt.ob _) jc_X4 1 (by decide) fl_RX4_19 (v := .ref (ob 2)) rfl dd_X4_partOfFraction_9 ?_
    refine J_get hE ((hX.sh sh2).ob _) jc_X1 7 (by decide) fl_RX4_76 (v := .int ((X 2) 7 0)) rfl dd_X4_partOfFraction_12 ?_
    refine J_icmp_ge hE (tgt := 32) dd_X4_partOfFraction_15 (by decide) (fun c5 => ?_) (fun c5 => ?_)
    · refine J_sub [1, 2, 3] rfl ?_
      exact hk32 w1
    · refine J_lload hE dd_X4_partOfFraction_18 3 rfl ?_
      refine J_ldc2 hE (v := (10 : Int64)) dd_X4_partOfFraction_20 cl_RX4_264 ?_
      refine J_lmul hE dd_X4_partOfFraction_23 ?_
      refine J_letl (fun y3 => ?_)
      refine J_lstore hE (L' := [(4, .long y3), (0, .ref (ob 0)), (1, .long l1), (3, .int i3), (6, .int v2)]) dd_X4_partOfFraction_24 (Nat.le_of_ble_eq_true rfl) rfl ?_
      refine J_iincL hE (v := (v2 + (1 : Int32))) (Lf := fun x4 => [(6, .int x4), (4, .long y3), (0, .ref (ob 0)), (1, .long l1), (3, .int i3)]) dd_X4_partOfFraction_26 (j := 4) rfl (congrArg (v2 + ·) (by decide)) (Nat.le_of_ble_eq_true rfl) (fun _ => rfl) (fun x4 => ?_)
      refine J_goto hE (tgt := 6) dd_X4_partOfFraction_29 (by decide) ?_
      refine J_sub [2, 3, 4, 1, 0] rfl ?_
      exact ih y3 x4
set_option maxHeartbeats 4000000 in
set_option maxRecDepth 100000 in
theorem tX4_partOfFraction (l : Launch) {V : JV M3} {ob : Nat → Nat} {aa : Nat → Nat → Nat} (hX : vX4 V ob aa) (X : M3) (l1 : Int64) (i3 : Int32) : JC l V yX4_partOfFraction cX4_partOfFraction 8 (some .long) jj_l 1 [.ref (ob 0), .long l1, .int i3] X ((fX4_partOfFraction l1 i3 X).map (fun r => (r, X))) := by
  refine jj_of (by decide) (Nat.le_of_ble_eq_true rfl) (fun E hlE hE => ?_)
  unfold fX4_partOfFraction
  refine J_sub (L' := [(0, .ref (ob 0)), (1, .long l1), (3, .int i3)]) [0, 1, 2] rfl ?_
  refine J_lconst hE (v := (1 : Int64)) dd_X4_partOfFraction_0 (by decide) ?_
  refine J_lstore hE (L' := [(4, .long (1 : Int64)), (0, .ref (ob 0)), (1, .long l1), (3, .int i3)]) dd_X4_partOfFraction_1 (Nat.le_of_ble_eq_true rfl) rfl ?_
  refine J_iconst hE (v := (0 : Int32)) dd_X4_partOfFraction_3 (by decide) ?_
  refine J_istore hE (L' := [(6, .int (0 : Int32)), (4, .long (1 : Int64)), (0, .ref (ob 0)), (1, .long l1), (3, .int i3)]) dd_X4_partOfFraction_4 (Nat.le_of_ble_eq_true rfl) rfl ?_
  refine J_sub [2, 3, 4, 1, 0] rfl ?_
  refine tX4_partOfFraction_L6 hX X l1 i3 hE (fun p6 => ?_) 400 (1 : Int64) (0 : Int32)
  show J V E _ _ 32 [(1, .long l1), (3, .int i3), (4, .long p6)] [] X
  refine J_lload hE dd_X4_partOfFraction_32 2 rfl ?_
  refine J_lload_n hE dd_X4_partOfFraction_34 0 rfl rfl ?_
  refine J_invSrl hE (As := [.long p6, .long l1]) (st := []) (tX4_commonDivisor E.2.1 V X p6 l1) m_X4_commonDivisor s_X4_commonDivisor rfl ml_RX4_266 (Nat.le_of_ble_eq_true rfl) (Nat.le_of_ble_eq_true rfl) rfl (Nat.le_of_ble_eq_true rfl) dd_X4_partOfFraction_35 (fun r7 => ?_)
  refine J_lstore hE (L' := [(6, .long r7), (1, .long l1), (3, .int i3), (4, .long p6)]) dd_X4_partOfFraction_38 (Nat.le_of_ble_eq_true rfl) rfl ?_
  refine J_lload hE dd_X4_partOfFraction_40 0 rfl ?_
  refine J_lconst hE (v := (0 : Int64)) dd_X4_partOfFraction_42 (by decide) ?_
  refine J_lcmp hE dd_X4_partOfFraction_43 ?_
  refine J_if_gt hE (tgt := 51) dd_X4_partOfFraction_44 (by decide) (fun c9 => ?_) (fun c9 => ?_)
  · refine J_iload_n hE dd_X4_partOfFraction_51 2 rfl rfl ?_
    refine J_if_ne hE (tgt := 62) dd_X4_partOfFraction_52 (by decide) (fun c8 => ?_) (fun c8 => ?_)
    · refine J_lload hE dd_X4_partOfFraction_62 3 rfl ?_
      refine J_lload hE dd_X4_partOfFraction_64 0 rfl ?_
      refine J_ldiv hE dd_X4_partOfFraction_66 (fun _ => ?_)
      exact J_lret hE dd_X4_partOfFraction_67 rfl rfl
    · refine J_lload_n hE dd_X4_partOfFraction_55 1 rfl rfl ?_
      refine J_lload hE dd_X4_partOfFraction_56 0 rfl ?_
      refine J_ldiv hE dd_X4_partOfFraction_58 (fun _ => ?_)
      refine J_goto hE (tgt := 67) dd_X4_partOfFraction_59 (by decide) ?_
      exact J_lret hE dd_X4_partOfFraction_67 rfl rfl
  · refine J_ldc2 hE (v := (-1 : Int64)) dd_X4_partOfFraction_47 cl_RX4_195 ?_
    exact J_lret hE dd_X4_partOfFraction_50 rfl rfl
theorem dd_X4_mean_0 : jd cX4_mean 0 (.iload_n 1) 1 1 := ⟨by decide +kernel, rfl⟩
theorem dd_X4_mean_1 : jd cX4_mean 1 (.iconst 0) 1 2 := ⟨by decide +kernel, rfl⟩
theorem dd_X4_mean_2 : jd cX4_mean 2 (.bipush 10) 2 4 := ⟨by decide +kernel, rfl⟩
theorem dd_X4_mean_4 : jd cX4_mean 4 (.invokestatic 44) 3 7 := ⟨by decide +kernel, rfl⟩
theorem dd_X4_mean_19 : jd cX4_mean 19 (.ldc2_w 195) 3 22 := ⟨by decide +kernel, rfl⟩
theorem dd_X4_mean_22 : jd cX4_mean 22 (.lreturn) 1 23 := ⟨by decide +kernel, rfl⟩
theorem dd_X4_mean_10 : jd cX4_mean 10 (.iload_n 2) 1 11 := ⟨by decide +kernel, rfl⟩
theorem dd_X4_mean_11 : jd cX4_mean 11 (.iconst 0) 1 12 := ⟨by decide +kernel, rfl⟩
theorem dd_X4_mean_12 : jd cX4_mean 12 (.iconst 1) 1 13 := ⟨by decide +kernel, rfl⟩
theorem dd_X4_mean_13 : jd cX4_mean 13 (.invokestatic 44) 3 16 := ⟨by decide +kernel, rfl⟩
theorem dd_X4_mean_23 : jd cX4_mean 23 (.lconst 0) 1 24 := ⟨by decide +kernel, rfl⟩
theorem dd_X4_mean_24 : jd cX4_mean 24 (.lstore_n 3) 1 25 := ⟨by decide +kernel, rfl⟩
theorem dd_X4_mean_25 : jd cX4_mean 25 (.iconst 0) 1 26 := ⟨by decide +kernel, rfl⟩
theorem dd_X4_mean_26 : jd cX4_mean 26 (.istore 5) 2 28 := ⟨by decide +kernel, rfl⟩
theorem dd_X4_mean_28 : jd cX4_mean 28 (.iload 5) 2 30 := ⟨by decide +kernel, rfl⟩
theorem dd_X4_mean_30 : jd cX4_mean 30 (.iconst 1) 1 31 := ⟨by decide +kernel, rfl⟩
theorem dd_X4_mean_31 : jd cX4_mean 31 (.aload_n 0) 1 32 := ⟨by decide +kernel, rfl⟩
theorem dd_X4_mean_32 : jd cX4_mean 32 (.getfield 19) 3 35 := ⟨by decide +kernel, rfl⟩
theorem dd_X4_mean_35 : jd cX4_mean 35 (.getfield 76) 3 38 := ⟨by decide +kernel, rfl⟩
theorem dd_X4_mean_38 : jd cX4_mean 38 (.ishl) 1 39 := ⟨by decide +kernel, rfl⟩
theorem dd_X4_mean_42 : jd cX4_mean 42 (.aload_n 0) 1 43 := ⟨by decide +kernel, rfl⟩
theorem dd_X4_mean_43 : jd cX4_mean 43 (.iload 5) 2 45 := ⟨by decide +kernel, rfl⟩
theorem dd_X4_mean_45 : jd cX4_mean 45 (.invokevirtual 173) 3 48 := ⟨by decide +kernel, rfl⟩
theorem dd_X4_mean_48 : jd cX4_mean 48 (.lload_n 3) 1 49 := ⟨by decide +kernel, rfl⟩
theorem dd_X4_mean_49 : jd cX4_mean 49 (.aload_n 0) 1 50 := ⟨by decide +kernel, rfl⟩
theorem dd_X4_mean_50 : jd cX4_mean 50 (.iload_n 1) 1 51 := ⟨by decide +kernel, rfl⟩
theorem dd_X4_mean_51 : jd cX4_mean 51 (.iload 5) 2 53 := ⟨by decide +kernel, rfl⟩
theorem ml_RX4_197 : (Cond.methodLink "MothCustoms" 197 yX4_weight : Cond) ∈ jj_tb := jj_m (List.mem_of_getElem? (i := 669) (by decide +kernel)) rfl
theorem dd_X4_mean_53 : jd cX4_mean 53 (.invokevirtual 197) 3 56 := ⟨by decide +kernel, rfl⟩
theorem dd_X4_mean_56 : jd cX4_mean 56 (.aload_n 0) 1 57 := ⟨by decide +kernel, rfl⟩
theorem dd_X4_mean_57 : jd cX4_mean 57 (.getfield 23) 3 60 := ⟨by decide +kernel, rfl⟩
theorem dd_X4_mean_60 : jd cX4_mean 60 (.invokevirtual 164) 3 63 := ⟨by decide +kernel, rfl⟩
theorem dd_X4_mean_63 : jd cX4_mean 63 (.i2l) 1 64 := ⟨by decide +kernel, rfl⟩
theorem dd_X4_mean_64 : jd cX4_mean 64 (.lmul) 1 65 := ⟨by decide +kernel, rfl⟩
theorem dd_X4_mean_65 : jd cX4_mean 65 (.ladd) 1 66 := ⟨by decide +kernel, rfl⟩
theorem dd_X4_mean_66 : jd cX4_mean 66 (.lstore_n 3) 1 67 := ⟨by decide +kernel, rfl⟩
theorem dd_X4_mean_67 : jd cX4_mean 67 (.iinc 5 1) 3 70 := ⟨by decide +kernel, rfl⟩
theorem dd_X4_mean_70 : jd cX4_mean 70 (.goto (-42)) 3 73 := ⟨by decide +kernel, rfl⟩
theorem dd_X4_mean_39 : jd cX4_mean 39 (.if_icmp .ge 34) 3 42 := ⟨by decide +kernel, rfl⟩
theorem dd_X4_mean_73 : jd cX4_mean 73 (.aload_n 0) 1 74 := ⟨by decide +kernel, rfl⟩
theorem dd_X4_mean_74 : jd cX4_mean 74 (.lload_n 3) 1 75 := ⟨by decide +kernel, rfl⟩
theorem dd_X4_mean_75 : jd cX4_mean 75 (.iload_n 2) 1 76 := ⟨by decide +kernel, rfl⟩
theorem ml_RX4_201 : (Cond.methodLink "MothCustoms" 201 yX4_partOfFraction : Cond) ∈ jj_tb := jj_m (List.mem_of_getElem? (i := 673) (by decide +kernel)) rfl
theorem dd_X4_mean_76 : jd cX4_mean 76 (.invokevirtual 201) 3 79 := ⟨by decide +kernel, rfl⟩
theorem dd_X4_mean_79 : jd cX4_mean 79 (.lreturn) 1 80 := ⟨by decide +kernel, rfl⟩
theorem dd_X4_mean_16 : jd cX4_mean 16 (.ifCond .ne 7) 3 19 := ⟨by decide +kernel, rfl⟩
theorem dd_X4_mean_7 : jd cX4_mean 7 (.ifCond .eq 12) 3 10 := ⟨by decide +kernel, rfl⟩
theorem m_X4_mean : jmV yX4_mean cX4_mean 6 (some .long) 2 := ⟨⟨(jj_m (w := Cond.code yX4_mean cX4_mean 6 (some .long)) (List.mem_of_getElem? (i := 667) (by decide +kernel)) rfl), (jj_m (w := Cond.initialized yX4_mean.cls) (List.mem_of_getElem? (i := 64) (by decide +kernel)) rfl), ⟨by decide, by decide⟩, by decide +kernel⟩, (jj_m (w := Cond.instanceMethod yX4_mean) (List.mem_of_getElem? (i := 665) (by decide +kernel)) rfl), (jj_m (w := Cond.selects yX4_mean.cls yX4_mean yX4_mean) (List.mem_of_getElem? (i := 666) (by decide +kernel)) rfl)⟩
def fX4_mean_L28 (i1 : Int32) (i2 : Int32) (k73 : (Int64 × M3) → Option (Int64 × M3)) : Nat → Int64 → Int32 → M3 → Option (Int64 × M3)
  | 0, _, _, _ => none
  | n_ + 1, w3, v4, X5 =>
    if ((1 : Int32) <<< (((X5 2) 7 0) &&& 31)) ≤ v4 then
      k73 (w3, X5)
    else
      (fX4_tryNight v4 X5).bind fun q6 =>
      lt (q6) fun X7 =>
      (fX4_weight i1 v4 X7).bind fun r8 =>
      (fX1_dutyOfAll  (X7 3)).bind fun r9 =>
      lt ((w3 + (r8 * (r9.toInt64)))) fun y10 =>
      lt (v4 + (1 : Int32)) fun x11 =>
      fX4_mean_L28 i1 i2 k73 n_ y10 x11 X7

def fX4_mean (i1 : Int32) (i2 : Int32) (X : M3) : Option (Int64 × M3) :=
  (fX4_within i1 (0 : Int32) (10 : Int32)).bind fun r1 =>
  if r1 = 0 then
    some ((-1 : Int64), X)
  else
    (fX4_within i2 (0 : Int32) (1 : Int32)).bind fun r2 =>
    if r2 = 0 then
      some ((-1 : Int64), X)
    else
      fX4_mean_L28 i1 i2
        (fun p13 =>
          (fX4_partOfFraction p13.1 i2 p13.2).bind fun r14 =>
          some (r14, p13.2))
        400 (0 : Int64) (0 : Int32) X

set_option maxHeartbeats 4000000 in
set_option maxRecDepth 100000 in
theorem tX4_mean_L28 {V : JV M3} {ob : Nat → Nat} {aa : Nat → Nat → Nat} (hX : vX4 V ob aa) (i1 : Int32) (i2 : Int32) {E : JE (M3) Int64} (hE : JOk V E cX4_mean yX4_mean.cls 6 5 (some .long) jj_l) {k73 : (Int64 × M3) → Option (Int64 × M3)} (hk73 : ∀ p, J V E (fun q => (q.1, q.2)) (k73 p) 73 [(0, .ref (ob 0)), (2, .int i2), (3, .long p.1)] [] p.2) : ∀ (n_ : Nat) (w3 : Int64) (v4 : Int32) (X5 : M3), J V E (fun q => (q.1, q.2)) (fX4_mean_L28 i1 i2 k73 n_ w3 v4 X5) 28 [(0, .ref (ob 0)), (1, .int i1), (2, .int i2), (3, .long w3), (5, .int v4)] [] X5 := by
  intro n_
  induction n_ with
  | zero =>
    intros
    exact J_none
  | succ n_ ih =>
    intros w3 v4 X5
    rw [fX4_mean_L28]
    refine J_iload hE dd_X4_mean_28 4 rfl ?_
    refine J_iconst hE (v := (1 : Int32)) dd_X4_mean_30 (by decide) ?_
    refine J_aload_n hE dd_X4_mean_31 0 rfl rfl ?_
    refine J_get hE (hX.rt.ob _) jc_X4 1 (by decide) fl_RX4_19 (v := .ref (ob 2)) rfl dd_X4_mean_32 ?_
    refine J_get hE ((hX.sh sh2).ob _) jc_X1 7 (by decide) fl_RX4_76 (v := .int ((X5 2) 7 0)) rfl dd_X4_mean_35 ?_
    refine J_ishl hE dd_X4_mean_38 ?_
    refine J_icmp_ge hE (tgt := 73) dd_X4_mean_39 (by decide) (fun c12 => ?_) (fun c12 => ?_)
    · refine J_sub [0, 2, 3] rfl ?_
      exact hk73 (w3, X5)
    · refine J_aload_n hE dd_X4_mean_42 0 rfl rfl ?_
      refine J_iload hE dd_X4_mean_43 4 rfl ?_
      refine J_invVwv hE (e := fun x => x) (As := [.int v4]) (st := []) (tX4_tryNight E.2.1 hX X5 v4) (hX.rt.ob _) m_X4_tryNight rfl ml_RX4_173 (Nat.le_of_ble_eq_true rfl) (Nat.le_of_ble_eq_true rfl) rfl (Nat.le_of_ble_eq_true rfl) dd_X4_mean_45 (fun q6 => ?_)
      refine J_letS (fun X7 => ?_)
      refine J_lload_n hE dd_X4_mean_48 3 rfl rfl ?_
      refine J_aload_n hE dd_X4_mean_49 0 rfl rfl ?_
      refine J_iload_n hE dd_X4_mean_50 1 rfl rfl ?_
      refine J_iload hE dd_X4_mean_51 4 rfl ?_
      refine J_invVrl hE (As := [.int i1, .int v4]) (st := [.long w3]) (tX4_weight E.2.1 hX X7 i1 v4) (hX.rt.ob _) m_X4_weight rfl ml_RX4_197 (Nat.le_of_ble_eq_true rfl) (Nat.le_of_ble_eq_true rfl) rfl (Nat.le_of_ble_eq_true rfl) dd_X4_mean_53 (fun r8 => ?_)
      refine J_aload_n hE dd_X4_mean_56 0 rfl rfl ?_
      refine J_get hE (hX.rt.ob _) jc_X4 2 (by decide) fl_RX4_23 (v := .ref (ob 3)) rfl dd_X4_mean_57 ?_
      refine J_invVri hE (As := []) (st := [.long r8, .long w3]) (JC.lift_r (e := fun S => va_up X7 3 S) (tX1_dutyOfAll E.2.1 (hX.shS X7 sh3) (X7 3) ) (va_up_eta _ _)) ((hX.sh sh3).ob _) m_X1_dutyOfAll rfl ml_RX4_164 (Nat.le_of_ble_eq_true rfl) (Nat.le_of_ble_eq_true rfl) rfl (Nat.le_of_ble_eq_true rfl) dd_X4_mean_60 (fun r9 => ?_)
      refine J_i2l hE dd_X4_mean_63 ?_
      refine J_lmul hE dd_X4_mean_64 ?_
      refine J_ladd hE dd_X4_mean_65 ?_
      refine J_letl (fun y10 => ?_)
      refine J_lstore_n hE (L' := [(3, .long y10), (0, .ref (ob 0)), (1, .int i1), (2, .int i2), (5, .int v4)]) dd_X4_mean_66 (Nat.le_of_ble_eq_true rfl) rfl rfl ?_
      refine J_iincL hE (v := (v4 + (1 : Int32))) (Lf := fun x11 => [(5, .int x11), (3, .long y10), (0, .ref (ob 0)), (1, .int i1), (2, .int i2)]) dd_X4_mean_67 (j := 4) rfl (congrArg (v4 + ·) (by decide)) (Nat.le_of_ble_eq_true rfl) (fun _ => rfl) (fun x11 => ?_)
      refine J_goto hE (tgt := 28) dd_X4_mean_70 (by decide) ?_
      refine J_sub [2, 3, 4, 1, 0] rfl ?_
      exact ih y10 x11 X7
set_option maxHeartbeats 4000000 in
set_option maxRecDepth 100000 in
theorem tX4_mean (l : Launch) {V : JV M3} {ob : Nat → Nat} {aa : Nat → Nat → Nat} (hX : vX4 V ob aa) (X : M3) (i1 : Int32) (i2 : Int32) : JC l V yX4_mean cX4_mean 6 (some .long) jj_l 5 [.ref (ob 0), .int i1, .int i2] X ((fX4_mean i1 i2 X).map (fun q => (q.1, q.2))) := by
  refine jj_of (by decide) (Nat.le_of_ble_eq_true rfl) (fun E hlE hE => ?_)
  unfold fX4_mean
  refine J_sub (L' := [(0, .ref (ob 0)), (1, .int i1), (2, .int i2)]) [0, 1, 2] rfl ?_
  refine J_iload_n hE dd_X4_mean_0 1 rfl rfl ?_
  refine J_iconst hE (v := (0 : Int32)) dd_X4_mean_1 (by decide) ?_
  refine J_bipush hE (v := (10 : Int32)) dd_X4_mean_2 (by decide) ?_
  refine J_invSri hE (As := [.int i1, .int (0 : Int32), .int (10 : Int32)]) (st := []) (tX4_within E.2.1 V X i1 (0 : Int32) (10 : Int32)) m_X4_within s_X4_within rfl ml_RX4_44 (Nat.le_of_ble_eq_true rfl) (Nat.le_of_ble_eq_true rfl) rfl (Nat.le_of_ble_eq_true rfl) dd_X4_mean_4 (fun r1 => ?_)
  refine J_if_eq hE (tgt := 19) dd_X4_mean_7 (by decide) (fun c16 => ?_) (fun c16 => ?_)
  · refine J_ldc2 hE (v := (-1 : Int64)) dd_X4_mean_19 cl_RX4_195 ?_
    exact J_lret hE dd_X4_mean_22 rfl rfl
  · refine J_iload_n hE dd_X4_mean_10 2 rfl rfl ?_
    refine J_iconst hE (v := (0 : Int32)) dd_X4_mean_11 (by decide) ?_
    refine J_iconst hE (v := (1 : Int32)) dd_X4_mean_12 (by decide) ?_
    refine J_invSri hE (As := [.int i2, .int (0 : Int32), .int (1 : Int32)]) (st := []) (tX4_within E.2.1 V X i2 (0 : Int32) (1 : Int32)) m_X4_within s_X4_within rfl ml_RX4_44 (Nat.le_of_ble_eq_true rfl) (Nat.le_of_ble_eq_true rfl) rfl (Nat.le_of_ble_eq_true rfl) dd_X4_mean_13 (fun r2 => ?_)
    refine J_if_ne hE (tgt := 23) dd_X4_mean_16 (by decide) (fun c15 => ?_) (fun c15 => ?_)
    · refine J_lconst hE (v := (0 : Int64)) dd_X4_mean_23 (by decide) ?_
      refine J_lstore_n hE (L' := [(3, .long (0 : Int64)), (0, .ref (ob 0)), (1, .int i1), (2, .int i2)]) dd_X4_mean_24 (Nat.le_of_ble_eq_true rfl) rfl rfl ?_
      refine J_iconst hE (v := (0 : Int32)) dd_X4_mean_25 (by decide) ?_
      refine J_istore hE (L' := [(5, .int (0 : Int32)), (3, .long (0 : Int64)), (0, .ref (ob 0)), (1, .int i1), (2, .int i2)]) dd_X4_mean_26 (Nat.le_of_ble_eq_true rfl) rfl ?_
      refine J_sub [2, 3, 4, 1, 0] rfl ?_
      refine tX4_mean_L28 hX i1 i2 hE (fun p13 => ?_) 400 (0 : Int64) (0 : Int32) X
      show J V E _ _ 73 [(0, .ref (ob 0)), (2, .int i2), (3, .long p13.1)] [] p13.2
      refine J_aload_n hE dd_X4_mean_73 0 rfl rfl ?_
      refine J_lload_n hE dd_X4_mean_74 2 rfl rfl ?_
      refine J_iload_n hE dd_X4_mean_75 1 rfl rfl ?_
      refine J_invVrl hE (As := [.long p13.1, .int i2]) (st := []) (tX4_partOfFraction E.2.1 hX p13.2 p13.1 i2) (hX.rt.ob _) m_X4_partOfFraction rfl ml_RX4_201 (Nat.le_of_ble_eq_true rfl) (Nat.le_of_ble_eq_true rfl) rfl (Nat.le_of_ble_eq_true rfl) dd_X4_mean_76 (fun r14 => ?_)
      exact J_lret hE dd_X4_mean_79 rfl rfl
    · refine J_ldc2 hE (v := (-1 : Int64)) dd_X4_mean_19 cl_RX4_195 ?_
      exact J_lret hE dd_X4_mean_22 rfl rfl
