theorem dd_X5_firstDraft_0 : jd cX5_firstDraft 0 (.iconst 0) 1 1 := ⟨by decide +kernel, rfl⟩
theorem dd_X5_firstDraft_1 : jd cX5_firstDraft 1 (.istore_n 1) 1 2 := ⟨by decide +kernel, rfl⟩
theorem dd_X5_firstDraft_2 : jd cX5_firstDraft 2 (.iload_n 1) 1 3 := ⟨by decide +kernel, rfl⟩
theorem dd_X5_firstDraft_3 : jd cX5_firstDraft 3 (.bipush 62) 2 5 := ⟨by decide +kernel, rfl⟩
theorem dd_X5_firstDraft_8 : jd cX5_firstDraft 8 (.aload_n 0) 1 9 := ⟨by decide +kernel, rfl⟩
theorem fl_RX5_20 : (Cond.fieldLink "MothCustomsModel" 20 "MothCustomsModel" "draft" "[I" : Cond) ∈ jj_tb := jj_m (List.mem_of_getElem? (i := 810) (by decide +kernel)) rfl
theorem dd_X5_firstDraft_9 : jd cX5_firstDraft 9 (.getfield 20) 3 12 := ⟨by decide +kernel, rfl⟩
theorem dd_X5_firstDraft_12 : jd cX5_firstDraft 12 (.iload_n 1) 1 13 := ⟨by decide +kernel, rfl⟩
theorem dd_X5_firstDraft_13 : jd cX5_firstDraft 13 (.iconst 0) 1 14 := ⟨by decide +kernel, rfl⟩
theorem dd_X5_firstDraft_14 : jd cX5_firstDraft 14 (.iastore) 1 15 := ⟨by decide +kernel, rfl⟩
theorem dd_X5_firstDraft_15 : jd cX5_firstDraft 15 (.iinc 1 1) 3 18 := ⟨by decide +kernel, rfl⟩
theorem dd_X5_firstDraft_18 : jd cX5_firstDraft 18 (.goto (-16)) 3 21 := ⟨by decide +kernel, rfl⟩
theorem dd_X5_firstDraft_5 : jd cX5_firstDraft 5 (.if_icmp .ge 16) 3 8 := ⟨by decide +kernel, rfl⟩
theorem dd_X5_firstDraft_21 : jd cX5_firstDraft 21 (.aload_n 0) 1 22 := ⟨by decide +kernel, rfl⟩
theorem dd_X5_firstDraft_22 : jd cX5_firstDraft 22 (.getfield 20) 3 25 := ⟨by decide +kernel, rfl⟩
theorem dd_X5_firstDraft_25 : jd cX5_firstDraft 25 (.bipush 47) 2 27 := ⟨by decide +kernel, rfl⟩
theorem dd_X5_firstDraft_27 : jd cX5_firstDraft 27 (.iconst 1) 1 28 := ⟨by decide +kernel, rfl⟩
theorem dd_X5_firstDraft_28 : jd cX5_firstDraft 28 (.iastore) 1 29 := ⟨by decide +kernel, rfl⟩
theorem dd_X5_firstDraft_29 : jd cX5_firstDraft 29 (.aload_n 0) 1 30 := ⟨by decide +kernel, rfl⟩
theorem dd_X5_firstDraft_30 : jd cX5_firstDraft 30 (.iconst 0) 1 31 := ⟨by decide +kernel, rfl⟩
theorem fl_RX5_47 : (Cond.fieldLink "MothCustomsModel" 47 "MothCustomsModel" "dBolts" "I" : Cond) ∈ jj_tb := jj_m (List.mem_of_getElem? (i := 811) (by decide +kernel)) rfl
theorem dd_X5_firstDraft_31 : jd cX5_firstDraft 31 (.putfield 47) 3 34 := ⟨by decide +kernel, rfl⟩
theorem dd_X5_firstDraft_34 : jd cX5_firstDraft 34 (.aload_n 0) 1 35 := ⟨by decide +kernel, rfl⟩
theorem dd_X5_firstDraft_35 : jd cX5_firstDraft 35 (.iconst 0) 1 36 := ⟨by decide +kernel, rfl⟩
theorem fl_RX5_51 : (Cond.fieldLink "MothCustomsModel" 51 "MothCustomsModel" "dMoths" "I" : Cond) ∈ jj_tb := jj_m (List.mem_of_getElem? (i := 812) (by decide +kernel)) rfl
theorem dd_X5_firstDraft_36 : jd cX5_firstDraft 36 (.putfield 51) 3 39 := ⟨by decide +kernel, rfl⟩
theorem dd_X5_firstDraft_39 : jd cX5_firstDraft 39 (.aload_n 0) 1 40 := ⟨by decide +kernel, rfl⟩
theorem dd_X5_firstDraft_40 : jd cX5_firstDraft 40 (.iconst 0) 1 41 := ⟨by decide +kernel, rfl⟩
theorem fl_RX5_54 : (Cond.fieldLink "MothCustomsModel" 54 "MothCustomsModel" "toldLines" "I" : Cond) ∈ jj_tb := jj_m (List.mem_of_getElem? (i := 813) (by decide +kernel)) rfl
theorem dd_X5_firstDraft_41 : jd cX5_firstDraft 41 (.putfield 54) 3 44 := ⟨by decide +kernel, rfl⟩
theorem dd_X5_firstDraft_44 : jd cX5_firstDraft 44 (.aload_n 0) 1 45 := ⟨by decide +kernel, rfl⟩
theorem dd_X5_firstDraft_45 : jd cX5_firstDraft 45 (.iconst 0) 1 46 := ⟨by decide +kernel, rfl⟩
theorem fl_RX5_57 : (Cond.fieldLink "MothCustomsModel" 57 "MothCustomsModel" "toldCamphor" "I" : Cond) ∈ jj_tb := jj_m (List.mem_of_getElem? (i := 814) (by decide +kernel)) rfl
theorem dd_X5_firstDraft_46 : jd cX5_firstDraft 46 (.putfield 57) 3 49 := ⟨by decide +kernel, rfl⟩
theorem dd_X5_firstDraft_49 : jd cX5_firstDraft 49 (.aload_n 0) 1 50 := ⟨by decide +kernel, rfl⟩
theorem dd_X5_firstDraft_50 : jd cX5_firstDraft 50 (.bipush (-4)) 2 52 := ⟨by decide +kernel, rfl⟩
theorem fl_RX5_60 : (Cond.fieldLink "MothCustomsModel" 60 "MothCustomsModel" "highest" "I" : Cond) ∈ jj_tb := jj_m (List.mem_of_getElem? (i := 815) (by decide +kernel)) rfl
theorem dd_X5_firstDraft_52 : jd cX5_firstDraft 52 (.putfield 60) 3 55 := ⟨by decide +kernel, rfl⟩
theorem dd_X5_firstDraft_55 : jd cX5_firstDraft 55 (.return_) 1 56 := ⟨by decide +kernel, rfl⟩
theorem m_X5_firstDraft : jmV yX5_firstDraft cX5_firstDraft 2 none 0 := ⟨⟨(jj_m (w := Cond.code yX5_firstDraft cX5_firstDraft 2 none) (List.mem_of_getElem? (i := 800) (by decide +kernel)) rfl), (jj_m (w := Cond.initialized yX5_firstDraft.cls) (List.mem_of_getElem? (i := 69) (by decide +kernel)) rfl), ⟨by decide, by decide⟩, by decide +kernel⟩, (jj_m (w := Cond.instanceMethod yX5_firstDraft) (List.mem_of_getElem? (i := 799) (by decide +kernel)) rfl), (jj_m (w := Cond.selects yX5_firstDraft.cls yX5_firstDraft yX5_firstDraft) (List.mem_of_getElem? (i := 14) (by decide +kernel)) rfl)⟩
def fX5_firstDraft_L2  (k21 : M2 → Option (M2)) : Nat → Int32 → M2 → Option (M2)
  | 0, _, _ => none
  | n_ + 1, v1, S2 =>
    if (62 : Int32) ≤ v1 then
      k21 S2
    else
      bnd v1 62 <|
      lt (va_up S2 5 (upd (S2 5) v1.toNatClampNeg (0 : Int32))) fun S3 =>
      lt (v1 + (1 : Int32)) fun x4 =>
      fX5_firstDraft_L2 k21 n_ x4 S3

def fX5_firstDraft  (S : M2) : Option (M2) :=
  fX5_firstDraft_L2 
    (fun p6 =>
      bnd (47 : Int32) 62 <|
      lt (va_up p6 5 (upd (p6 5) (47 : Int32).toNatClampNeg (1 : Int32))) fun S7 =>
      lt (va_up S7 6 (fun _ => (0 : Int32))) fun S8 =>
      lt (va_up S8 7 (fun _ => (0 : Int32))) fun S9 =>
      lt (va_up S9 8 (fun _ => (0 : Int32))) fun S10 =>
      lt (va_up S10 9 (fun _ => (0 : Int32))) fun S11 =>
      lt (va_up S11 10 (fun _ => (-4 : Int32))) fun S12 =>
      some S12)
    400 (0 : Int32) S

set_option maxHeartbeats 4000000 in
set_option maxRecDepth 100000 in
theorem tX5_firstDraft_L2 {V : JV M2} {b : Nat} {a : Nat → Nat} (hv : vX5 V b a)  {E : JE (M2) Unit} (hE : JOk V E cX5_firstDraft yX5_firstDraft.cls 2 0 none jj_v) {k21 : M2 → Option (M2)} (hk21 : ∀ p, J V E (fun q => ((), q)) (k21 p) 21 [(0, .ref b)] [] p) : ∀ (n_ : Nat) (v1 : Int32) (S2 : M2), J V E (fun q => ((), q)) (fX5_firstDraft_L2 k21 n_ v1 S2) 2 [(0, .ref b), (1, .int v1)] [] S2 := by
  intro n_
  induction n_ with
  | zero =>
    intros
    exact J_none
  | succ n_ ih =>
    intros v1 S2
    rw [fX5_firstDraft_L2]
    refine J_iload_n hE dd_X5_firstDraft_2 1 rfl rfl ?_
    refine J_bipush hE (v := (62 : Int32)) dd_X5_firstDraft_3 (by decide) ?_
    refine J_icmp_ge hE (tgt := 21) dd_X5_firstDraft_5 (by decide) (fun c5 => ?_) (fun c5 => ?_)
    · refine J_sub [0] rfl ?_
      exact hk21 S2
    · refine J_aload_n hE dd_X5_firstDraft_8 0 rfl rfl ?_
      refine J_get hE (hv.ob _) jc_X5 5 (by decide) fl_RX5_20 (v := .ref (a 5)) rfl dd_X5_firstDraft_9 ?_
      refine J_iload_n hE dd_X5_firstDraft_12 1 rfl rfl ?_
      refine J_iconst hE (v := (0 : Int32)) dd_X5_firstDraft_13 (by decide) ?_
      refine J_ast hE hv 5 (N := 62) (by decide) dd_X5_firstDraft_14 ?_
      refine J_letS (fun S3 => ?_)
      refine J_iincL hE (v := (v1 + (1 : Int32))) (Lf := fun x4 => [(1, .int x4), (0, .ref b)]) dd_X5_firstDraft_15 (j := 1) rfl (congrArg (v1 + ·) (by decide)) (Nat.le_of_ble_eq_true rfl) (fun _ => rfl) (fun x4 => ?_)
      refine J_goto hE (tgt := 2) dd_X5_firstDraft_18 (by decide) ?_
      refine J_sub [1, 0] rfl ?_
      exact ih x4 S3
set_option maxHeartbeats 4000000 in
set_option maxRecDepth 100000 in
theorem tX5_firstDraft (l : Launch) {V : JV M2} {b : Nat} {a : Nat → Nat} (hv : vX5 V b a) (S : M2)  : JC l V yX5_firstDraft cX5_firstDraft 2 none jj_v 0 [.ref b] S ((fX5_firstDraft  S).map (fun q => ((), q))) := by
  refine jj_of (by decide) (Nat.le_of_ble_eq_true rfl) (fun E hlE hE => ?_)
  unfold fX5_firstDraft
  refine J_sub (L' := [(0, .ref b)]) [0] rfl ?_
  refine J_iconst hE (v := (0 : Int32)) dd_X5_firstDraft_0 (by decide) ?_
  refine J_istore_n hE (L' := [(1, .int (0 : Int32)), (0, .ref b)]) dd_X5_firstDraft_1 (Nat.le_of_ble_eq_true rfl) rfl rfl ?_
  refine J_sub [1, 0] rfl ?_
  refine tX5_firstDraft_L2 hv  hE (fun p6 => ?_) 400 (0 : Int32) S
  show J V E _ _ 21 [(0, .ref b)] [] p6
  refine J_aload_n hE dd_X5_firstDraft_21 0 rfl rfl ?_
  refine J_get hE (hv.ob _) jc_X5 5 (by decide) fl_RX5_20 (v := .ref (a 5)) rfl dd_X5_firstDraft_22 ?_
  refine J_bipush hE (v := (47 : Int32)) dd_X5_firstDraft_25 (by decide) ?_
  refine J_iconst hE (v := (1 : Int32)) dd_X5_firstDraft_27 (by decide) ?_
  refine J_ast hE hv 5 (N := 62) (by decide) dd_X5_firstDraft_28 ?_
  refine J_letS (fun S7 => ?_)
  refine J_aload_n hE dd_X5_firstDraft_29 0 rfl rfl ?_
  refine J_iconst hE (v := (0 : Int32)) dd_X5_firstDraft_30 (by decide) ?_
  refine J_put hE hv jc_X5 6 (by decide) (by decide) fl_RX5_47 rfl rfl rfl (Nat.le_of_ble_eq_true rfl) dd_X5_firstDraft_31 ?_
  refine J_letS (fun S8 => ?_)
  refine J_aload_n hE dd_X5_firstDraft_34 0 rfl rfl ?_
  refine J_iconst hE (v := (0 : Int32)) dd_X5_firstDraft_35 (by decide) ?_
  refine J_put hE hv jc_X5 7 (by decide) (by decide) fl_RX5_51 rfl rfl rfl (Nat.le_of_ble_eq_true rfl) dd_X5_firstDraft_36 ?_
  refine J_letS (fun S9 => ?_)
  refine J_aload_n hE dd_X5_firstDraft_39 0 rfl rfl ?_
  refine J_iconst hE (v := (0 : Int32)) dd_X5_firstDraft_40 (by decide) ?_
  refine J_put hE hv jc_X5 8 (by decide) (by decide) fl_RX5_54 rfl rfl rfl (Nat.le_of_ble_eq_true rfl) dd_X5_firstDraft_41 ?_
  refine J_letS (fun S10 => ?_)
  refine J_aload_n hE dd_X5_firstDraft_44 0 rfl rfl ?_
  refine J_iconst hE (v := (0 : Int32)) dd_X5_firstDraft_45 (by decide) ?_
  refine J_put hE hv jc_X5 9 (by decide) (by decide) fl_RX5_57 rfl rfl rfl (Nat.le_of_ble_eq_true rfl) dd_X5_firstDraft_46 ?_
  refine J_letS (fun S11 => ?_)
  refine J_aload_n hE dd_X5_firstDraft_49 0 rfl rfl ?_
  refine J_bipush hE (v := (-4 : Int32)) dd_X5_firstDraft_50 (by decide) ?_
  refine J_put hE hv jc_X5 10 (by decide) (by decide) fl_RX5_60 rfl rfl rfl (Nat.le_of_ble_eq_true rfl) dd_X5_firstDraft_52 ?_
  refine J_letS (fun S12 => ?_)
  exact J_vret hE dd_X5_firstDraft_55 rfl rfl
theorem dd_X5_keepDraft_0 : jd cX5_keepDraft 0 (.iconst 0) 1 1 := ⟨by decide +kernel, rfl⟩
theorem dd_X5_keepDraft_1 : jd cX5_keepDraft 1 (.istore_n 1) 1 2 := ⟨by decide +kernel, rfl⟩
theorem dd_X5_keepDraft_2 : jd cX5_keepDraft 2 (.iload_n 1) 1 3 := ⟨by decide +kernel, rfl⟩
theorem dd_X5_keepDraft_3 : jd cX5_keepDraft 3 (.bipush 62) 2 5 := ⟨by decide +kernel, rfl⟩
theorem dd_X5_keepDraft_8 : jd cX5_keepDraft 8 (.aload_n 0) 1 9 := ⟨by decide +kernel, rfl⟩
theorem fl_RX5_7 : (Cond.fieldLink "MothCustomsModel" 7 "MothCustomsModel" "st" "[I" : Cond) ∈ jj_tb := jj_m (List.mem_of_getElem? (i := 805) (by decide +kernel)) rfl
theorem dd_X5_keepDraft_9 : jd cX5_keepDraft 9 (.getfield 7) 3 12 := ⟨by decide +kernel, rfl⟩
theorem dd_X5_keepDraft_12 : jd cX5_keepDraft 12 (.iload_n 1) 1 13 := ⟨by decide +kernel, rfl⟩
theorem dd_X5_keepDraft_13 : jd cX5_keepDraft 13 (.aload_n 0) 1 14 := ⟨by decide +kernel, rfl⟩
theorem dd_X5_keepDraft_14 : jd cX5_keepDraft 14 (.getfield 20) 3 17 := ⟨by decide +kernel, rfl⟩
theorem dd_X5_keepDraft_17 : jd cX5_keepDraft 17 (.iload_n 1) 1 18 := ⟨by decide +kernel, rfl⟩
theorem dd_X5_keepDraft_18 : jd cX5_keepDraft 18 (.iaload) 1 19 := ⟨by decide +kernel, rfl⟩
theorem dd_X5_keepDraft_19 : jd cX5_keepDraft 19 (.iastore) 1 20 := ⟨by decide +kernel, rfl⟩
theorem dd_X5_keepDraft_20 : jd cX5_keepDraft 20 (.iinc 1 1) 3 23 := ⟨by decide +kernel, rfl⟩
theorem dd_X5_keepDraft_23 : jd cX5_keepDraft 23 (.goto (-21)) 3 26 := ⟨by decide +kernel, rfl⟩
theorem dd_X5_keepDraft_5 : jd cX5_keepDraft 5 (.if_icmp .ge 21) 3 8 := ⟨by decide +kernel, rfl⟩
theorem dd_X5_keepDraft_26 : jd cX5_keepDraft 26 (.aload_n 0) 1 27 := ⟨by decide +kernel, rfl⟩
theorem dd_X5_keepDraft_27 : jd cX5_keepDraft 27 (.aload_n 0) 1 28 := ⟨by decide +kernel, rfl⟩
theorem dd_X5_keepDraft_28 : jd cX5_keepDraft 28 (.getfield 47) 3 31 := ⟨by decide +kernel, rfl⟩
theorem fl_RX5_63 : (Cond.fieldLink "MothCustomsModel" 63 "MothCustomsModel" "bolts" "I" : Cond) ∈ jj_tb := jj_m (List.mem_of_getElem? (i := 808) (by decide +kernel)) rfl
theorem dd_X5_keepDraft_31 : jd cX5_keepDraft 31 (.putfield 63) 3 34 := ⟨by decide +kernel, rfl⟩
theorem dd_X5_keepDraft_34 : jd cX5_keepDraft 34 (.aload_n 0) 1 35 := ⟨by decide +kernel, rfl⟩
theorem dd_X5_keepDraft_35 : jd cX5_keepDraft 35 (.aload_n 0) 1 36 := ⟨by decide +kernel, rfl⟩
theorem dd_X5_keepDraft_36 : jd cX5_keepDraft 36 (.getfield 51) 3 39 := ⟨by decide +kernel, rfl⟩
theorem fl_RX5_66 : (Cond.fieldLink "MothCustomsModel" 66 "MothCustomsModel" "moths" "I" : Cond) ∈ jj_tb := jj_m (List.mem_of_getElem? (i := 809) (by decide +kernel)) rfl
theorem dd_X5_keepDraft_39 : jd cX5_keepDraft 39 (.putfield 66) 3 42 := ⟨by decide +kernel, rfl⟩
theorem dd_X5_keepDraft_42 : jd cX5_keepDraft 42 (.iconst 0) 1 43 := ⟨by decide +kernel, rfl⟩
theorem dd_X5_keepDraft_43 : jd cX5_keepDraft 43 (.istore_n 1) 1 44 := ⟨by decide +kernel, rfl⟩
theorem dd_X5_keepDraft_44 : jd cX5_keepDraft 44 (.iload_n 1) 1 45 := ⟨by decide +kernel, rfl⟩
theorem dd_X5_keepDraft_45 : jd cX5_keepDraft 45 (.aload_n 0) 1 46 := ⟨by decide +kernel, rfl⟩
theorem dd_X5_keepDraft_46 : jd cX5_keepDraft 46 (.getfield 63) 3 49 := ⟨by decide +kernel, rfl⟩
theorem dd_X5_keepDraft_52 : jd cX5_keepDraft 52 (.aload_n 0) 1 53 := ⟨by decide +kernel, rfl⟩
theorem dd_X5_keepDraft_53 : jd cX5_keepDraft 53 (.getfield 7) 3 56 := ⟨by decide +kernel, rfl⟩
theorem dd_X5_keepDraft_56 : jd cX5_keepDraft 56 (.bipush 6) 2 58 := ⟨by decide +kernel, rfl⟩
theorem dd_X5_keepDraft_58 : jd cX5_keepDraft 58 (.iload_n 1) 1 59 := ⟨by decide +kernel, rfl⟩
theorem dd_X5_keepDraft_59 : jd cX5_keepDraft 59 (.imul) 1 60 := ⟨by decide +kernel, rfl⟩
theorem dd_X5_keepDraft_60 : jd cX5_keepDraft 60 (.iconst 3) 1 61 := ⟨by decide +kernel, rfl⟩
theorem dd_X5_keepDraft_61 : jd cX5_keepDraft 61 (.iadd) 1 62 := ⟨by decide +kernel, rfl⟩
theorem dd_X5_keepDraft_62 : jd cX5_keepDraft 62 (.aload_n 0) 1 63 := ⟨by decide +kernel, rfl⟩
theorem dd_X5_keepDraft_63 : jd cX5_keepDraft 63 (.getfield 57) 3 66 := ⟨by decide +kernel, rfl⟩
theorem dd_X5_keepDraft_66 : jd cX5_keepDraft 66 (.iload_n 1) 1 67 := ⟨by decide +kernel, rfl⟩
theorem dd_X5_keepDraft_67 : jd cX5_keepDraft 67 (.ishr) 1 68 := ⟨by decide +kernel, rfl⟩
theorem dd_X5_keepDraft_68 : jd cX5_keepDraft 68 (.iconst 1) 1 69 := ⟨by decide +kernel, rfl⟩
theorem dd_X5_keepDraft_69 : jd cX5_keepDraft 69 (.iand) 1 70 := ⟨by decide +kernel, rfl⟩
theorem dd_X5_keepDraft_70 : jd cX5_keepDraft 70 (.iastore) 1 71 := ⟨by decide +kernel, rfl⟩
theorem dd_X5_keepDraft_71 : jd cX5_keepDraft 71 (.iinc 1 1) 3 74 := ⟨by decide +kernel, rfl⟩
theorem dd_X5_keepDraft_74 : jd cX5_keepDraft 74 (.goto (-30)) 3 77 := ⟨by decide +kernel, rfl⟩
theorem dd_X5_keepDraft_49 : jd cX5_keepDraft 49 (.if_icmp .ge 28) 3 52 := ⟨by decide +kernel, rfl⟩
theorem dd_X5_keepDraft_77 : jd cX5_keepDraft 77 (.aload_n 0) 1 78 := ⟨by decide +kernel, rfl⟩
theorem fl_RX5_16 : (Cond.fieldLink "MothCustomsModel" 16 "MothCustomsModel" "isKept" "[Z" : Cond) ∈ jj_tb := jj_m (List.mem_of_getElem? (i := 807) (by decide +kernel)) rfl
theorem dd_X5_keepDraft_78 : jd cX5_keepDraft 78 (.getfield 16) 3 81 := ⟨by decide +kernel, rfl⟩
theorem dd_X5_keepDraft_81 : jd cX5_keepDraft 81 (.iconst 0) 1 82 := ⟨by decide +kernel, rfl⟩
theorem dd_X5_keepDraft_82 : jd cX5_keepDraft 82 (.iconst 0) 1 83 := ⟨by decide +kernel, rfl⟩
theorem dd_X5_keepDraft_83 : jd cX5_keepDraft 83 (.bastore) 1 84 := ⟨by decide +kernel, rfl⟩
theorem dd_X5_keepDraft_84 : jd cX5_keepDraft 84 (.aload_n 0) 1 85 := ⟨by decide +kernel, rfl⟩
theorem dd_X5_keepDraft_85 : jd cX5_keepDraft 85 (.getfield 16) 3 88 := ⟨by decide +kernel, rfl⟩
theorem dd_X5_keepDraft_88 : jd cX5_keepDraft 88 (.iconst 1) 1 89 := ⟨by decide +kernel, rfl⟩
theorem dd_X5_keepDraft_89 : jd cX5_keepDraft 89 (.iconst 0) 1 90 := ⟨by decide +kernel, rfl⟩
theorem dd_X5_keepDraft_90 : jd cX5_keepDraft 90 (.bastore) 1 91 := ⟨by decide +kernel, rfl⟩
theorem dd_X5_keepDraft_91 : jd cX5_keepDraft 91 (.return_) 1 92 := ⟨by decide +kernel, rfl⟩
theorem m_X5_keepDraft : jmV yX5_keepDraft cX5_keepDraft 2 none 0 := ⟨⟨(jj_m (w := Cond.code yX5_keepDraft cX5_keepDraft 2 none) (List.mem_of_getElem? (i := 804) (by decide +kernel)) rfl), (jj_m (w := Cond.initialized yX5_keepDraft.cls) (List.mem_of_getElem? (i := 69) (by decide +kernel)) rfl), ⟨by decide, by decide⟩, by decide +kernel⟩, (jj_m (w := Cond.instanceMethod yX5_keepDraft) (List.mem_of_getElem? (i := 803) (by decide +kernel)) rfl), (jj_m (w := Cond.selects yX5_keepDraft.cls yX5_keepDraft yX5_keepDraft) (List.mem_of_getElem? (i := 15) (by decide +kernel)) rfl)⟩
def fX5_keepDraft_L2  (k26 : M2 → Option (M2)) : Nat → Int32 → M2 → Option (M2)
  | 0, _, _ => none
  | n_ + 1, v1, S2 =>
    if (62 : Int32) ≤ v1 then
      k26 S2
    else
      bnd v1 62 <|
      bnd v1 186 <|
      lt (va_up S2 0 (upd (S2 0) v1.toNatClampNeg (S2 5 v1.toNatClampNeg))) fun S3 =>
      lt (v1 + (1 : Int32)) fun x4 =>
      fX5_keepDraft_L2 k26 n_ x4 S3

def fX5_keepDraft_L44  (k77 : M2 → Option (M2)) : Nat → Int32 → M2 → Option (M2)
  | 0, _, _ => none
  | n_ + 1, v9, S10 =>
    if (S10 3 0) ≤ v9 then
      k77 S10
    else
      bnd (((6 : Int32) * v9) + (3 : Int32)) 186 <|
      lt (va_up S10 0 (upd (S10 0) (((6 : Int32) * v9) + (3 : Int32)).toNatClampNeg (((S10 9 0) >>> (v9 &&& 31)) &&& (1 : Int32)))) fun S11 =>
      lt (v9 + (1 : Int32)) fun x12 =>
      fX5_keepDraft_L44 k77 n_ x12 S11

def fX5_keepDraft  (S : M2) : Option (M2) :=
  fX5_keepDraft_L2 
    (fun p6 =>
      lt (va_up p6 3 (fun _ => (p6 6 0))) fun S7 =>
      lt (va_up S7 4 (fun _ => (S7 7 0))) fun S8 =>
      fX5_keepDraft_L44 
        (fun p14 =>
          bnd (0 : Int32) 2 <|
          lt (va_up p14 2 (upd (p14 2) (0 : Int32).toNatClampNeg (0 : Int32))) fun S15 =>
          bnd (1 : Int32) 2 <|
          lt (va_up S15 2 (upd (S15 2) (1 : Int32).toNatClampNeg (0 : Int32))) fun S16 =>
          some S16)
        400 (0 : Int32) S8)
    400 (0 : Int32) S

set_option maxHeartbeats 4000000 in
set_option maxRecDepth 100000 in
theorem tX5_keepDraft_L2 {V : JV M2} {b : Nat} {a : Nat → Nat} (hv : vX5 V b a)  {E : JE (M2) Unit} (hE : JOk V E cX5_keepDraft yX5_keepDraft.cls 2 0 none jj_v) {k26 : M2 → Option (M2)} (hk26 : ∀ p, J V E (fun q => ((), q)) (k26 p) 26 [(0, .ref b)] [] p) : ∀ (n_ : Nat) (v1 : Int32) (S2 : M2), J V E (fun q => ((), q)) (fX5_keepDraft_L2 k26 n_ v1 S2) 2 [(0, .ref b), (1, .int v1)] [] S2 := by
  intro n_
  induction n_ with
  | zero =>
    intros
    exact J_none
  | succ n_ ih =>
    intros v1 S2
    rw [fX5_keepDraft_L2]
    refine J_iload_n hE dd_X5_keepDraft_2 1 rfl rfl ?_
    refine J_bipush hE (v := (62 : Int32)) dd_X5_keepDraft_3 (by decide) ?_
    refine J_icmp_ge hE (tgt := 26) dd_X5_keepDraft_5 (by decide) (fun c5 => ?_) (fun c5 => ?_)
    · refine J_sub [0] rfl ?_
      exact hk26 S2
    · refine J_aload_n hE dd_X5_keepDraft_8 0 rfl rfl ?_
      refine J_get hE (hv.ob _) jc_X5 0 (by decide) fl_RX5_7 (v := .ref (a 0)) rfl dd_X5_keepDraft_9 ?_
      refine J_iload_n hE dd_X5_keepDraft_12 1 rfl rfl ?_
      refine J_aload_n hE dd_X5_keepDraft_13 0 rfl rfl ?_
      refine J_get hE (hv.ob _) jc_X5 5 (by decide) fl_RX5_20 (v := .ref (a 5)) rfl dd_X5_keepDraft_14 ?_
      refine J_iload_n hE dd_X5_keepDraft_17 1 rfl rfl ?_
      refine J_ald hE (hv.arr 5 (n := 62) (ty := .int) (by decide) _) dd_X5_keepDraft_18 ?_
      refine J_ast hE hv 0 (N := 186) (by decide) dd_X5_keepDraft_19 ?_
      refine J_letS (fun S3 => ?_)
      refine J_iincL hE (v := (v1 + (1 : Int32))) (Lf := fun x4 => [(1, .int x4), (0, .ref b)]) dd_X5_keepDraft_20 (j := 1) rfl (congrArg (v1 + ·) (by decide)) (Nat.le_of_ble_eq_true rfl) (fun _ => rfl) (fun x4 => ?_)
      refine J_goto hE (tgt := 2) dd_X5_keepDraft_23 (by decide) ?_
      refine J_sub [1, 0] rfl ?_
      exact ih x4 S3
set_option maxHeartbeats 4000000 in
set_option maxRecDepth 100000 in
theorem tX5_keepDraft_L44 {V : JV M2} {b : Nat} {a : Nat → Nat} (hv : vX5 V b a)  {E : JE (M2) Unit} (hE : JOk V E cX5_keepDraft yX5_keepDraft.cls 2 0 none jj_v) {k77 : M2 → Option (M2)} (hk77 : ∀ p, J V E (fun q => ((), q)) (k77 p) 77 [(0, .ref b)] [] p) : ∀ (n_ : Nat) (v9 : Int32) (S10 : M2), J V E (fun q => ((), q)) (fX5_keepDraft_L44 k77 n_ v9 S10) 44 [(0, .ref b), (1, .int v9)] [] S10 := by
  intro n_
  induction n_ with
  | zero =>
    intros
    exact J_none
  | succ n_ ih =>
    intros v9 S10
    rw [fX5_keepDraft_L44]
    refine J_iload_n hE dd_X5_keepDraft_44 1 rfl rfl ?_
    refine J_aload_n hE dd_X5_keepDraft_45 0 rfl rfl ?_
    refine J_get hE (hv.ob _) jc_X5 3 (by decide) fl_RX5_63 (v := .int (S10 3 0)) rfl dd_X5_keepDraft_46 ?_
    refine J_icmp_ge hE (tgt := 77) dd_X5_keepDraft_49 (by decide) (fun c13 => ?_) (fun c13 => ?_)
    · refine J_sub [0] rfl ?_
      exact hk77 S10
    · refine J_aload_n hE dd_X5_keepDraft_52 0 rfl rfl ?_
      refine J_get hE (hv.ob _) jc_X5 0 (by decide) fl_RX5_7 (v := .ref (a 0)) rfl dd_X5_keepDraft_53 ?_
      refine J_bipush hE (v := (6 : Int32)) dd_X5_keepDraft_56 (by decide) ?_
      refine J_iload_n hE dd_X5_keepDraft_58 1 rfl rfl ?_
      refine J_imul hE dd_X5_keepDraft_59 ?_
      refine J_iconst hE (v := (3 : Int32)) dd_X5_keepDraft_60 (by decide) ?_
      refine J_iadd hE dd_X5_keepDraft_61 ?_
      refine J_aload_n hE dd_X5_keepDraft_62 0 rfl rfl ?_
      refine J_get hE (hv.ob _) jc_X5 9 (by decide) fl_RX5_57 (v := .int (S10 9 0)) rfl dd_X5_keepDraft_63 ?_
      refine J_iload_n hE dd_X5_keepDraft_66 1 rfl rfl ?_
      refine J_ishr hE dd_X5_keepDraft_67 ?_
      refine J_iconst hE (v := (1 : Int32)) dd_X5_keepDraft_68 (by decide) ?_
      refine J_iand hE dd_X5_keepDraft_69 ?_
      refine J_ast hE hv 0 (N := 186) (by decide) dd_X5_keepDraft_70 ?_
      refine J_letS (fun S11 => ?_)
      refine J_iincL hE (v := (v9 + (1 : Int32))) (Lf := fun x12 => [(1, .int x12), (0, .ref b)]) dd_X5_keepDraft_71 (j := 1) rfl (congrArg (v9 + ·) (by decide)) (Nat.le_of_ble_eq_true rfl) (fun _ => rfl) (fun x12 => ?_)
      refine J_goto hE (tgt := 44) dd_X5_keepDraft_74 (by decide) ?_
      refine J_sub [1, 0] rfl ?_
      exact ih x12 S11
set_option maxHeartbeats 4000000 in
set_option maxRecDepth 100000 in
theorem tX5_keepDraft (l : Launch) {V : JV M2} {b : Nat} {a : Nat → Nat} (hv : vX5 V b a) (S : M2)  : JC l V yX5_keepDraft cX5_keepDraft 2 none jj_v 0 [.ref b] S ((fX5_keepDraft  S).map (fun q => ((), q))) := by
  refine jj_of (by decide) (Nat.le_of_ble_eq_true rfl) (fun E hlE hE => ?_)
  unfold fX5_keepDraft
  refine J_sub (L' := [(0, .ref b)]) [0] rfl ?_
  refine J_iconst hE (v := (0 : Int32)) dd_X5_keepDraft_0 (by decide) ?_
  refine J_istore_n hE (L' := [(1, .int (0 : Int32)), (0, .ref b)]) dd_X5_keepDraft_1 (Nat.le_of_ble_eq_true rfl) rfl rfl ?_
  refine J_sub [1, 0] rfl ?_
  refine tX5_keepDraft_L2 hv  hE (fun p6 => ?_) 400 (0 : Int32) S
  show J V E _ _ 26 [(0, .ref b)] [] p6
  refine J_aload_n hE dd_X5_keepDraft_26 0 rfl rfl ?_
  refine J_aload_n hE dd_X5_keepDraft_27 0 rfl rfl ?_
  refine J_get hE (hv.ob _) jc_X5 6 (by decide) fl_RX5_47 (v := .int (p6 6 0)) rfl dd_X5_keepDraft_28 ?_
  refine J_put hE hv jc_X5 3 (by decide) (by decide) fl_RX5_63 rfl rfl rfl (Nat.le_of_ble_eq_true rfl) dd_X5_keepDraft_31 ?_
  refine J_letS (fun S7 => ?_)
  refine J_aload_n hE dd_X5_keepDraft_34 0 rfl rfl ?_
  refine J_aload_n hE dd_X5_keepDraft_35 0 rfl rfl ?_
  refine J_get hE (hv.ob _) jc_X5 7 (by decide) fl_RX5_51 (v := .int (S7 7 0)) rfl dd_X5_keepDraft_36 ?_
  refine J_put hE hv jc_X5 4 (by decide) (by decide) fl_RX5_66 rfl rfl rfl (Nat.le_of_ble_eq_true rfl) dd_X5_keepDraft_39 ?_
  refine J_letS (fun S8 => ?_)
  refine J_iconst hE (v := (0 : Int32)) dd_X5_keepDraft_42 (by decide) ?_
  refine J_istore_n hE (L' := [(1, .int (0 : Int32)), (0, .ref b)]) dd_X5_keepDraft_43 (Nat.le_of_ble_eq_true rfl) rfl rfl ?_
  refine J_sub [1, 0] rfl ?_
  refine tX5_keepDraft_L44 hv  hE (fun p14 => ?_) 400 (0 : Int32) S8
  show J V E _ _ 77 [(0, .ref b)] [] p14
  refine J_aload_n hE dd_X5_keepDraft_77 0 rfl rfl ?_
  refine J_get hE (hv.ob _) jc_X5 2 (by decide) fl_RX5_16 (v := .ref (a 2)) rfl dd_X5_keepDraft_78 ?_
  refine J_iconst hE (v := (0 : Int32)) dd_X5_keepDraft_81 (by decide) ?_
  refine J_iconst hE (v := (0 : Int32)) dd_X5_keepDraft_82 (by decide) ?_
  refine J_zast hE hv 2 (N := 2) (by decide) rfl dd_X5_keepDraft_83 ?_
  refine J_letS (fun S15 => ?_)
  refine J_aload_n hE dd_X5_keepDraft_84 0 rfl rfl ?_
  refine J_get hE (hv.ob _) jc_X5 2 (by decide) fl_RX5_16 (v := .ref (a 2)) rfl dd_X5_keepDraft_85 ?_
  refine J_iconst hE (v := (1 : Int32)) dd_X5_keepDraft_88 (by decide) ?_
  refine J_iconst hE (v := (0 : Int32)) dd_X5_keepDraft_89 (by decide) ?_
  refine J_zast hE hv 2 (N := 2) (by decide) rfl dd_X5_keepDraft_90 ?_
  refine J_letS (fun S16 => ?_)
  exact J_vret hE dd_X5_keepDraft_91 rfl rfl
theorem dd_X5_feed_0 : jd cX5_feed 0 (.iload_n 1) 1 1 := ⟨by decide +kernel, rfl⟩
theorem dd_X5_feed_1 : jd cX5_feed 1 (.i2l) 1 2 := ⟨by decide +kernel, rfl⟩
theorem dd_X5_feed_2 : jd cX5_feed 2 (.lconst 0) 1 3 := ⟨by decide +kernel, rfl⟩
theorem cl_RX5_69 : (Cond.constantLong "MothCustomsModel" 69 (127 : Int64) : Cond) ∈ jj_tb := jj_m (List.mem_of_getElem? (i := 886) (by decide +kernel)) rfl
theorem dd_X5_feed_3 : jd cX5_feed 3 (.ldc2_w 69) 3 6 := ⟨by decide +kernel, rfl⟩
theorem dd_X5_feed_6 : jd cX5_feed 6 (.invokestatic 71) 3 9 := ⟨by decide +kernel, rfl⟩
theorem dd_X5_feed_14 : jd cX5_feed 14 (.aload_n 0) 1 15 := ⟨by decide +kernel, rfl⟩
theorem fl_RX5_75 : (Cond.fieldLink "MothCustomsModel" 75 "MothCustomsModel" "taped" "I" : Cond) ∈ jj_tb := jj_m (List.mem_of_getElem? (i := 817) (by decide +kernel)) rfl
theorem dd_X5_feed_15 : jd cX5_feed 15 (.getfield 75) 3 18 := ⟨by decide +kernel, rfl⟩
theorem dd_X5_feed_18 : jd cX5_feed 18 (.sipush 160) 3 21 := ⟨by decide +kernel, rfl⟩
theorem dd_X5_feed_27 : jd cX5_feed 27 (.aload_n 0) 1 28 := ⟨by decide +kernel, rfl⟩
theorem fl_RX5_23 : (Cond.fieldLink "MothCustomsModel" 23 "MothCustomsModel" "tape" "[I" : Cond) ∈ jj_tb := jj_m (List.mem_of_getElem? (i := 816) (by decide +kernel)) rfl
theorem dd_X5_feed_28 : jd cX5_feed 28 (.getfield 23) 3 31 := ⟨by decide +kernel, rfl⟩
theorem dd_X5_feed_31 : jd cX5_feed 31 (.aload_n 0) 1 32 := ⟨by decide +kernel, rfl⟩
theorem dd_X5_feed_32 : jd cX5_feed 32 (.getfield 75) 3 35 := ⟨by decide +kernel, rfl⟩
theorem dd_X5_feed_35 : jd cX5_feed 35 (.iload_n 1) 1 36 := ⟨by decide +kernel, rfl⟩
theorem dd_X5_feed_36 : jd cX5_feed 36 (.iastore) 1 37 := ⟨by decide +kernel, rfl⟩
theorem dd_X5_feed_37 : jd cX5_feed 37 (.aload_n 0) 1 38 := ⟨by decide +kernel, rfl⟩
theorem dd_X5_feed_38 : jd cX5_feed 38 (.dup) 1 39 := ⟨by decide +kernel, rfl⟩
theorem dd_X5_feed_39 : jd cX5_feed 39 (.getfield 75) 3 42 := ⟨by decide +kernel, rfl⟩
theorem dd_X5_feed_42 : jd cX5_feed 42 (.iconst 1) 1 43 := ⟨by decide +kernel, rfl⟩
theorem dd_X5_feed_43 : jd cX5_feed 43 (.iadd) 1 44 := ⟨by decide +kernel, rfl⟩
theorem dd_X5_feed_44 : jd cX5_feed 44 (.putfield 75) 3 47 := ⟨by decide +kernel, rfl⟩
theorem dd_X5_feed_47 : jd cX5_feed 47 (.aload_n 0) 1 48 := ⟨by decide +kernel, rfl⟩
theorem dd_X5_feed_48 : jd cX5_feed 48 (.getfield 75) 3 51 := ⟨by decide +kernel, rfl⟩
theorem dd_X5_feed_51 : jd cX5_feed 51 (.ireturn) 1 52 := ⟨by decide +kernel, rfl⟩
theorem dd_X5_feed_24 : jd cX5_feed 24 (.bipush (-3)) 2 26 := ⟨by decide +kernel, rfl⟩
theorem dd_X5_feed_26 : jd cX5_feed 26 (.ireturn) 1 27 := ⟨by decide +kernel, rfl⟩
theorem dd_X5_feed_21 : jd cX5_feed 21 (.if_icmp .ne 6) 3 24 := ⟨by decide +kernel, rfl⟩
theorem dd_X5_feed_12 : jd cX5_feed 12 (.iconst (-1)) 1 13 := ⟨by decide +kernel, rfl⟩
theorem dd_X5_feed_13 : jd cX5_feed 13 (.ireturn) 1 14 := ⟨by decide +kernel, rfl⟩
theorem dd_X5_feed_9 : jd cX5_feed 9 (.ifCond .ne 5) 3 12 := ⟨by decide +kernel, rfl⟩
theorem m_X5_feed : jmV yX5_feed cX5_feed 2 (some .int) 1 := ⟨⟨(jj_m (w := Cond.code yX5_feed cX5_feed 2 (some .int)) (List.mem_of_getElem? (i := 885) (by decide +kernel)) rfl), (jj_m (w := Cond.initialized yX5_feed.cls) (List.mem_of_getElem? (i := 69) (by decide +kernel)) rfl), ⟨by decide, by decide⟩, by decide +kernel⟩, (jj_m (w := Cond.instanceMethod yX5_feed) (List.mem_of_getElem? (i := 883) (by decide +kernel)) rfl), (jj_m (w := Cond.selects yX5_feed.cls yX5_feed yX5_feed) (List.mem_of_getElem? (i := 884) (by decide +kernel)) rfl)⟩
def fX5_feed (i1 : Int32) (S : M2) : Option (Int32 × M2) :=
  (fX5_in (i1.toInt64) (0 : Int64) (127 : Int64)).bind fun r1 =>
  if r1 = 0 then
    some ((-1 : Int32), S)
  else
    if (S 12 0) = (160 : Int32) then
      some ((-3 : Int32), S)
    else
      bnd (S 12 0) 160 <|
      lt (va_up S 11 (upd (S 11) (S 12 0).toNatClampNeg i1)) fun S2 =>
      lt (va_up S2 12 (fun _ => ((S2 12 0) + (1 : Int32)))) fun S3 =>
      some ((S3 12 0), S3)

set_option maxHeartbeats 4000000 in
set_option maxRecDepth 100000 in
theorem tX5_feed (l : Launch) {V : JV M2} {b : Nat} {a : Nat → Nat} (hv : vX5 V b a) (S : M2) (i1 : Int32) : JC l V yX5_feed cX5_feed 2 (some .int) jj_i 1 [.ref b, .int i1] S ((fX5_feed i1 S).map (fun q => (q.1, q.2))) := by
  refine jj_of (by decide) (Nat.le_of_ble_eq_true rfl) (fun E hlE hE => ?_)
  unfold fX5_feed
  refine J_sub (L' := [(0, .ref b), (1, .int i1)]) [0, 1] rfl ?_
  refine J_iload_n hE dd_X5_feed_0 1 rfl rfl ?_
  refine J_i2l hE dd_X5_feed_1 ?_
  refine J_lconst hE (v := (0 : Int64)) dd_X5_feed_2 (by decide) ?_
  refine J_ldc2 hE (v := (127 : Int64)) dd_X5_feed_3 cl_RX5_69 ?_
  refine J_invSri hE (As := [.long (i1.toInt64), .long (0 : Int64), .long (127 : Int64)]) (st := []) (tX5_in E.2.1 V S (i1.toInt64) (0 : Int64) (127 : Int64)) m_X5_in s_X5_in rfl ml_RX5_71 (Nat.le_of_ble_eq_true rfl) (Nat.le_of_ble_eq_true rfl) rfl (Nat.le_of_ble_eq_true rfl) dd_X5_feed_6 (fun r1 => ?_)
  refine J_if_ne hE (tgt := 14) dd_X5_feed_9 (by decide) (fun c5 => ?_) (fun c5 => ?_)
  · refine J_aload_n hE dd_X5_feed_14 0 rfl rfl ?_
    refine J_get hE (hv.ob _) jc_X5 12 (by decide) fl_RX5_75 (v := .int (S 12 0)) rfl dd_X5_feed_15 ?_
    refine J_sipush hE (v := (160 : Int32)) dd_X5_feed_18 (by decide) ?_
    refine J_icmp_ne hE (tgt := 27) dd_X5_feed_21 (by decide) (fun c4 => ?_) (fun c4 => ?_)
    · refine J_aload_n hE dd_X5_feed_27 0 rfl rfl ?_
      refine J_get hE (hv.ob _) jc_X5 11 (by decide) fl_RX5_23 (v := .ref (a 11)) rfl dd_X5_feed_28 ?_
      refine J_aload_n hE dd_X5_feed_31 0 rfl rfl ?_
      refine J_get hE (hv.ob _) jc_X5 12 (by decide) fl_RX5_75 (v := .int (S 12 0)) rfl dd_X5_feed_32 ?_
      refine J_iload_n hE dd_X5_feed_35 1 rfl rfl ?_
      refine J_ast hE hv 11 (N := 160) (by decide) dd_X5_feed_36 ?_
      refine J_letS (fun S2 => ?_)
      refine J_aload_n hE dd_X5_feed_37 0 rfl rfl ?_
      refine J_dup hE dd_X5_feed_38 rfl ?_
      refine J_get hE (hv.ob _) jc_X5 12 (by decide) fl_RX5_75 (v := .int (S2 12 0)) rfl dd_X5_feed_39 ?_
      refine J_iconst hE (v := (1 : Int32)) dd_X5_feed_42 (by decide) ?_
      refine J_iadd hE dd_X5_feed_43 ?_
      refine J_put hE hv jc_X5 12 (by decide) (by decide) fl_RX5_75 rfl rfl rfl (Nat.le_of_ble_eq_true rfl) dd_X5_feed_44 ?_
      refine J_letS (fun S3 => ?_)
      refine J_aload_n hE dd_X5_feed_47 0 rfl rfl ?_
      refine J_get hE (hv.ob _) jc_X5 12 (by decide) fl_RX5_75 (v := .int (S3 12 0)) rfl dd_X5_feed_48 ?_
      exact J_iret hE dd_X5_feed_51 rfl rfl
    · refine J_bipush hE (v := (-3 : Int32)) dd_X5_feed_24 (by decide) ?_
      exact J_iret hE dd_X5_feed_26 rfl rfl
  · refine J_iconst hE (v := (-1 : Int32)) dd_X5_feed_12 (by decide) ?_
    exact J_iret hE dd_X5_feed_13 rfl rfl
theorem dd_X5_end_0 : jd cX5_end 0 (.iload_n 1) 1 1 := ⟨by decide +kernel, rfl⟩
theorem dd_X5_end_1 : jd cX5_end 1 (.i2l) 1 2 := ⟨by decide +kernel, rfl⟩
theorem dd_X5_end_2 : jd cX5_end 2 (.lconst 0) 1 3 := ⟨by decide +kernel, rfl⟩
theorem dd_X5_end_3 : jd cX5_end 3 (.aload_n 0) 1 4 := ⟨by decide +kernel, rfl⟩
theorem dd_X5_end_4 : jd cX5_end 4 (.getfield 75) 3 7 := ⟨by decide +kernel, rfl⟩
theorem dd_X5_end_7 : jd cX5_end 7 (.i2l) 1 8 := ⟨by decide +kernel, rfl⟩
theorem dd_X5_end_8 : jd cX5_end 8 (.invokestatic 71) 3 11 := ⟨by decide +kernel, rfl⟩
theorem dd_X5_end_16 : jd cX5_end 16 (.aload_n 0) 1 17 := ⟨by decide +kernel, rfl⟩
theorem dd_X5_end_17 : jd cX5_end 17 (.getfield 75) 3 20 := ⟨by decide +kernel, rfl⟩
theorem dd_X5_end_20 : jd cX5_end 20 (.istore_n 2) 1 21 := ⟨by decide +kernel, rfl⟩
theorem dd_X5_end_21 : jd cX5_end 21 (.aload_n 0) 1 22 := ⟨by decide +kernel, rfl⟩
theorem dd_X5_end_22 : jd cX5_end 22 (.iload_n 1) 1 23 := ⟨by decide +kernel, rfl⟩
theorem dd_X5_end_23 : jd cX5_end 23 (.putfield 75) 3 26 := ⟨by decide +kernel, rfl⟩
theorem dd_X5_end_26 : jd cX5_end 26 (.iload_n 2) 1 27 := ⟨by decide +kernel, rfl⟩
theorem dd_X5_end_27 : jd cX5_end 27 (.ireturn) 1 28 := ⟨by decide +kernel, rfl⟩
theorem dd_X5_end_14 : jd cX5_end 14 (.iconst (-1)) 1 15 := ⟨by decide +kernel, rfl⟩
theorem dd_X5_end_15 : jd cX5_end 15 (.ireturn) 1 16 := ⟨by decide +kernel, rfl⟩
theorem dd_X5_end_11 : jd cX5_end 11 (.ifCond .ne 5) 3 14 := ⟨by decide +kernel, rfl⟩
theorem m_X5_end : jmV yX5_end cX5_end 3 (some .int) 1 := ⟨⟨(jj_m (w := Cond.code yX5_end cX5_end 3 (some .int)) (List.mem_of_getElem? (i := 893) (by decide +kernel)) rfl), (jj_m (w := Cond.initialized yX5_end.cls) (List.mem_of_getElem? (i := 69) (by decide +kernel)) rfl), ⟨by decide, by decide⟩, by decide +kernel⟩, (jj_m (w := Cond.instanceMethod yX5_end) (List.mem_of_getElem? (i := 891) (by decide +kernel)) rfl), (jj_m (w := Cond.selects yX5_end.cls yX5_end yX5_end) (List.mem_of_getElem? (i := 892) (by decide +kernel)) rfl)⟩
def fX5_end (i1 : Int32) (S : M2) : Option (Int32 × M2) :=
  (fX5_in (i1.toInt64) (0 : Int64) ((S 12 0).toInt64)).bind fun r1 =>
  if r1 = 0 then
    some ((-1 : Int32), S)
  else
    lt ((S 12 0)) fun x2 =>
    lt (va_up S 12 (fun _ => i1)) fun S3 =>
    some (x2, S3)

set_option maxHeartbeats 4000000 in
set_option maxRecDepth 100000 in
theorem tX5_end (l : Launch) {V : JV M2} {b : Nat} {a : Nat → Nat} (hv : vX5 V b a) (S : M2) (i1 : Int32) : JC l V yX5_end cX5_end 3 (some .int) jj_i 1 [.ref b, .int i1] S ((fX5_end i1 S).map (fun q => (q.1, q.2))) := by
  refine jj_of (by decide) (Nat.le_of_ble_eq_true rfl) (fun E hlE hE => ?_)
  unfold fX5_end
  refine J_sub (L' := [(0, .ref b), (1, .int i1)]) [0, 1] rfl ?_
  refine J_iload_n hE dd_X5_end_0 1 rfl rfl ?_
  refine J_i2l hE dd_X5_end_1 ?_
  refine J_lconst hE (v := (0 : Int64)) dd_X5_end_2 (by decide) ?_
  refine J_aload_n hE dd_X5_end_3 0 rfl rfl ?_
  refine J_get hE (hv.ob _) jc_X5 12 (by decide) fl_RX5_75 (v := .int (S 12 0)) rfl dd_X5_end_4 ?_
  refine J_i2l hE dd_X5_end_7 ?_
  refine J_invSri hE (As := [.long (i1.toInt64), .long (0 : Int64), .long ((S 12 0).toInt64)]) (st := []) (tX5_in E.2.1 V S (i1.toInt64) (0 : Int64) ((S 12 0).toInt64)) m_X5_in s_X5_in rfl ml_RX5_71 (Nat.le_of_ble_eq_true rfl) (Nat.le_of_ble_eq_true rfl) rfl (Nat.le_of_ble_eq_true rfl) dd_X5_end_8 (fun r1 => ?_)
  refine J_if_ne hE (tgt := 16) dd_X5_end_11 (by decide) (fun c4 => ?_) (fun c4 => ?_)
  · refine J_aload_n hE dd_X5_end_16 0 rfl rfl ?_
    refine J_get hE (hv.ob _) jc_X5 12 (by decide) fl_RX5_75 (v := .int (S 12 0)) rfl dd_X5_end_17 ?_
    refine J_leti (fun x2 => ?_)
    refine J_istore_n hE (L' := [(2, .int x2), (0, .ref b), (1, .int i1)]) dd_X5_end_20 (Nat.le_of_ble_eq_true rfl) rfl rfl ?_
    refine J_aload_n hE dd_X5_end_21 1 rfl rfl ?_
    refine J_iload_n hE dd_X5_end_22 2 rfl rfl ?_
    refine J_put hE hv jc_X5 12 (by decide) (by decide) fl_RX5_75 rfl rfl rfl (Nat.le_of_ble_eq_true rfl) dd_X5_end_23 ?_
    refine J_letS (fun S3 => ?_)
    refine J_iload_n hE dd_X5_end_26 0 rfl rfl ?_
    exact J_iret hE dd_X5_end_27 rfl rfl
  · refine J_iconst hE (v := (-1 : Int32)) dd_X5_end_14 (by decide) ?_
    exact J_iret hE dd_X5_end_15 rfl rfl
theorem dd_X5_needs_0 : jd cX5_needs 0 (.iload_n 1) 1 1 := ⟨by decide +kernel, rfl⟩
theorem dd_X5_needs_24 : jd cX5_needs 24 (.return_) 1 25 := ⟨by decide +kernel, rfl⟩
theorem dd_X5_needs_4 : jd cX5_needs 4 (.aload_n 0) 1 5 := ⟨by decide +kernel, rfl⟩
theorem fl_RX5_78 : (Cond.fieldLink "MothCustomsModel" 78 "MothCustomsModel" "fault" "I" : Cond) ∈ jj_tb := jj_m (List.mem_of_getElem? (i := 822) (by decide +kernel)) rfl
theorem dd_X5_needs_5 : jd cX5_needs 5 (.getfield 78) 3 8 := ⟨by decide +kernel, rfl⟩
theorem dd_X5_needs_11 : jd cX5_needs 11 (.aload_n 0) 1 12 := ⟨by decide +kernel, rfl⟩
theorem dd_X5_needs_12 : jd cX5_needs 12 (.iload_n 2) 1 13 := ⟨by decide +kernel, rfl⟩
theorem dd_X5_needs_13 : jd cX5_needs 13 (.putfield 78) 3 16 := ⟨by decide +kernel, rfl⟩
theorem dd_X5_needs_16 : jd cX5_needs 16 (.aload_n 0) 1 17 := ⟨by decide +kernel, rfl⟩
theorem dd_X5_needs_17 : jd cX5_needs 17 (.aload_n 0) 1 18 := ⟨by decide +kernel, rfl⟩
theorem fl_RX5_81 : (Cond.fieldLink "MothCustomsModel" 81 "MothCustomsModel" "from" "I" : Cond) ∈ jj_tb := jj_m (List.mem_of_getElem? (i := 819) (by decide +kernel)) rfl
theorem dd_X5_needs_18 : jd cX5_needs 18 (.getfield 81) 3 21 := ⟨by decide +kernel, rfl⟩
theorem fl_RX5_84 : (Cond.fieldLink "MothCustomsModel" 84 "MothCustomsModel" "wrongAt" "I" : Cond) ∈ jj_tb := jj_m (List.mem_of_getElem? (i := 823) (by decide +kernel)) rfl
theorem dd_X5_needs_21 : jd cX5_needs 21 (.putfield 84) 3 24 := ⟨by decide +kernel, rfl⟩
theorem dd_X5_needs_8 : jd cX5_needs 8 (.ifCond .ne 16) 3 11 := ⟨by decide +kernel, rfl⟩
theorem dd_X5_needs_1 : jd cX5_needs 1 (.ifCond .ne 23) 3 4 := ⟨by decide +kernel, rfl⟩
theorem m_X5_needs : jmV yX5_needs cX5_needs 3 none 2 := ⟨⟨(jj_m (w := Cond.code yX5_needs cX5_needs 3 none) (List.mem_of_getElem? (i := 913) (by decide +kernel)) rfl), (jj_m (w := Cond.initialized yX5_needs.cls) (List.mem_of_getElem? (i := 69) (by decide +kernel)) rfl), ⟨by decide, by decide⟩, by decide +kernel⟩, (jj_m (w := Cond.instanceMethod yX5_needs) (List.mem_of_getElem? (i := 912) (by decide +kernel)) rfl), (jj_m (w := Cond.selects yX5_needs.cls yX5_needs yX5_needs) (List.mem_of_getElem? (i := 18) (by decide +kernel)) rfl)⟩
def fX5_needs (i1 : Int32) (i2 : Int32) (S : M2) : Option (M2) :=
  if i1 = 0 then
    if (S 17 0) = 0 then
      lt (va_up S 17 (fun _ => i2)) fun S1 =>
      lt (va_up S1 18 (fun _ => (S1 14 0))) fun S2 =>
      some S2
    else
      some S
  else
    some S

set_option maxHeartbeats 4000000 in
set_option maxRecDepth 100000 in
theorem tX5_needs (l : Launch) {V : JV M2} {b : Nat} {a : Nat → Nat} (hv : vX5 V b a) (S : M2) (i1 : Int32) (i2 : Int32) : JC l V yX5_needs cX5_needs 3 none jj_v 0 [.ref b, .int i1, .int i2] S ((fX5_needs i1 i2 S).map (fun q => ((), q))) := by
  refine jj_of (by decide) (Nat.le_of_ble_eq_true rfl) (fun E hlE hE => ?_)
  unfold fX5_needs
  refine J_sub (L' := [(0, .ref b), (1, .int i1), (2, .int i2)]) [0, 1, 2] rfl ?_
  refine J_iload_n hE dd_X5_needs_0 1 rfl rfl ?_
  refine J_if_ne hE (tgt := 24) dd_X5_needs_1 (by decide) (fun c4 => ?_) (fun c4 => ?_)
  · exact J_vret hE dd_X5_needs_24 rfl rfl
  · refine J_aload_n hE dd_X5_needs_4 0 rfl rfl ?_
    refine J_get hE (hv.ob _) jc_X5 17 (by decide) fl_RX5_78 (v := .int (S 17 0)) rfl dd_X5_needs_5 ?_
    refine J_if_ne hE (tgt := 24) dd_X5_needs_8 (by decide) (fun c3 => ?_) (fun c3 => ?_)
    · exact J_vret hE dd_X5_needs_24 rfl rfl
    · refine J_aload_n hE dd_X5_needs_11 0 rfl rfl ?_
      refine J_iload_n hE dd_X5_needs_12 2 rfl rfl ?_
      refine J_put hE hv jc_X5 17 (by decide) (by decide) fl_RX5_78 rfl rfl rfl (Nat.le_of_ble_eq_true rfl) dd_X5_needs_13 ?_
      refine J_letS (fun S1 => ?_)
      refine J_aload_n hE dd_X5_needs_16 0 rfl rfl ?_
      refine J_aload_n hE dd_X5_needs_17 0 rfl rfl ?_
      refine J_get hE (hv.ob _) jc_X5 14 (by decide) fl_RX5_81 (v := .int (S1 14 0)) rfl dd_X5_needs_18 ?_
      refine J_put hE hv jc_X5 18 (by decide) (by decide) fl_RX5_84 rfl rfl rfl (Nat.le_of_ble_eq_true rfl) dd_X5_needs_21 ?_
      refine J_letS (fun S2 => ?_)
      exact J_vret hE dd_X5_needs_24 rfl rfl
theorem dd_X5_byteAt_0 : jd cX5_byteAt 0 (.iload_n 1) 1 1 := ⟨by decide +kernel, rfl⟩
theorem dd_X5_byteAt_1 : jd cX5_byteAt 1 (.aload_n 0) 1 2 := ⟨by decide +kernel, rfl⟩
theorem dd_X5_byteAt_2 : jd cX5_byteAt 2 (.getfield 75) 3 5 := ⟨by decide +kernel, rfl⟩
theorem dd_X5_byteAt_17 : jd cX5_byteAt 17 (.iconst (-1)) 1 18 := ⟨by decide +kernel, rfl⟩
theorem dd_X5_byteAt_18 : jd cX5_byteAt 18 (.ireturn) 1 19 := ⟨by decide +kernel, rfl⟩
theorem dd_X5_byteAt_8 : jd cX5_byteAt 8 (.aload_n 0) 1 9 := ⟨by decide +kernel, rfl⟩
theorem dd_X5_byteAt_9 : jd cX5_byteAt 9 (.getfield 23) 3 12 := ⟨by decide +kernel, rfl⟩
theorem dd_X5_byteAt_12 : jd cX5_byteAt 12 (.iload_n 1) 1 13 := ⟨by decide +kernel, rfl⟩
theorem dd_X5_byteAt_13 : jd cX5_byteAt 13 (.iaload) 1 14 := ⟨by decide +kernel, rfl⟩
theorem dd_X5_byteAt_14 : jd cX5_byteAt 14 (.goto 4) 3 17 := ⟨by decide +kernel, rfl⟩
theorem dd_X5_byteAt_5 : jd cX5_byteAt 5 (.if_icmp .ge 12) 3 8 := ⟨by decide +kernel, rfl⟩
theorem m_X5_byteAt : jmV yX5_byteAt cX5_byteAt 2 (some .int) 1 := ⟨⟨(jj_m (w := Cond.code yX5_byteAt cX5_byteAt 2 (some .int)) (List.mem_of_getElem? (i := 905) (by decide +kernel)) rfl), (jj_m (w := Cond.initialized yX5_byteAt.cls) (List.mem_of_getElem? (i := 69) (by decide +kernel)) rfl), ⟨by decide, by decide⟩, by decide +kernel⟩, (jj_m (w := Cond.instanceMethod yX5_byteAt) (List.mem_of_getElem? (i := 904) (by decide +kernel)) rfl), (jj_m (w := Cond.selects yX5_byteAt.cls yX5_byteAt yX5_byteAt) (List.mem_of_getElem? (i := 17) (by decide +kernel)) rfl)⟩
def fX5_byteAt (i1 : Int32) (S : M2) : Option (Int32) :=
  if (S 12 0) ≤ i1 then
    some (-1 : Int32)
  else
    bnd i1 160 <|
    some (S 11 i1.toNatClampNeg)

set_option maxHeartbeats 4000000 in
set_option maxRecDepth 100000 in
theorem tX5_byteAt (l : Launch) {V : JV M2} {b : Nat} {a : Nat → Nat} (hv : vX5 V b a) (S : M2) (i1 : Int32) : JC l V yX5_byteAt cX5_byteAt 2 (some .int) jj_i 0 [.ref b, .int i1] S ((fX5_byteAt i1 S).map (fun r => (r, S))) := by
  refine jj_of (by decide) (Nat.le_of_ble_eq_true rfl) (fun E hlE hE => ?_)
  unfold fX5_byteAt
  refine J_sub (L' := [(0, .ref b), (1, .int i1)]) [0, 1] rfl ?_
  refine J_iload_n hE dd_X5_byteAt_0 1 rfl rfl ?_
  refine J_aload_n hE dd_X5_byteAt_1 0 rfl rfl ?_
  refine J_get hE (hv.ob _) jc_X5 12 (by decide) fl_RX5_75 (v := .int (S 12 0)) rfl dd_X5_byteAt_2 ?_
  refine J_icmp_ge hE (tgt := 17) dd_X5_byteAt_5 (by decide) (fun c1 => ?_) (fun c1 => ?_)
  · refine J_iconst hE (v := (-1 : Int32)) dd_X5_byteAt_17 (by decide) ?_
    exact J_iret hE dd_X5_byteAt_18 rfl rfl
  · refine J_aload_n hE dd_X5_byteAt_8 0 rfl rfl ?_
    refine J_get hE (hv.ob _) jc_X5 11 (by decide) fl_RX5_23 (v := .ref (a 11)) rfl dd_X5_byteAt_9 ?_
    refine J_iload_n hE dd_X5_byteAt_12 1 rfl rfl ?_
    refine J_ald hE (hv.arr 11 (n := 160) (ty := .int) (by decide) _) dd_X5_byteAt_13 ?_
    refine J_goto hE (tgt := 18) dd_X5_byteAt_14 (by decide) ?_
    exact J_iret hE dd_X5_byteAt_18 rfl rfl
theorem dd_X5_is_0 : jd cX5_is 0 (.aload_n 0) 1 1 := ⟨by decide +kernel, rfl⟩
theorem fl_RX5_87 : (Cond.fieldLink "MothCustomsModel" 87 "MothCustomsModel" "pos" "I" : Cond) ∈ jj_tb := jj_m (List.mem_of_getElem? (i := 818) (by decide +kernel)) rfl
theorem dd_X5_is_1 : jd cX5_is 1 (.getfield 87) 3 4 := ⟨by decide +kernel, rfl⟩
theorem dd_X5_is_4 : jd cX5_is 4 (.aload_n 0) 1 5 := ⟨by decide +kernel, rfl⟩
theorem dd_X5_is_5 : jd cX5_is 5 (.getfield 81) 3 8 := ⟨by decide +kernel, rfl⟩
theorem dd_X5_is_8 : jd cX5_is 8 (.isub) 1 9 := ⟨by decide +kernel, rfl⟩
theorem dd_X5_is_9 : jd cX5_is 9 (.iload_n 1) 1 10 := ⟨by decide +kernel, rfl⟩
theorem dd_X5_is_58 : jd cX5_is 58 (.iconst 0) 1 59 := ⟨by decide +kernel, rfl⟩
theorem dd_X5_is_59 : jd cX5_is 59 (.ireturn) 1 60 := ⟨by decide +kernel, rfl⟩
theorem dd_X5_is_13 : jd cX5_is 13 (.aload_n 0) 1 14 := ⟨by decide +kernel, rfl⟩
theorem dd_X5_is_14 : jd cX5_is 14 (.aload_n 0) 1 15 := ⟨by decide +kernel, rfl⟩
theorem dd_X5_is_15 : jd cX5_is 15 (.getfield 81) 3 18 := ⟨by decide +kernel, rfl⟩
theorem ml_RX5_90 : (Cond.methodLink "MothCustomsModel" 90 yX5_byteAt : Cond) ∈ jj_tb := jj_m (List.mem_of_getElem? (i := 902) (by decide +kernel)) rfl
theorem dd_X5_is_18 : jd cX5_is 18 (.invokevirtual 90) 3 21 := ⟨by decide +kernel, rfl⟩
theorem dd_X5_is_21 : jd cX5_is 21 (.iload_n 2) 1 22 := ⟨by decide +kernel, rfl⟩
theorem dd_X5_is_25 : jd cX5_is 25 (.aload_n 0) 1 26 := ⟨by decide +kernel, rfl⟩
theorem dd_X5_is_26 : jd cX5_is 26 (.aload_n 0) 1 27 := ⟨by decide +kernel, rfl⟩
theorem dd_X5_is_27 : jd cX5_is 27 (.getfield 81) 3 30 := ⟨by decide +kernel, rfl⟩
theorem dd_X5_is_30 : jd cX5_is 30 (.iconst 1) 1 31 := ⟨by decide +kernel, rfl⟩
theorem dd_X5_is_31 : jd cX5_is 31 (.iadd) 1 32 := ⟨by decide +kernel, rfl⟩
theorem dd_X5_is_32 : jd cX5_is 32 (.invokevirtual 90) 3 35 := ⟨by decide +kernel, rfl⟩
theorem dd_X5_is_35 : jd cX5_is 35 (.iload_n 3) 1 36 := ⟨by decide +kernel, rfl⟩
theorem dd_X5_is_39 : jd cX5_is 39 (.aload_n 0) 1 40 := ⟨by decide +kernel, rfl⟩
theorem dd_X5_is_40 : jd cX5_is 40 (.aload_n 0) 1 41 := ⟨by decide +kernel, rfl⟩
theorem dd_X5_is_41 : jd cX5_is 41 (.getfield 81) 3 44 := ⟨by decide +kernel, rfl⟩
theorem dd_X5_is_44 : jd cX5_is 44 (.iconst 2) 1 45 := ⟨by decide +kernel, rfl⟩
theorem dd_X5_is_45 : jd cX5_is 45 (.iadd) 1 46 := ⟨by decide +kernel, rfl⟩
theorem dd_X5_is_46 : jd cX5_is 46 (.invokevirtual 90) 3 49 := ⟨by decide +kernel, rfl⟩
theorem dd_X5_is_49 : jd cX5_is 49 (.iload 4) 2 51 := ⟨by decide +kernel, rfl⟩
theorem dd_X5_is_54 : jd cX5_is 54 (.iconst 1) 1 55 := ⟨by decide +kernel, rfl⟩
theorem dd_X5_is_55 : jd cX5_is 55 (.goto 4) 3 58 := ⟨by decide +kernel, rfl⟩
theorem dd_X5_is_51 : jd cX5_is 51 (.if_icmp .ne 7) 3 54 := ⟨by decide +kernel, rfl⟩
theorem dd_X5_is_36 : jd cX5_is 36 (.if_icmp .ne 22) 3 39 := ⟨by decide +kernel, rfl⟩
theorem dd_X5_is_22 : jd cX5_is 22 (.if_icmp .ne 36) 3 25 := ⟨by decide +kernel, rfl⟩
theorem dd_X5_is_10 : jd cX5_is 10 (.if_icmp .ne 48) 3 13 := ⟨by decide +kernel, rfl⟩
theorem m_X5_is : jmV yX5_is cX5_is 5 (some .boolean) 4 := ⟨⟨(jj_m (w := Cond.code yX5_is cX5_is 5 (some .boolean)) (List.mem_of_getElem? (i := 925) (by decide +kernel)) rfl), (jj_m (w := Cond.initialized yX5_is.cls) (List.mem_of_getElem? (i := 69) (by decide +kernel)) rfl), ⟨by decide, by decide⟩, by decide +kernel⟩, (jj_m (w := Cond.instanceMethod yX5_is) (List.mem_of_getElem? (i := 924) (by decide +kernel)) rfl), (jj_m (w := Cond.selects yX5_is.cls yX5_is yX5_is) (List.mem_of_getElem? (i := 21) (by decide +kernel)) rfl)⟩
def fX5_is (i1 : Int32) (i2 : Int32) (i3 : Int32) (i4 : Int32) (S : M2) : Option (Int32) :=
  if ((S 13 0) - (S 14 0)) = i1 then
    (fX5_byteAt (S 14 0) S).bind fun r1 =>
    if r1 = i2 then
      (fX5_byteAt ((S 14 0) + (1 : Int32)) S).bind fun r2 =>
      if r2 = i3 then
        (fX5_byteAt ((S 14 0) + (2 : Int32)) S).bind fun r3 =>
        if r3 = i4 then
          some (1 : Int32)
        else
          some (0 : Int32)
      else
        some (0 : Int32)
    else
      some (0 : Int32)
  else
    some (0 : Int32)

set_option maxHeartbeats 4000000 in
set_option maxRecDepth 100000 in
theorem tX5_is (l : Launch) {V : JV M2} {b : Nat} {a : Nat → Nat} (hv : vX5 V b a) (S : M2) (i1 : Int32) (i2 : Int32) (i3 : Int32) (i4 : Int32) : JC l V yX5_is cX5_is 5 (some .boolean) jj_i 1 [.ref b, .int i1, .int i2, .int i3, .int i4] S ((fX5_is i1 i2 i3 i4 S).map (fun r => (r, S))) := by
  refine jj_of (by decide) (Nat.le_of_ble_eq_true rfl) (fun E hlE hE => ?_)
  unfold fX5_is
  refine J_sub (L' := [(0, .ref b), (1, .int i1), (2, .int i2), (3, .int i3), (4, .int i4)]) [0, 1, 2, 3, 4] rfl ?_
  refine J_aload_n hE dd_X5_is_0 0 rfl rfl ?_
  refine J_get hE (hv.ob _) jc_X5 13 (by decide) fl_RX5_87 (v := .int (S 13 0)) rfl dd_X5_is_1 ?_
  refine J_aload_n hE dd_X5_is_4 0 rfl rfl ?_
  refine J_get hE (hv.ob _) jc_X5 14 (by decide) fl_RX5_81 (v := .int (S 14 0)) rfl dd_X5_is_5 ?_
  refine J_isub hE dd_X5_is_8 ?_
  refine J_iload_n hE dd_X5_is_9 1 rfl rfl ?_
  refine J_icmp_ne hE (tgt := 58) dd_X5_is_10 (by decide) (fun c7 => ?_) (fun c7 => ?_)
  · refine J_iconst hE (v := (0 : Int32)) dd_X5_is_58 (by decide) ?_
    exact J_zret hE (Or.inl rfl) dd_X5_is_59 rfl rfl
  · refine J_aload_n hE dd_X5_is_13 0 rfl rfl ?_
    refine J_aload_n hE dd_X5_is_14 0 rfl rfl ?_
    refine J_get hE (hv.ob _) jc_X5 14 (by decide) fl_RX5_81 (v := .int (S 14 0)) rfl dd_X5_is_15 ?_
    refine J_invVri hE (As := [.int (S 14 0)]) (st := []) (tX5_byteAt E.2.1 hv S (S 14 0)) (hv.ob _) m_X5_byteAt rfl ml_RX5_90 (Nat.le_of_ble_eq_true rfl) (Nat.le_of_ble_eq_true rfl) rfl (Nat.le_of_ble_eq_true rfl) dd_X5_is_18 (fun r1 => ?_)
    refine J_iload_n hE dd_X5_is_21 2 rfl rfl ?_
    refine J_icmp_ne hE (tgt := 58) dd_X5_is_22 (by decide) (fun c6 => ?_) (fun c6 => ?_)
    · refine J_iconst hE (v := (0 : Int32)) dd_X5_is_58 (by decide) ?_
      exact J_zret hE (Or.inl rfl) dd_X5_is_59 rfl rfl
    · refine J_aload_n hE dd_X5_is_25 0 rfl rfl ?_
      refine J_aload_n hE dd_X5_is_26 0 rfl rfl ?_
      refine J_get hE (hv.ob _) jc_X5 14 (by decide) fl_RX5_81 (v := .int (S 14 0)) rfl dd_X5_is_27 ?_
      refine J_iconst hE (v := (1 : Int32)) dd_X5_is_30 (by decide) ?_
      refine J_iadd hE dd_X5_is_31 ?_
      refine J_invVri hE (As := [.int ((S 14 0) + (1 : Int32))]) (st := []) (tX5_byteAt E.2.1 hv S ((S 14 0) + (1 : Int32))) (hv.ob _) m_X5_byteAt rfl ml_RX5_90 (Nat.le_of_ble_eq_true rfl) (Nat.le_of_ble_eq_true rfl) rfl (Nat.le_of_ble_eq_true rfl) dd_X5_is_32 (fun r2 => ?_)
      refine J_iload_n hE dd_X5_is_35 3 rfl rfl ?_
      refine J_icmp_ne hE (tgt := 58) dd_X5_is_36 (by decide) (fun c5 => ?_) (fun c5 => ?_)
      · refine J_iconst hE (v := (0 : Int32)) dd_X5_is_58 (by decide) ?_
        exact J_zret hE (Or.inl rfl) dd_X5_is_59 rfl rfl
      · refine J_aload_n hE dd_X5_is_39 0 rfl rfl ?_
        refine J_aload_n hE dd_X5_is_40 0 rfl rfl ?_
        refine J_get hE (hv.ob _) jc_X5 14 (by decide) fl_RX5_81 (v := .int (S 14 0)) rfl dd_X5_is_41 ?_
        refine J_iconst hE (v := (2 : Int32)) dd_X5_is_44 (by decide) ?_
        refine J_iadd hE dd_X5_is_45 ?_
        refine J_invVri hE (As := [.int ((S 14 0) + (2 : Int32))]) (st := []) (tX5_byteAt E.2.1 hv S ((S 14 0) + (2 : Int32))) (hv.ob _) m_X5_byteAt rfl ml_RX5_90 (Nat.le_of_ble_eq_true rfl) (Nat.le_of_ble_eq_true rfl) rfl (Nat.le_of_ble_eq_true rfl) dd_X5_is_46 (fun r3 => ?_)
        refine J_iload hE dd_X5_is_49 4 rfl ?_
        refine J_icmp_ne hE (tgt := 58) dd_X5_is_51 (by decide) (fun c4 => ?_) (fun c4 => ?_)
        · refine J_iconst hE (v := (0 : Int32)) dd_X5_is_58 (by decide) ?_
          exact J_zret hE (Or.inl rfl) dd_X5_is_59 rfl rfl
        · refine J_iconst hE (v := (1 : Int32)) dd_X5_is_54 (by decide) ?_
          refine J_goto hE (tgt := 59) dd_X5_is_55 (by decide) ?_
          exact J_zret hE (Or.inr rfl) dd_X5_is_59 rfl rfl
theorem dd_X5_ends_0 : jd cX5_ends 0 (.aload_n 0) 1 1 := ⟨by decide +kernel, rfl⟩
theorem dd_X5_ends_1 : jd cX5_ends 1 (.aload_n 0) 1 2 := ⟨by decide +kernel, rfl⟩
theorem dd_X5_ends_2 : jd cX5_ends 2 (.getfield 81) 3 5 := ⟨by decide +kernel, rfl⟩
theorem dd_X5_ends_5 : jd cX5_ends 5 (.iconst 3) 1 6 := ⟨by decide +kernel, rfl⟩
theorem dd_X5_ends_6 : jd cX5_ends 6 (.iadd) 1 7 := ⟨by decide +kernel, rfl⟩
theorem dd_X5_ends_7 : jd cX5_ends 7 (.invokevirtual 90) 3 10 := ⟨by decide +kernel, rfl⟩
theorem dd_X5_ends_10 : jd cX5_ends 10 (.iload_n 1) 1 11 := ⟨by decide +kernel, rfl⟩
theorem dd_X5_ends_75 : jd cX5_ends 75 (.iconst 0) 1 76 := ⟨by decide +kernel, rfl⟩
theorem dd_X5_ends_76 : jd cX5_ends 76 (.ireturn) 1 77 := ⟨by decide +kernel, rfl⟩
theorem dd_X5_ends_14 : jd cX5_ends 14 (.iload_n 2) 1 15 := ⟨by decide +kernel, rfl⟩
theorem dd_X5_ends_18 : jd cX5_ends 18 (.aload_n 0) 1 19 := ⟨by decide +kernel, rfl⟩
theorem dd_X5_ends_19 : jd cX5_ends 19 (.aload_n 0) 1 20 := ⟨by decide +kernel, rfl⟩
theorem dd_X5_ends_20 : jd cX5_ends 20 (.getfield 81) 3 23 := ⟨by decide +kernel, rfl⟩
theorem dd_X5_ends_23 : jd cX5_ends 23 (.iconst 4) 1 24 := ⟨by decide +kernel, rfl⟩
theorem dd_X5_ends_24 : jd cX5_ends 24 (.iadd) 1 25 := ⟨by decide +kernel, rfl⟩
theorem dd_X5_ends_25 : jd cX5_ends 25 (.invokevirtual 90) 3 28 := ⟨by decide +kernel, rfl⟩
theorem dd_X5_ends_28 : jd cX5_ends 28 (.iload_n 2) 1 29 := ⟨by decide +kernel, rfl⟩
theorem dd_X5_ends_29 : jd cX5_ends 29 (.if_icmp .ne 46) 3 32 := ⟨by decide +kernel, rfl⟩
theorem dd_X5_ends_15 : jd cX5_ends 15 (.ifCond .eq 17) 3 18 := ⟨by decide +kernel, rfl⟩
theorem dd_X5_ends_32 : jd cX5_ends 32 (.iload_n 3) 1 33 := ⟨by decide +kernel, rfl⟩
theorem dd_X5_ends_36 : jd cX5_ends 36 (.aload_n 0) 1 37 := ⟨by decide +kernel, rfl⟩
theorem dd_X5_ends_37 : jd cX5_ends 37 (.aload_n 0) 1 38 := ⟨by decide +kernel, rfl⟩
theorem dd_X5_ends_38 : jd cX5_ends 38 (.getfield 81) 3 41 := ⟨by decide +kernel, rfl⟩
theorem dd_X5_ends_41 : jd cX5_ends 41 (.iconst 5) 1 42 := ⟨by decide +kernel, rfl⟩
theorem dd_X5_ends_42 : jd cX5_ends 42 (.iadd) 1 43 := ⟨by decide +kernel, rfl⟩
theorem dd_X5_ends_43 : jd cX5_ends 43 (.invokevirtual 90) 3 46 := ⟨by decide +kernel, rfl⟩
theorem dd_X5_ends_46 : jd cX5_ends 46 (.iload_n 3) 1 47 := ⟨by decide +kernel, rfl⟩
theorem dd_X5_ends_47 : jd cX5_ends 47 (.if_icmp .ne 28) 3 50 := ⟨by decide +kernel, rfl⟩
theorem dd_X5_ends_33 : jd cX5_ends 33 (.ifCond .eq 17) 3 36 := ⟨by decide +kernel, rfl⟩
theorem dd_X5_ends_50 : jd cX5_ends 50 (.iload 4) 2 52 := ⟨by decide +kernel, rfl⟩
theorem dd_X5_ends_71 : jd cX5_ends 71 (.iconst 1) 1 72 := ⟨by decide +kernel, rfl⟩
theorem dd_X5_ends_72 : jd cX5_ends 72 (.goto 4) 3 75 := ⟨by decide +kernel, rfl⟩
theorem dd_X5_ends_55 : jd cX5_ends 55 (.aload_n 0) 1 56 := ⟨by decide +kernel, rfl⟩
theorem dd_X5_ends_56 : jd cX5_ends 56 (.aload_n 0) 1 57 := ⟨by decide +kernel, rfl⟩
theorem dd_X5_ends_57 : jd cX5_ends 57 (.getfield 81) 3 60 := ⟨by decide +kernel, rfl⟩
theorem dd_X5_ends_60 : jd cX5_ends 60 (.bipush 6) 2 62 := ⟨by decide +kernel, rfl⟩
theorem dd_X5_ends_62 : jd cX5_ends 62 (.iadd) 1 63 := ⟨by decide +kernel, rfl⟩
theorem dd_X5_ends_63 : jd cX5_ends 63 (.invokevirtual 90) 3 66 := ⟨by decide +kernel, rfl⟩
theorem dd_X5_ends_66 : jd cX5_ends 66 (.iload 4) 2 68 := ⟨by decide +kernel, rfl⟩
theorem dd_X5_ends_68 : jd cX5_ends 68 (.if_icmp .ne 7) 3 71 := ⟨by decide +kernel, rfl⟩
theorem dd_X5_ends_52 : jd cX5_ends 52 (.ifCond .eq 19) 3 55 := ⟨by decide +kernel, rfl⟩
theorem dd_X5_ends_11 : jd cX5_ends 11 (.if_icmp .ne 64) 3 14 := ⟨by decide +kernel, rfl⟩
theorem m_X5_ends : jmV yX5_ends cX5_ends 5 (some .boolean) 4 := ⟨⟨(jj_m (w := Cond.code yX5_ends cX5_ends 5 (some .boolean)) (List.mem_of_getElem? (i := 929) (by decide +kernel)) rfl), (jj_m (w := Cond.initialized yX5_ends.cls) (List.mem_of_getElem? (i := 69) (by decide +kernel)) rfl), ⟨by decide, by decide⟩, by decide +kernel⟩, (jj_m (w := Cond.instanceMethod yX5_ends) (List.mem_of_getElem? (i := 928) (by decide +kernel)) rfl), (jj_m (w := Cond.selects yX5_ends.cls yX5_ends yX5_ends) (List.mem_of_getElem? (i := 22) (by decide +kernel)) rfl)⟩
def fX5_ends (i1 : Int32) (i2 : Int32) (i3 : Int32) (i4 : Int32) (S : M2) : Option (Int32) :=
  (fX5_byteAt ((S 14 0) + (3 : Int32)) S).bind fun r1 =>
  if r1 = i1 then
    jn (α := Option (Int32)) (β := Unit) (fun j2 =>
      if i2 = 0 then
        j2 ()
      else
        (fX5_byteAt ((S 14 0) + (4 : Int32)) S).bind fun r3 =>
        if r3 = i2 then
          j2 ()
        else
          some (0 : Int32)) (fun _ => 
      jn (α := Option (Int32)) (β := Unit) (fun j7 =>
        if i3 = 0 then
          j7 ()
        else
          (fX5_byteAt ((S 14 0) + (5 : Int32)) S).bind fun r8 =>
          if r8 = i3 then
            j7 ()
          else
            some (0 : Int32)) (fun _ => 
        if i4 = 0 then
          some (1 : Int32)
        else
          (fX5_byteAt ((S 14 0) + (6 : Int32)) S).bind fun r12 =>
          if r12 = i4 then
            some (1 : Int32)
          else
            some (0 : Int32)))
  else
    some (0 : Int32)

set_option maxHeartbeats 4000000 in
set_option maxRecDepth 100000 in
theorem tX5_ends (l : Launch) {V : JV M2} {b : Nat} {a : Nat → Nat} (hv : vX5 V b a) (S : M2) (i1 : Int32) (i2 : Int32) (i3 : Int32) (i4 : Int32) : JC l V yX5_ends cX5_ends 5 (some .boolean) jj_i 1 [.ref b, .int i1, .int i2, .int i3, .int i4] S ((fX5_ends i1 i2 i3 i4 S).map (fun r => (r, S))) := by
  refine jj_of (by decide) (Nat.le_of_ble_eq_true rfl) (fun E hlE hE => ?_)
  unfold fX5_ends
  refine J_sub (L' := [(0, .ref b), (1, .int i1), (2, .int i2), (3, .int i3), (4, .int i4)]) [0, 1, 2, 3, 4] rfl ?_
  refine J_aload_n hE dd_X5_ends_0 0 rfl rfl ?_
  refine J_aload_n hE dd_X5_ends_1 0 rfl rfl ?_
  refine J_get hE (hv.ob _) jc_X5 14 (by decide) fl_RX5_81 (v := .int (S 14 0)) rfl dd_X5_ends_2 ?_
  refine J_iconst hE (v := (3 : Int32)) dd_X5_ends_5 (by decide) ?_
  refine J_iadd hE dd_X5_ends_6 ?_
  refine J_invVri hE (As := [.int ((S 14 0) + (3 : Int32))]) (st := []) (tX5_byteAt E.2.1 hv S ((S 14 0) + (3 : Int32))) (hv.ob _) m_X5_byteAt rfl ml_RX5_90 (Nat.le_of_ble_eq_true rfl) (Nat.le_of_ble_eq_true rfl) rfl (Nat.le_of_ble_eq_true rfl) dd_X5_ends_7 (fun r1 => ?_)
  refine J_iload_n hE dd_X5_ends_10 1 rfl rfl ?_
  refine J_icmp_ne hE (tgt := 75) dd_X5_ends_11 (by decide) (fun c15 => ?_) (fun c15 => ?_)
  · refine J_iconst hE (v := (0 : Int32)) dd_X5_ends_75 (by decide) ?_
    exact J_zret hE (Or.inl rfl) dd_X5_ends_76 rfl rfl
  · refine J_iload_n hE dd_X5_ends_14 2 rfl rfl ?_
    refine J_jn (m := 32) (Lf := fun _ => [(0, .ref b), (3, .int i3), (4, .int i4)]) (sf := fun _ => []) (Xf := fun _ => S) (fun _ => ?_) (fun hj2 => ?_)
    · show J V E _ _ 32 [(0, .ref b), (3, .int i3), (4, .int i4)] [] S
      refine J_iload_n hE dd_X5_ends_32 1 rfl rfl ?_
      refine J_jn (m := 50) (Lf := fun _ => [(0, .ref b), (4, .int i4)]) (sf := fun _ => []) (Xf := fun _ => S) (fun _ => ?_) (fun hj7 => ?_)
      · show J V E _ _ 50 [(0, .ref b), (4, .int i4)] [] S
        refine J_iload hE dd_X5_ends_50 1 rfl ?_
        refine J_if_eq hE (tgt := 71) dd_X5_ends_52 (by decide) (fun c14 => ?_) (fun c14 => ?_)
        · refine J_iconst hE (v := (1 : Int32)) dd_X5_ends_71 (by decide) ?_
          refine J_goto hE (tgt := 76) dd_X5_ends_72 (by decide) ?_
          exact J_zret hE (Or.inr rfl) dd_X5_ends_76 rfl rfl
        · refine J_aload_n hE dd_X5_ends_55 0 rfl rfl ?_
          refine J_aload_n hE dd_X5_ends_56 0 rfl rfl ?_
          refine J_get hE (hv.ob _) jc_X5 14 (by decide) fl_RX5_81 (v := .int (S 14 0)) rfl dd_X5_ends_57 ?_
          refine J_bipush hE (v := (6 : Int32)) dd_X5_ends_60 (by decide) ?_
          refine J_iadd hE dd_X5_ends_62 ?_
          refine J_invVri hE (As := [.int ((S 14 0) + (6 : Int32))]) (st := []) (tX5_byteAt E.2.1 hv S ((S 14 0) + (6 : Int32))) (hv.ob _) m_X5_byteAt rfl ml_RX5_90 (Nat.le_of_ble_eq_true rfl) (Nat.le_of_ble_eq_true rfl) rfl (Nat.le_of_ble_eq_true rfl) dd_X5_ends_63 (fun r12 => ?_)
          refine J_iload hE dd_X5_ends_66 1 rfl ?_
          refine J_icmp_ne hE (tgt := 75) dd_X5_ends_68 (by decide) (fun c13 => ?_) (fun c13 => ?_)
          · refine J_iconst hE (v := (0 : Int32)) dd_X5_ends_75 (by decide) ?_
            exact J_zret hE (Or.inl rfl) dd_X5_ends_76 rfl rfl
          · refine J_iconst hE (v := (1 : Int32)) dd_X5_ends_71 (by decide) ?_
            refine J_goto hE (tgt := 76) dd_X5_ends_72 (by decide) ?_
            exact J_zret hE (Or.inr rfl) dd_X5_ends_76 rfl rfl
      · refine J_if_eq hE (tgt := 50) dd_X5_ends_33 (by decide) (fun c10 => ?_) (fun c10 => ?_)
        · refine J_sub [0, 2] rfl ?_
          exact hj7 ()
        · refine J_aload_n hE dd_X5_ends_36 0 rfl rfl ?_
          refine J_aload_n hE dd_X5_ends_37 0 rfl rfl ?_
          refine J_get hE (hv.ob _) jc_X5 14 (by decide) fl_RX5_81 (v := .int (S 14 0)) rfl dd_X5_ends_38 ?_
          refine J_iconst hE (v := (5 : Int32)) dd_X5_ends_41 (by decide) ?_
          refine J_iadd hE dd_X5_ends_42 ?_
          refine J_invVri hE (As := [.int ((S 14 0) + (5 : Int32))]) (st := []) (tX5_byteAt E.2.1 hv S ((S 14 0) + (5 : Int32))) (hv.ob _) m_X5_byteAt rfl ml_RX5_90 (Nat.le_of_ble_eq_true rfl) (Nat.le_of_ble_eq_true rfl) rfl (Nat.le_of_ble_eq_true rfl) dd_X5_ends_43 (fun r8 => ?_)
          refine J_iload_n hE dd_X5_ends_46 1 rfl rfl ?_
          refine J_icmp_ne hE (tgt := 75) dd_X5_ends_47 (by decide) (fun c9 => ?_) (fun c9 => ?_)
          · refine J_iconst hE (v := (0 : Int32)) dd_X5_ends_75 (by decide) ?_
            exact J_zret hE (Or.inl rfl) dd_X5_ends_76 rfl rfl
          · refine J_sub [0, 2] rfl ?_
            exact hj7 ()
    · refine J_if_eq hE (tgt := 32) dd_X5_ends_15 (by decide) (fun c5 => ?_) (fun c5 => ?_)
      · refine J_sub [0, 3, 4] rfl ?_
        exact hj2 ()
      · refine J_aload_n hE dd_X5_ends_18 0 rfl rfl ?_
        refine J_aload_n hE dd_X5_ends_19 0 rfl rfl ?_
        refine J_get hE (hv.ob _) jc_X5 14 (by decide) fl_RX5_81 (v := .int (S 14 0)) rfl dd_X5_ends_20 ?_
        refine J_iconst hE (v := (4 : Int32)) dd_X5_ends_23 (by decide) ?_
        refine J_iadd hE dd_X5_ends_24 ?_
        refine J_invVri hE (As := [.int ((S 14 0) + (4 : Int32))]) (st := []) (tX5_byteAt E.2.1 hv S ((S 14 0) + (4 : Int32))) (hv.ob _) m_X5_byteAt rfl ml_RX5_90 (Nat.le_of_ble_eq_true rfl) (Nat.le_of_ble_eq_true rfl) rfl (Nat.le_of_ble_eq_true rfl) dd_X5_ends_25 (fun r3 => ?_)
        refine J_iload_n hE dd_X5_ends_28 2 rfl rfl ?_
        refine J_icmp_ne hE (tgt := 75) dd_X5_ends_29 (by decide) (fun c4 => ?_) (fun c4 => ?_)
        · refine J_iconst hE (v := (0 : Int32)) dd_X5_ends_75 (by decide) ?_
          exact J_zret hE (Or.inl rfl) dd_X5_ends_76 rfl rfl
        · refine J_sub [0, 3, 4] rfl ?_
          exact hj2 ()
theorem dd_X5_lineNow_0 : jd cX5_lineNow 0 (.aload_n 0) 1 1 := ⟨by decide +kernel, rfl⟩
theorem dd_X5_lineNow_1 : jd cX5_lineNow 1 (.iconst 5) 1 2 := ⟨by decide +kernel, rfl⟩
theorem dd_X5_lineNow_2 : jd cX5_lineNow 2 (.bipush 112) 2 4 := ⟨by decide +kernel, rfl⟩
theorem dd_X5_lineNow_4 : jd cX5_lineNow 4 (.bipush 108) 2 6 := ⟨by decide +kernel, rfl⟩
theorem dd_X5_lineNow_6 : jd cX5_lineNow 6 (.bipush 97) 2 8 := ⟨by decide +kernel, rfl⟩
theorem ml_RX5_94 : (Cond.methodLink "MothCustomsModel" 94 yX5_is : Cond) ∈ jj_tb := jj_m (List.mem_of_getElem? (i := 922) (by decide +kernel)) rfl
theorem dd_X5_lineNow_8 : jd cX5_lineNow 8 (.invokevirtual 94) 3 11 := ⟨by decide +kernel, rfl⟩
theorem dd_X5_lineNow_14 : jd cX5_lineNow 14 (.aload_n 0) 1 15 := ⟨by decide +kernel, rfl⟩
theorem dd_X5_lineNow_15 : jd cX5_lineNow 15 (.bipush 105) 2 17 := ⟨by decide +kernel, rfl⟩
theorem dd_X5_lineNow_17 : jd cX5_lineNow 17 (.bipush 110) 2 19 := ⟨by decide +kernel, rfl⟩
theorem dd_X5_lineNow_19 : jd cX5_lineNow 19 (.iconst 0) 1 20 := ⟨by decide +kernel, rfl⟩
theorem dd_X5_lineNow_20 : jd cX5_lineNow 20 (.iconst 0) 1 21 := ⟨by decide +kernel, rfl⟩
theorem ml_RX5_98 : (Cond.methodLink "MothCustomsModel" 98 yX5_ends : Cond) ∈ jj_tb := jj_m (List.mem_of_getElem? (i := 926) (by decide +kernel)) rfl
theorem dd_X5_lineNow_21 : jd cX5_lineNow 21 (.invokevirtual 98) 3 24 := ⟨by decide +kernel, rfl⟩
theorem dd_X5_lineNow_27 : jd cX5_lineNow 27 (.iconst 0) 1 28 := ⟨by decide +kernel, rfl⟩
theorem dd_X5_lineNow_28 : jd cX5_lineNow 28 (.ireturn) 1 29 := ⟨by decide +kernel, rfl⟩
theorem dd_X5_lineNow_24 : jd cX5_lineNow 24 (.ifCond .eq 5) 3 27 := ⟨by decide +kernel, rfl⟩
theorem dd_X5_lineNow_11 : jd cX5_lineNow 11 (.ifCond .eq 18) 3 14 := ⟨by decide +kernel, rfl⟩
theorem dd_X5_lineNow_29 : jd cX5_lineNow 29 (.aload_n 0) 1 30 := ⟨by decide +kernel, rfl⟩
theorem dd_X5_lineNow_30 : jd cX5_lineNow 30 (.iconst 5) 1 31 := ⟨by decide +kernel, rfl⟩
theorem dd_X5_lineNow_31 : jd cX5_lineNow 31 (.bipush 112) 2 33 := ⟨by decide +kernel, rfl⟩
theorem dd_X5_lineNow_33 : jd cX5_lineNow 33 (.bipush 105) 2 35 := ⟨by decide +kernel, rfl⟩
theorem dd_X5_lineNow_35 : jd cX5_lineNow 35 (.bipush 99) 2 37 := ⟨by decide +kernel, rfl⟩
theorem dd_X5_lineNow_37 : jd cX5_lineNow 37 (.invokevirtual 94) 3 40 := ⟨by decide +kernel, rfl⟩
theorem dd_X5_lineNow_43 : jd cX5_lineNow 43 (.aload_n 0) 1 44 := ⟨by decide +kernel, rfl⟩
theorem dd_X5_lineNow_44 : jd cX5_lineNow 44 (.bipush 107) 2 46 := ⟨by decide +kernel, rfl⟩
theorem dd_X5_lineNow_46 : jd cX5_lineNow 46 (.bipush 121) 2 48 := ⟨by decide +kernel, rfl⟩
theorem dd_X5_lineNow_48 : jd cX5_lineNow 48 (.iconst 0) 1 49 := ⟨by decide +kernel, rfl⟩
theorem dd_X5_lineNow_49 : jd cX5_lineNow 49 (.iconst 0) 1 50 := ⟨by decide +kernel, rfl⟩
theorem dd_X5_lineNow_50 : jd cX5_lineNow 50 (.invokevirtual 98) 3 53 := ⟨by decide +kernel, rfl⟩
theorem dd_X5_lineNow_56 : jd cX5_lineNow 56 (.iconst 1) 1 57 := ⟨by decide +kernel, rfl⟩
theorem dd_X5_lineNow_57 : jd cX5_lineNow 57 (.ireturn) 1 58 := ⟨by decide +kernel, rfl⟩
theorem dd_X5_lineNow_53 : jd cX5_lineNow 53 (.ifCond .eq 5) 3 56 := ⟨by decide +kernel, rfl⟩
theorem dd_X5_lineNow_40 : jd cX5_lineNow 40 (.ifCond .eq 18) 3 43 := ⟨by decide +kernel, rfl⟩
theorem dd_X5_lineNow_58 : jd cX5_lineNow 58 (.aload_n 0) 1 59 := ⟨by decide +kernel, rfl⟩
theorem dd_X5_lineNow_59 : jd cX5_lineNow 59 (.bipush 7) 2 61 := ⟨by decide +kernel, rfl⟩
theorem dd_X5_lineNow_61 : jd cX5_lineNow 61 (.bipush 103) 2 63 := ⟨by decide +kernel, rfl⟩
theorem dd_X5_lineNow_63 : jd cX5_lineNow 63 (.bipush 108) 2 65 := ⟨by decide +kernel, rfl⟩
theorem dd_X5_lineNow_65 : jd cX5_lineNow 65 (.bipush 117) 2 67 := ⟨by decide +kernel, rfl⟩
theorem dd_X5_lineNow_67 : jd cX5_lineNow 67 (.invokevirtual 94) 3 70 := ⟨by decide +kernel, rfl⟩
theorem dd_X5_lineNow_73 : jd cX5_lineNow 73 (.aload_n 0) 1 74 := ⟨by decide +kernel, rfl⟩
theorem dd_X5_lineNow_74 : jd cX5_lineNow 74 (.bipush 116) 2 76 := ⟨by decide +kernel, rfl⟩
theorem dd_X5_lineNow_76 : jd cX5_lineNow 76 (.bipush 116) 2 78 := ⟨by decide +kernel, rfl⟩
theorem dd_X5_lineNow_78 : jd cX5_lineNow 78 (.bipush 111) 2 80 := ⟨by decide +kernel, rfl⟩
theorem dd_X5_lineNow_80 : jd cX5_lineNow 80 (.bipush 110) 2 82 := ⟨by decide +kernel, rfl⟩
theorem dd_X5_lineNow_82 : jd cX5_lineNow 82 (.invokevirtual 98) 3 85 := ⟨by decide +kernel, rfl⟩
theorem dd_X5_lineNow_88 : jd cX5_lineNow 88 (.iconst 2) 1 89 := ⟨by decide +kernel, rfl⟩
theorem dd_X5_lineNow_89 : jd cX5_lineNow 89 (.ireturn) 1 90 := ⟨by decide +kernel, rfl⟩
theorem dd_X5_lineNow_85 : jd cX5_lineNow 85 (.ifCond .eq 5) 3 88 := ⟨by decide +kernel, rfl⟩
theorem dd_X5_lineNow_70 : jd cX5_lineNow 70 (.ifCond .eq 20) 3 73 := ⟨by decide +kernel, rfl⟩
theorem dd_X5_lineNow_90 : jd cX5_lineNow 90 (.aload_n 0) 1 91 := ⟨by decide +kernel, rfl⟩
theorem dd_X5_lineNow_91 : jd cX5_lineNow 91 (.iconst 3) 1 92 := ⟨by decide +kernel, rfl⟩
theorem dd_X5_lineNow_92 : jd cX5_lineNow 92 (.bipush 102) 2 94 := ⟨by decide +kernel, rfl⟩
theorem dd_X5_lineNow_94 : jd cX5_lineNow 94 (.bipush 97) 2 96 := ⟨by decide +kernel, rfl⟩
theorem dd_X5_lineNow_96 : jd cX5_lineNow 96 (.bipush 116) 2 98 := ⟨by decide +kernel, rfl⟩
theorem dd_X5_lineNow_98 : jd cX5_lineNow 98 (.invokevirtual 94) 3 101 := ⟨by decide +kernel, rfl⟩
theorem dd_X5_lineNow_106 : jd cX5_lineNow 106 (.aload_n 0) 1 107 := ⟨by decide +kernel, rfl⟩
theorem dd_X5_lineNow_107 : jd cX5_lineNow 107 (.iconst 4) 1 108 := ⟨by decide +kernel, rfl⟩
theorem dd_X5_lineNow_108 : jd cX5_lineNow 108 (.bipush 98) 2 110 := ⟨by decide +kernel, rfl⟩
theorem dd_X5_lineNow_110 : jd cX5_lineNow 110 (.bipush 111) 2 112 := ⟨by decide +kernel, rfl⟩
theorem dd_X5_lineNow_112 : jd cX5_lineNow 112 (.bipush 108) 2 114 := ⟨by decide +kernel, rfl⟩
theorem dd_X5_lineNow_114 : jd cX5_lineNow 114 (.invokevirtual 94) 3 117 := ⟨by decide +kernel, rfl⟩
theorem dd_X5_lineNow_120 : jd cX5_lineNow 120 (.aload_n 0) 1 121 := ⟨by decide +kernel, rfl⟩
theorem dd_X5_lineNow_121 : jd cX5_lineNow 121 (.bipush 116) 2 123 := ⟨by decide +kernel, rfl⟩
theorem dd_X5_lineNow_123 : jd cX5_lineNow 123 (.iconst 0) 1 124 := ⟨by decide +kernel, rfl⟩
theorem dd_X5_lineNow_124 : jd cX5_lineNow 124 (.iconst 0) 1 125 := ⟨by decide +kernel, rfl⟩
theorem dd_X5_lineNow_125 : jd cX5_lineNow 125 (.iconst 0) 1 126 := ⟨by decide +kernel, rfl⟩
theorem dd_X5_lineNow_126 : jd cX5_lineNow 126 (.invokevirtual 98) 3 129 := ⟨by decide +kernel, rfl⟩
theorem dd_X5_lineNow_132 : jd cX5_lineNow 132 (.iconst 4) 1 133 := ⟨by decide +kernel, rfl⟩
theorem dd_X5_lineNow_133 : jd cX5_lineNow 133 (.ireturn) 1 134 := ⟨by decide +kernel, rfl⟩
theorem dd_X5_lineNow_129 : jd cX5_lineNow 129 (.ifCond .eq 5) 3 132 := ⟨by decide +kernel, rfl⟩
theorem dd_X5_lineNow_117 : jd cX5_lineNow 117 (.ifCond .eq 17) 3 120 := ⟨by decide +kernel, rfl⟩
theorem dd_X5_lineNow_134 : jd cX5_lineNow 134 (.aload_n 0) 1 135 := ⟨by decide +kernel, rfl⟩
theorem dd_X5_lineNow_135 : jd cX5_lineNow 135 (.bipush 7) 2 137 := ⟨by decide +kernel, rfl⟩
theorem dd_X5_lineNow_137 : jd cX5_lineNow 137 (.bipush 99) 2 139 := ⟨by decide +kernel, rfl⟩
theorem dd_X5_lineNow_139 : jd cX5_lineNow 139 (.bipush 97) 2 141 := ⟨by decide +kernel, rfl⟩
theorem dd_X5_lineNow_141 : jd cX5_lineNow 141 (.bipush 109) 2 143 := ⟨by decide +kernel, rfl⟩
theorem dd_X5_lineNow_143 : jd cX5_lineNow 143 (.invokevirtual 94) 3 146 := ⟨by decide +kernel, rfl⟩
theorem dd_X5_lineNow_149 : jd cX5_lineNow 149 (.aload_n 0) 1 150 := ⟨by decide +kernel, rfl⟩
theorem dd_X5_lineNow_150 : jd cX5_lineNow 150 (.bipush 112) 2 152 := ⟨by decide +kernel, rfl⟩
theorem dd_X5_lineNow_152 : jd cX5_lineNow 152 (.bipush 104) 2 154 := ⟨by decide +kernel, rfl⟩
theorem dd_X5_lineNow_154 : jd cX5_lineNow 154 (.bipush 111) 2 156 := ⟨by decide +kernel, rfl⟩
theorem dd_X5_lineNow_156 : jd cX5_lineNow 156 (.bipush 114) 2 158 := ⟨by decide +kernel, rfl⟩
theorem dd_X5_lineNow_158 : jd cX5_lineNow 158 (.invokevirtual 98) 3 161 := ⟨by decide +kernel, rfl⟩
theorem dd_X5_lineNow_164 : jd cX5_lineNow 164 (.iconst 5) 1 165 := ⟨by decide +kernel, rfl⟩
theorem dd_X5_lineNow_165 : jd cX5_lineNow 165 (.ireturn) 1 166 := ⟨by decide +kernel, rfl⟩
theorem dd_X5_lineNow_161 : jd cX5_lineNow 161 (.ifCond .eq 5) 3 164 := ⟨by decide +kernel, rfl⟩
theorem dd_X5_lineNow_146 : jd cX5_lineNow 146 (.ifCond .eq 20) 3 149 := ⟨by decide +kernel, rfl⟩
theorem dd_X5_lineNow_166 : jd cX5_lineNow 166 (.aload_n 0) 1 167 := ⟨by decide +kernel, rfl⟩
theorem dd_X5_lineNow_167 : jd cX5_lineNow 167 (.iconst 4) 1 168 := ⟨by decide +kernel, rfl⟩
theorem dd_X5_lineNow_168 : jd cX5_lineNow 168 (.bipush 109) 2 170 := ⟨by decide +kernel, rfl⟩
theorem dd_X5_lineNow_170 : jd cX5_lineNow 170 (.bipush 111) 2 172 := ⟨by decide +kernel, rfl⟩
theorem dd_X5_lineNow_172 : jd cX5_lineNow 172 (.bipush 111) 2 174 := ⟨by decide +kernel, rfl⟩
theorem dd_X5_lineNow_174 : jd cX5_lineNow 174 (.invokevirtual 94) 3 177 := ⟨by decide +kernel, rfl⟩
theorem dd_X5_lineNow_180 : jd cX5_lineNow 180 (.aload_n 0) 1 181 := ⟨by decide +kernel, rfl⟩
theorem dd_X5_lineNow_181 : jd cX5_lineNow 181 (.bipush 110) 2 183 := ⟨by decide +kernel, rfl⟩
theorem dd_X5_lineNow_183 : jd cX5_lineNow 183 (.iconst 0) 1 184 := ⟨by decide +kernel, rfl⟩
theorem dd_X5_lineNow_184 : jd cX5_lineNow 184 (.iconst 0) 1 185 := ⟨by decide +kernel, rfl⟩
theorem dd_X5_lineNow_185 : jd cX5_lineNow 185 (.iconst 0) 1 186 := ⟨by decide +kernel, rfl⟩
theorem dd_X5_lineNow_186 : jd cX5_lineNow 186 (.invokevirtual 98) 3 189 := ⟨by decide +kernel, rfl⟩
theorem dd_X5_lineNow_192 : jd cX5_lineNow 192 (.bipush 6) 2 194 := ⟨by decide +kernel, rfl⟩
theorem dd_X5_lineNow_230 : jd cX5_lineNow 230 (.ireturn) 1 231 := ⟨by decide +kernel, rfl⟩
theorem dd_X5_lineNow_194 : jd cX5_lineNow 194 (.goto 36) 3 197 := ⟨by decide +kernel, rfl⟩
theorem dd_X5_lineNow_189 : jd cX5_lineNow 189 (.ifCond .eq 8) 3 192 := ⟨by decide +kernel, rfl⟩
theorem dd_X5_lineNow_177 : jd cX5_lineNow 177 (.ifCond .eq 20) 3 180 := ⟨by decide +kernel, rfl⟩
theorem dd_X5_lineNow_197 : jd cX5_lineNow 197 (.aload_n 0) 1 198 := ⟨by decide +kernel, rfl⟩
theorem dd_X5_lineNow_198 : jd cX5_lineNow 198 (.iconst 4) 1 199 := ⟨by decide +kernel, rfl⟩
theorem dd_X5_lineNow_199 : jd cX5_lineNow 199 (.bipush 114) 2 201 := ⟨by decide +kernel, rfl⟩
theorem dd_X5_lineNow_201 : jd cX5_lineNow 201 (.bipush 97) 2 203 := ⟨by decide +kernel, rfl⟩
theorem dd_X5_lineNow_203 : jd cX5_lineNow 203 (.bipush 116) 2 205 := ⟨by decide +kernel, rfl⟩
theorem dd_X5_lineNow_205 : jd cX5_lineNow 205 (.invokevirtual 94) 3 208 := ⟨by decide +kernel, rfl⟩
theorem dd_X5_lineNow_228 : jd cX5_lineNow 228 (.bipush (-4)) 2 230 := ⟨by decide +kernel, rfl⟩
theorem dd_X5_lineNow_211 : jd cX5_lineNow 211 (.aload_n 0) 1 212 := ⟨by decide +kernel, rfl⟩
theorem dd_X5_lineNow_212 : jd cX5_lineNow 212 (.bipush 101) 2 214 := ⟨by decide +kernel, rfl⟩
theorem dd_X5_lineNow_214 : jd cX5_lineNow 214 (.iconst 0) 1 215 := ⟨by decide +kernel, rfl⟩
theorem dd_X5_lineNow_215 : jd cX5_lineNow 215 (.iconst 0) 1 216 := ⟨by decide +kernel, rfl⟩
theorem dd_X5_lineNow_216 : jd cX5_lineNow 216 (.iconst 0) 1 217 := ⟨by decide +kernel, rfl⟩
theorem dd_X5_lineNow_217 : jd cX5_lineNow 217 (.invokevirtual 98) 3 220 := ⟨by decide +kernel, rfl⟩
theorem dd_X5_lineNow_223 : jd cX5_lineNow 223 (.bipush 7) 2 225 := ⟨by decide +kernel, rfl⟩
theorem dd_X5_lineNow_225 : jd cX5_lineNow 225 (.goto 5) 3 228 := ⟨by decide +kernel, rfl⟩
theorem dd_X5_lineNow_220 : jd cX5_lineNow 220 (.ifCond .eq 8) 3 223 := ⟨by decide +kernel, rfl⟩
theorem dd_X5_lineNow_208 : jd cX5_lineNow 208 (.ifCond .eq 20) 3 211 := ⟨by decide +kernel, rfl⟩
theorem dd_X5_lineNow_104 : jd cX5_lineNow 104 (.iconst 3) 1 105 := ⟨by decide +kernel, rfl⟩
theorem dd_X5_lineNow_105 : jd cX5_lineNow 105 (.ireturn) 1 106 := ⟨by decide +kernel, rfl⟩
theorem dd_X5_lineNow_101 : jd cX5_lineNow 101 (.ifCond .eq 5) 3 104 := ⟨by decide +kernel, rfl⟩
theorem m_X5_lineNow : jmV yX5_lineNow cX5_lineNow 1 (some .int) 0 := ⟨⟨(jj_m (w := Cond.code yX5_lineNow cX5_lineNow 1 (some .int)) (List.mem_of_getElem? (i := 921) (by decide +kernel)) rfl), (jj_m (w := Cond.initialized yX5_lineNow.cls) (List.mem_of_getElem? (i := 69) (by decide +kernel)) rfl), ⟨by decide, by decide⟩, by decide +kernel⟩, (jj_m (w := Cond.instanceMethod yX5_lineNow) (List.mem_of_getElem? (i := 920) (by decide +kernel)) rfl), (jj_m (w := Cond.selects yX5_lineNow.cls yX5_lineNow yX5_lineNow) (List.mem_of_getElem? (i := 20) (by decide +kernel)) rfl)⟩
def fX5_lineNow  (S : M2) : Option (Int32) :=
  (fX5_is (5 : Int32) (112 : Int32) (108 : Int32) (97 : Int32) S).bind fun r1 =>
  jn (α := Option (Int32)) (β := Unit) (fun j2 =>
    if r1 = 0 then
      j2 ()
    else
      (fX5_ends (105 : Int32) (110 : Int32) (0 : Int32) (0 : Int32) S).bind fun r3 =>
      if r3 = 0 then
        j2 ()
      else
        some (0 : Int32)) (fun _ => 
    (fX5_is (5 : Int32) (112 : Int32) (105 : Int32) (99 : Int32) S).bind fun r7 =>
    jn (α := Option (Int32)) (β := Unit) (fun j8 =>
      if r7 = 0 then
        j8 ()
      else
        (fX5_ends (107 : Int32) (121 : Int32) (0 : Int32) (0 : Int32) S).bind fun r9 =>
        if r9 = 0 then
          j8 ()
        else
          some (1 : Int32)) (fun _ => 
      (fX5_is (7 : Int32) (103 : Int32) (108 : Int32) (117 : Int32) S).bind fun r13 =>
      jn (α := Option (Int32)) (β := Unit) (fun j14 =>
        if r13 = 0 then
          j14 ()
        else
          (fX5_ends (116 : Int32) (116 : Int32) (111 : Int32) (110 : Int32) S).bind fun r15 =>
          if r15 = 0 then
            j14 ()
          else
            some (2 : Int32)) (fun _ => 
        (fX5_is (3 : Int32) (102 : Int32) (97 : Int32) (116 : Int32) S).bind fun r19 =>
        if r19 = 0 then
          (fX5_is (4 : Int32) (98 : Int32) (111 : Int32) (108 : Int32) S).bind fun r20 =>
          jn (α := Option (Int32)) (β := Unit) (fun j21 =>
            if r20 = 0 then
              j21 ()
            else
              (fX5_ends (116 : Int32) (0 : Int32) (0 : Int32) (0 : Int32) S).bind fun r22 =>
              if r22 = 0 then
                j21 ()
              else
                some (4 : Int32)) (fun _ => 
            (fX5_is (7 : Int32) (99 : Int32) (97 : Int32) (109 : Int32) S).bind fun r26 =>
            jn (α := Option (Int32)) (β := Unit) (fun j27 =>
              if r26 = 0 then
                j27 ()
              else
                (fX5_ends (112 : Int32) (104 : Int32) (111 : Int32) (114 : Int32) S).bind fun r28 =>
                if r28 = 0 then
                  j27 ()
                else
                  some (5 : Int32)) (fun _ => 
              (fX5_is (4 : Int32) (109 : Int32) (111 : Int32) (111 : Int32) S).bind fun r32 =>
              jn (α := Option (Int32)) (β := Unit) (fun j33 =>
                if r32 = 0 then
                  j33 ()
                else
                  (fX5_ends (110 : Int32) (0 : Int32) (0 : Int32) (0 : Int32) S).bind fun r34 =>
                  if r34 = 0 then
                    j33 ()
                  else
                    some (6 : Int32)) (fun _ => 
                (fX5_is (4 : Int32) (114 : Int32) (97 : Int32) (116 : Int32) S).bind fun r38 =>
                if r38 = 0 then
                  some (-4 : Int32)
                else
                  (fX5_ends (101 : Int32) (0 : Int32) (0 : Int32) (0 : Int32) S).bind fun r39 =>
                  if r39 = 0 then
                    some (-4 : Int32)
                  else
                    some (7 : Int32))))
        else
          some (3 : Int32))))

set_option maxHeartbeats 4000000 in
set_option maxRecDepth 100000 in
theorem tX5_lineNow (l : Launch) {V : JV M2} {b : Nat} {a : Nat → Nat} (hv : vX5 V b a) (S : M2)  : JC l V yX5_lineNow cX5_lineNow 1 (some .int) jj_i 2 [.ref b] S ((fX5_lineNow  S).map (fun r => (r, S))) := by
  refine jj_of (by decide) (Nat.le_of_ble_eq_true rfl) (fun E hlE hE => ?_)
  unfold fX5_lineNow
  refine J_sub (L' := [(0, .ref b)]) [0] rfl ?_
  refine J_aload_n hE dd_X5_lineNow_0 0 rfl rfl ?_
  refine J_iconst hE (v := (5 : Int32)) dd_X5_lineNow_1 (by decide) ?_
  refine J_bipush hE (v := (112 : Int32)) dd_X5_lineNow_2 (by decide) ?_
  refine J_bipush hE (v := (108 : Int32)) dd_X5_lineNow_4 (by decide) ?_
  refine J_bipush hE (v := (97 : Int32)) dd_X5_lineNow_6 (by decide) ?_
  refine J_invVri hE (As := [.int (5 : Int32), .int (112 : Int32), .int (108 : Int32), .int (97 : Int32)]) (st := []) (tX5_is E.2.1 hv S (5 : Int32) (112 : Int32) (108 : Int32) (97 : Int32)) (hv.ob _) m_X5_is rfl ml_RX5_94 (Nat.le_of_ble_eq_true rfl) (Nat.le_of_ble_eq_true rfl) rfl (Nat.le_of_ble_eq_true rfl) dd_X5_lineNow_8 (fun r1 => ?_)
  refine J_jn (m := 29) (Lf := fun _ => [(0, .ref b)]) (sf := fun _ => []) (Xf := fun _ => S) (fun _ => ?_) (fun hj2 => ?_)
  · show J V E _ _ 29 [(0, .ref b)] [] S
    refine J_aload_n hE dd_X5_lineNow_29 0 rfl rfl ?_
    refine J_iconst hE (v := (5 : Int32)) dd_X5_lineNow_30 (by decide) ?_
    refine J_bipush hE (v := (112 : Int32)) dd_X5_lineNow_31 (by decide) ?_
    refine J_bipush hE (v := (105 : Int32)) dd_X5_lineNow_33 (by decide) ?_
    refine J_bipush hE (v := (99 : Int32)) dd_X5_lineNow_35 (by decide) ?_
    refine J_invVri hE (As := [.int (5 : Int32), .int (112 : Int32), .int (105 : Int32), .int (99 : Int32)]) (st := []) (tX5_is E.2.1 hv S (5 : Int32) (112 : Int32) (105 : Int32) (99 : Int32)) (hv.ob _) m_X5_is rfl ml_RX5_94 (Nat.le_of_ble_eq_true rfl) (Nat.le_of_ble_eq_true rfl) rfl (Nat.le_of_ble_eq_true rfl) dd_X5_lineNow_37 (fun r7 => ?_)
    refine J_jn (m := 58) (Lf := fun _ => [(0, .ref b)]) (sf := fun _ => []) (Xf := fun _ => S) (fun _ => ?_) (fun hj8 => ?_)
    · show J V E _ _ 58 [(0, .ref b)] [] S
      refine J_aload_n hE dd_X5_lineNow_58 0 rfl rfl ?_
      refine J_bipush hE (v := (7 : Int32)) dd_X5_lineNow_59 (by decide) ?_
      refine J_bipush hE (v := (103 : Int32)) dd_X5_lineNow_61 (by decide) ?_
      refine J_bipush hE (v := (108 : Int32)) dd_X5_lineNow_63 (by decide) ?_
      refine J_bipush hE (v := (117 : Int32)) dd_X5_lineNow_65 (by decide) ?_
      refine J_invVri hE (As := [.int (7 : Int32), .int (103 : Int32), .int (108 : Int32), .int (117 : Int32)]) (st := []) (tX5_is E.2.1 hv S (7 : Int32) (103 : Int32) (108 : Int32) (117 : Int32)) (hv.ob _) m_X5_is rfl ml_RX5_94 (Nat.le_of_ble_eq_true rfl) (Nat.le_of_ble_eq_true rfl) rfl (Nat.le_of_ble_eq_true rfl) dd_X5_lineNow_67 (fun r13 => ?_)
      refine J_jn (m := 90) (Lf := fun _ => [(0, .ref b)]) (sf := fun _ => []) (Xf := fun _ => S) (fun _ => ?_) (fun hj14 => ?_)
      · show J V E _ _ 90 [(0, .ref b)] [] S
        refine J_aload_n hE dd_X5_lineNow_90 0 rfl rfl ?_
        refine J_iconst hE (v := (3 : Int32)) dd_X5_lineNow_91 (by decide) ?_
        refine J_bipush hE (v := (102 : Int32)) dd_X5_lineNow_92 (by decide) ?_
        refine J_bipush hE (v := (97 : Int32)) dd_X5_lineNow_94 (by decide) ?_
        refine J_bipush hE (v := (116 : Int32)) dd_X5_lineNow_96 (by decide) ?_
        refine J_invVri hE (As := [.int (3 : Int32), .int (102 : Int32), .int (97 : Int32), .int (116 : Int32)]) (st := []) (tX5_is E.2.1 hv S (3 : Int32) (102 : Int32) (97 : Int32) (116 : Int32)) (hv.ob _) m_X5_is rfl ml_RX5_94 (Nat.le_of_ble_eq_true rfl) (Nat.le_of_ble_eq_true rfl) rfl (Nat.le_of_ble_eq_true rfl) dd_X5_lineNow_98 (fun r19 => ?_)
        refine J_if_eq hE (tgt := 106) dd_X5_lineNow_101 (by decide) (fun c42 => ?_) (fun c42 => ?_)
        · refine J_aload_n hE dd_X5_lineNow_106 0 rfl rfl ?_
          refine J_iconst hE (v := (4 : Int32)) dd_X5_lineNow_107 (by decide) ?_
          refine J_bipush hE (v := (98 : Int32)) dd_X5_lineNow_108 (by decide) ?_
          refine J_bipush hE (v := (111 : Int32)) dd_X5_lineNow_110 (by decide) ?_
          refine J_bipush hE (v := (108 : Int32)) dd_X5_lineNow_112 (by decide) ?_
          refine J_invVri hE (As := [.int (4 : Int32), .int (98 : Int32), .int (111 : Int32), .int (108 : Int32)]) (st := []) (tX5_is E.2.1 hv S (4 : Int32) (98 : Int32) (111 : Int32) (108 : Int32)) (hv.ob _) m_X5_is rfl ml_RX5_94 (Nat.le_of_ble_eq_true rfl) (Nat.le_of_ble_eq_true rfl) rfl (Nat.le_of_ble_eq_true rfl) dd_X5_lineNow_114 (fun r20 => ?_)
          refine J_jn (m := 134) (Lf := fun _ => [(0, .ref b)]) (sf := fun _ => []) (Xf := fun _ => S) (fun _ => ?_) (fun hj21 => ?_)
          · show J V E _ _ 134 [(0, .ref b)] [] S
            refine J_aload_n hE dd_X5_lineNow_134 0 rfl rfl ?_
            refine J_bipush hE (v := (7 : Int32)) dd_X5_lineNow_135 (by decide) ?_
            refine J_bipush hE (v := (99 : Int32)) dd_X5_lineNow_137 (by decide) ?_
            refine J_bipush hE (v := (97 : Int32)) dd_X5_lineNow_139 (by decide) ?_
            refine J_bipush hE (v := (109 : Int32)) dd_X5_lineNow_141 (by decide) ?_
            refine J_invVri hE (As := [.int (7 : Int32), .int (99 : Int32), .int (97 : Int32), .int (109 : Int32)]) (st := []) (tX5_is E.2.1 hv S (7 : Int32) (99 : Int32) (97 : Int32) (109 : Int32)) (hv.ob _) m_X5_is rfl ml_RX5_94 (Nat.le_of_ble_eq_true rfl) (Nat.le_of_ble_eq_true rfl) rfl (Nat.le_of_ble_eq_true rfl) dd_X5_lineNow_143 (fun r26 => ?_)
            refine J_jn (m := 166) (Lf := fun _ => [(0, .ref b)]) (sf := fun _ => []) (Xf := fun _ => S) (fun _ => ?_) (fun hj27 => ?_)
            · show J V E _ _ 166 [(0, .ref b)] [] S
              refine J_aload_n hE dd_X5_lineNow_166 0 rfl rfl ?_
              refine J_iconst hE (v := (4 : Int32)) dd_X5_lineNow_167 (by decide) ?_
              refine J_bipush hE (v := (109 : Int32)) dd_X5_lineNow_168 (by decide) ?_
              refine J_bipush hE (v := (111 : Int32)) dd_X5_lineNow_170 (by decide) ?_
              refine J_bipush hE (v := (111 : Int32)) dd_X5_lineNow_172 (by decide) ?_
              refine J_invVri hE (As := [.int (4 : Int32), .int (109 : Int32), .int (111 : Int32), .int (111 : Int32)]) (st := []) (tX5_is E.2.1 hv S (4 : Int32) (109 : Int32) (111 : Int32) (111 : Int32)) (hv.ob _) m_X5_is rfl ml_RX5_94 (Nat.le_of_ble_eq_true rfl) (Nat.le_of_ble_eq_true rfl) rfl (Nat.le_of_ble_eq_true rfl) dd_X5_lineNow_174 (fun r32 => ?_)
              refine J_jn (m := 197) (Lf := fun _ => [(0, .ref b)]) (sf := fun _ => []) (Xf := fun _ => S) (fun _ => ?_) (fun hj33 => ?_)
              · show J V E _ _ 197 [(0, .ref b)] [] S
                refine J_aload_n hE dd_X5_lineNow_197 0 rfl rfl ?_
                refine J_iconst hE (v := (4 : Int32)) dd_X5_lineNow_198 (by decide) ?_
                refine J_bipush hE (v := (114 : Int32)) dd_X5_lineNow_199 (by decide) ?_
                refine J_bipush hE (v := (97 : Int32)) dd_X5_lineNow_201 (by decide) ?_
                refine J_bipush hE (v := (116 : Int32)) dd_X5_lineNow_203 (by decide) ?_
                refine J_invVri hE (As := [.int (4 : Int32), .int (114 : Int32), .int (97 : Int32), .int (116 : Int32)]) (st := []) (tX5_is E.2.1 hv S (4 : Int32) (114 : Int32) (97 : Int32) (116 : Int32)) (hv.ob _) m_X5_is rfl ml_RX5_94 (Nat.le_of_ble_eq_true rfl) (Nat.le_of_ble_eq_true rfl) rfl (Nat.le_of_ble_eq_true rfl) dd_X5_lineNow_205 (fun r38 => ?_)
                refine J_if_eq hE (tgt := 228) dd_X5_lineNow_208 (by decide) (fun c41 => ?_) (fun c41 => ?_)
                · refine J_bipush hE (v := (-4 : Int32)) dd_X5_lineNow_228 (by decide) ?_
                  exact J_iret hE dd_X5_lineNow_230 rfl rfl
                · refine J_aload_n hE dd_X5_lineNow_211 0 rfl rfl ?_
                  refine J_bipush hE (v := (101 : Int32)) dd_X5_lineNow_212 (by decide) ?_
                  refine J_iconst hE (v := (0 : Int32)) dd_X5_lineNow_214 (by decide) ?_
                  refine J_iconst hE (v := (0 : Int32)) dd_X5_lineNow_215 (by decide) ?_
                  refine J_iconst hE (v := (0 : Int32)) dd_X5_lineNow_216 (by decide) ?_
                  refine J_invVri hE (As := [.int (101 : Int32), .int (0 : Int32), .int (0 : Int32), .int (0 : Int32)]) (st := []) (tX5_ends E.2.1 hv S (101 : Int32) (0 : Int32) (0 : Int32) (0 : Int32)) (hv.ob _) m_X5_ends rfl ml_RX5_98 (Nat.le_of_ble_eq_true rfl) (Nat.le_of_ble_eq_true rfl) rfl (Nat.le_of_ble_eq_true rfl) dd_X5_lineNow_217 (fun r39 => ?_)
                  refine J_if_eq hE (tgt := 228) dd_X5_lineNow_220 (by decide) (fun c40 => ?_) (fun c40 => ?_)
                  · refine J_bipush hE (v := (-4 : Int32)) dd_X5_lineNow_228 (by decide) ?_
                    exact J_iret hE dd_X5_lineNow_230 rfl rfl
                  · refine J_bipush hE (v := (7 : Int32)) dd_X5_lineNow_223 (by decide) ?_
                    refine J_goto hE (tgt := 230) dd_X5_lineNow_225 (by decide) ?_
                    exact J_iret hE dd_X5_lineNow_230 rfl rfl
              · refine J_if_eq hE (tgt := 197) dd_X5_lineNow_177 (by decide) (fun c36 => ?_) (fun c36 => ?_)
                · refine J_sub [0] rfl ?_
                  exact hj33 ()
                · refine J_aload_n hE dd_X5_lineNow_180 0 rfl rfl ?_
                  refine J_bipush hE (v := (110 : Int32)) dd_X5_lineNow_181 (by decide) ?_
                  refine J_iconst hE (v := (0 : Int32)) dd_X5_lineNow_183 (by decide) ?_
                  refine J_iconst hE (v := (0 : Int32)) dd_X5_lineNow_184 (by decide) ?_
                  refine J_iconst hE (v := (0 : Int32)) dd_X5_lineNow_185 (by decide) ?_
                  refine J_invVri hE (As := [.int (110 : Int32), .int (0 : Int32), .int (0 : Int32), .int (0 : Int32)]) (st := []) (tX5_ends E.2.1 hv S (110 : Int32) (0 : Int32) (0 : Int32) (0 : Int32)) (hv.ob _) m_X5_ends rfl ml_RX5_98 (Nat.le_of_ble_eq_true rfl) (Nat.le_of_ble_eq_true rfl) rfl (Nat.le_of_ble_eq_true rfl) dd_X5_lineNow_186 (fun r34 => ?_)
                  refine J_if_eq hE (tgt := 197) dd_X5_lineNow_189 (by decide) (fun c35 => ?_) (fun c35 => ?_)
                  · refine J_sub [0] rfl ?_
                    exact hj33 ()
                  · refine J_bipush hE (v := (6 : Int32)) dd_X5_lineNow_192 (by decide) ?_
                    refine J_goto hE (tgt := 230) dd_X5_lineNow_194 (by decide) ?_
                    exact J_iret hE dd_X5_lineNow_230 rfl rfl
            · refine J_if_eq hE (tgt := 166) dd_X5_lineNow_146 (by decide) (fun c30 => ?_) (fun c30 => ?_)
              · refine J_sub [0] rfl ?_
                exact hj27 ()
              · refine J_aload_n hE dd_X5_lineNow_149 0 rfl rfl ?_
                refine J_bipush hE (v := (112 : Int32)) dd_X5_lineNow_150 (by decide) ?_
                refine J_bipush hE (v := (104 : Int32)) dd_X5_lineNow_152 (by decide) ?_
                refine J_bipush hE (v := (111 : Int32)) dd_X5_lineNow_154 (by decide) ?_
                refine J_bipush hE (v := (114 : Int32)) dd_X5_lineNow_156 (by decide) ?_
                refine J_invVri hE (As := [.int (112 : Int32), .int (104 : Int32), .int (111 : Int32), .int (114 : Int32)]) (st := []) (tX5_ends E.2.1 hv S (112 : Int32) (104 : Int32) (111 : Int32) (114 : Int32)) (hv.ob _) m_X5_ends rfl ml_RX5_98 (Nat.le_of_ble_eq_true rfl) (Nat.le_of_ble_eq_true rfl) rfl (Nat.le_of_ble_eq_true rfl) dd_X5_lineNow_158 (fun r28 => ?_)
                refine J_if_eq hE (tgt := 166) dd_X5_lineNow_161 (by decide) (fun c29 => ?_) (fun c29 => ?_)
                · refine J_sub [0] rfl ?_
                  exact hj27 ()
                · refine J_iconst hE (v := (5 : Int32)) dd_X5_lineNow_164 (by decide) ?_
                  exact J_iret hE dd_X5_lineNow_165 rfl rfl
          · refine J_if_eq hE (tgt := 134) dd_X5_lineNow_117 (by decide) (fun c24 => ?_) (fun c24 => ?_)
            · refine J_sub [0] rfl ?_
              exact hj21 ()
            · refine J_aload_n hE dd_X5_lineNow_120 0 rfl rfl ?_
              refine J_bipush hE (v := (116 : Int32)) dd_X5_lineNow_121 (by decide) ?_
              refine J_iconst hE (v := (0 : Int32)) dd_X5_lineNow_123 (by decide) ?_
              refine J_iconst hE (v := (0 : Int32)) dd_X5_lineNow_124 (by decide) ?_
              refine J_iconst hE (v := (0 : Int32)) dd_X5_lineNow_125 (by decide) ?_
              refine J_invVri hE (As := [.int (116 : Int32), .int (0 : Int32), .int (0 : Int32), .int (0 : Int32)]) (st := []) (tX5_ends E.2.1 hv S (116 : Int32) (0 : Int32) (0 : Int32) (0 : Int32)) (hv.ob _) m_X5_ends rfl ml_RX5_98 (Nat.le_of_ble_eq_true rfl) (Nat.le_of_ble_eq_true rfl) rfl (Nat.le_of_ble_eq_true rfl) dd_X5_lineNow_126 (fun r22 => ?_)
              refine J_if_eq hE (tgt := 134) dd_X5_lineNow_129 (by decide) (fun c23 => ?_) (fun c23 => ?_)
              · refine J_sub [0] rfl ?_
                exact hj21 ()
              · refine J_iconst hE (v := (4 : Int32)) dd_X5_lineNow_132 (by decide) ?_
                exact J_iret hE dd_X5_lineNow_133 rfl rfl
        · refine J_iconst hE (v := (3 : Int32)) dd_X5_lineNow_104 (by decide) ?_
          exact J_iret hE dd_X5_lineNow_105 rfl rfl
      · refine J_if_eq hE (tgt := 90) dd_X5_lineNow_70 (by decide) (fun c17 => ?_) (fun c17 => ?_)
        · refine J_sub [0] rfl ?_
          exact hj14 ()
        · refine J_aload_n hE dd_X5_lineNow_73 0 rfl rfl ?_
          refine J_bipush hE (v := (116 : Int32)) dd_X5_lineNow_74 (by decide) ?_
          refine J_bipush hE (v := (116 : Int32)) dd_X5_lineNow_76 (by decide) ?_
          refine J_bipush hE (v := (111 : Int32)) dd_X5_lineNow_78 (by decide) ?_
          refine J_bipush hE (v := (110 : Int32)) dd_X5_lineNow_80 (by decide) ?_
          refine J_invVri hE (As := [.int (116 : Int32), .int (116 : Int32), .int (111 : Int32), .int (110 : Int32)]) (st := []) (tX5_ends E.2.1 hv S (116 : Int32) (116 : Int32) (111 : Int32) (110 : Int32)) (hv.ob _) m_X5_ends rfl ml_RX5_98 (Nat.le_of_ble_eq_true rfl) (Nat.le_of_ble_eq_true rfl) rfl (Nat.le_of_ble_eq_true rfl) dd_X5_lineNow_82 (fun r15 => ?_)
          refine J_if_eq hE (tgt := 90) dd_X5_lineNow_85 (by decide) (fun c16 => ?_) (fun c16 => ?_)
          · refine J_sub [0] rfl ?_
            exact hj14 ()
          · refine J_iconst hE (v := (2 : Int32)) dd_X5_lineNow_88 (by decide) ?_
            exact J_iret hE dd_X5_lineNow_89 rfl rfl
    · refine J_if_eq hE (tgt := 58) dd_X5_lineNow_40 (by decide) (fun c11 => ?_) (fun c11 => ?_)
      · refine J_sub [0] rfl ?_
        exact hj8 ()
      · refine J_aload_n hE dd_X5_lineNow_43 0 rfl rfl ?_
        refine J_bipush hE (v := (107 : Int32)) dd_X5_lineNow_44 (by decide) ?_
        refine J_bipush hE (v := (121 : Int32)) dd_X5_lineNow_46 (by decide) ?_
        refine J_iconst hE (v := (0 : Int32)) dd_X5_lineNow_48 (by decide) ?_
        refine J_iconst hE (v := (0 : Int32)) dd_X5_lineNow_49 (by decide) ?_
        refine J_invVri hE (As := [.int (107 : Int32), .int (121 : Int32), .int (0 : Int32), .int (0 : Int32)]) (st := []) (tX5_ends E.2.1 hv S (107 : Int32) (121 : Int32) (0 : Int32) (0 : Int32)) (hv.ob _) m_X5_ends rfl ml_RX5_98 (Nat.le_of_ble_eq_true rfl) (Nat.le_of_ble_eq_true rfl) rfl (Nat.le_of_ble_eq_true rfl) dd_X5_lineNow_50 (fun r9 => ?_)
        refine J_if_eq hE (tgt := 58) dd_X5_lineNow_53 (by decide) (fun c10 => ?_) (fun c10 => ?_)
        · refine J_sub [0] rfl ?_
          exact hj8 ()
        · refine J_iconst hE (v := (1 : Int32)) dd_X5_lineNow_56 (by decide) ?_
          exact J_iret hE dd_X5_lineNow_57 rfl rfl
  · refine J_if_eq hE (tgt := 29) dd_X5_lineNow_11 (by decide) (fun c5 => ?_) (fun c5 => ?_)
    · refine J_sub [0] rfl ?_
      exact hj2 ()
    · refine J_aload_n hE dd_X5_lineNow_14 0 rfl rfl ?_
      refine J_bipush hE (v := (105 : Int32)) dd_X5_lineNow_15 (by decide) ?_
      refine J_bipush hE (v := (110 : Int32)) dd_X5_lineNow_17 (by decide) ?_
      refine J_iconst hE (v := (0 : Int32)) dd_X5_lineNow_19 (by decide) ?_
      refine J_iconst hE (v := (0 : Int32)) dd_X5_lineNow_20 (by decide) ?_
      refine J_invVri hE (As := [.int (105 : Int32), .int (110 : Int32), .int (0 : Int32), .int (0 : Int32)]) (st := []) (tX5_ends E.2.1 hv S (105 : Int32) (110 : Int32) (0 : Int32) (0 : Int32)) (hv.ob _) m_X5_ends rfl ml_RX5_98 (Nat.le_of_ble_eq_true rfl) (Nat.le_of_ble_eq_true rfl) rfl (Nat.le_of_ble_eq_true rfl) dd_X5_lineNow_21 (fun r3 => ?_)
      refine J_if_eq hE (tgt := 29) dd_X5_lineNow_24 (by decide) (fun c4 => ?_) (fun c4 => ?_)
      · refine J_sub [0] rfl ?_
        exact hj2 ()
      · refine J_iconst hE (v := (0 : Int32)) dd_X5_lineNow_27 (by decide) ?_
        exact J_iret hE dd_X5_lineNow_28 rfl rfl
theorem dd_X5_next_0 : jd cX5_next 0 (.aload_n 0) 1 1 := ⟨by decide +kernel, rfl⟩
theorem dd_X5_next_1 : jd cX5_next 1 (.getfield 78) 3 4 := ⟨by decide +kernel, rfl⟩
theorem dd_X5_next_8 : jd cX5_next 8 (.aload_n 0) 1 9 := ⟨by decide +kernel, rfl⟩
theorem dd_X5_next_9 : jd cX5_next 9 (.aload_n 0) 1 10 := ⟨by decide +kernel, rfl⟩
theorem dd_X5_next_10 : jd cX5_next 10 (.getfield 87) 3 13 := ⟨by decide +kernel, rfl⟩
theorem dd_X5_next_13 : jd cX5_next 13 (.invokevirtual 90) 3 16 := ⟨by decide +kernel, rfl⟩
theorem dd_X5_next_16 : jd cX5_next 16 (.bipush 32) 2 18 := ⟨by decide +kernel, rfl⟩
theorem dd_X5_next_21 : jd cX5_next 21 (.aload_n 0) 1 22 := ⟨by decide +kernel, rfl⟩
theorem dd_X5_next_22 : jd cX5_next 22 (.dup) 1 23 := ⟨by decide +kernel, rfl⟩
theorem dd_X5_next_23 : jd cX5_next 23 (.getfield 87) 3 26 := ⟨by decide +kernel, rfl⟩
theorem dd_X5_next_26 : jd cX5_next 26 (.iconst 1) 1 27 := ⟨by decide +kernel, rfl⟩
theorem dd_X5_next_27 : jd cX5_next 27 (.iadd) 1 28 := ⟨by decide +kernel, rfl⟩
theorem dd_X5_next_28 : jd cX5_next 28 (.putfield 87) 3 31 := ⟨by decide +kernel, rfl⟩
theorem dd_X5_next_31 : jd cX5_next 31 (.goto (-23)) 3 34 := ⟨by decide +kernel, rfl⟩
theorem dd_X5_next_18 : jd cX5_next 18 (.if_icmp .ne 16) 3 21 := ⟨by decide +kernel, rfl⟩
theorem dd_X5_next_34 : jd cX5_next 34 (.aload_n 0) 1 35 := ⟨by decide +kernel, rfl⟩
theorem dd_X5_next_35 : jd cX5_next 35 (.aload_n 0) 1 36 := ⟨by decide +kernel, rfl⟩
theorem dd_X5_next_36 : jd cX5_next 36 (.getfield 87) 3 39 := ⟨by decide +kernel, rfl⟩
theorem dd_X5_next_39 : jd cX5_next 39 (.putfield 81) 3 42 := ⟨by decide +kernel, rfl⟩
theorem dd_X5_next_42 : jd cX5_next 42 (.aload_n 0) 1 43 := ⟨by decide +kernel, rfl⟩
theorem dd_X5_next_43 : jd cX5_next 43 (.aload_n 0) 1 44 := ⟨by decide +kernel, rfl⟩
theorem dd_X5_next_44 : jd cX5_next 44 (.getfield 87) 3 47 := ⟨by decide +kernel, rfl⟩
theorem dd_X5_next_47 : jd cX5_next 47 (.invokevirtual 90) 3 50 := ⟨by decide +kernel, rfl⟩
theorem dd_X5_next_50 : jd cX5_next 50 (.istore_n 1) 1 51 := ⟨by decide +kernel, rfl⟩
theorem dd_X5_next_51 : jd cX5_next 51 (.iload_n 1) 1 52 := ⟨by decide +kernel, rfl⟩
theorem dd_X5_next_63 : jd cX5_next 63 (.iload_n 1) 1 64 := ⟨by decide +kernel, rfl⟩
theorem dd_X5_next_64 : jd cX5_next 64 (.i2l) 1 65 := ⟨by decide +kernel, rfl⟩
theorem cl_RX5_104 : (Cond.constantLong "MothCustomsModel" 104 (97 : Int64) : Cond) ∈ jj_tb := jj_m (List.mem_of_getElem? (i := 906) (by decide +kernel)) rfl
theorem dd_X5_next_65 : jd cX5_next 65 (.ldc2_w 104) 3 68 := ⟨by decide +kernel, rfl⟩
theorem cl_RX5_106 : (Cond.constantLong "MothCustomsModel" 106 (122 : Int64) : Cond) ∈ jj_tb := jj_m (List.mem_of_getElem? (i := 907) (by decide +kernel)) rfl
theorem dd_X5_next_68 : jd cX5_next 68 (.ldc2_w 106) 3 71 := ⟨by decide +kernel, rfl⟩
theorem dd_X5_next_71 : jd cX5_next 71 (.invokestatic 71) 3 74 := ⟨by decide +kernel, rfl⟩
theorem dd_X5_next_116 : jd cX5_next 116 (.iload_n 1) 1 117 := ⟨by decide +kernel, rfl⟩
theorem dd_X5_next_117 : jd cX5_next 117 (.i2l) 1 118 := ⟨by decide +kernel, rfl⟩
theorem cl_RX5_108 : (Cond.constantLong "MothCustomsModel" 108 (48 : Int64) : Cond) ∈ jj_tb := jj_m (List.mem_of_getElem? (i := 908) (by decide +kernel)) rfl
theorem dd_X5_next_118 : jd cX5_next 118 (.ldc2_w 108) 3 121 := ⟨by decide +kernel, rfl⟩
theorem cl_RX5_110 : (Cond.constantLong "MothCustomsModel" 110 (57 : Int64) : Cond) ∈ jj_tb := jj_m (List.mem_of_getElem? (i := 909) (by decide +kernel)) rfl
theorem dd_X5_next_121 : jd cX5_next 121 (.ldc2_w 110) 3 124 := ⟨by decide +kernel, rfl⟩
theorem dd_X5_next_124 : jd cX5_next 124 (.invokestatic 71) 3 127 := ⟨by decide +kernel, rfl⟩
theorem dd_X5_next_243 : jd cX5_next 243 (.aload_n 0) 1 244 := ⟨by decide +kernel, rfl⟩
theorem dd_X5_next_244 : jd cX5_next 244 (.iconst 3) 1 245 := ⟨by decide +kernel, rfl⟩
theorem fl_RX5_101 : (Cond.fieldLink "MothCustomsModel" 101 "MothCustomsModel" "sort" "I" : Cond) ∈ jj_tb := jj_m (List.mem_of_getElem? (i := 820) (by decide +kernel)) rfl
theorem dd_X5_next_245 : jd cX5_next 245 (.putfield 101) 3 248 := ⟨by decide +kernel, rfl⟩
theorem dd_X5_next_248 : jd cX5_next 248 (.aload_n 0) 1 249 := ⟨by decide +kernel, rfl⟩
theorem dd_X5_next_249 : jd cX5_next 249 (.iload_n 1) 1 250 := ⟨by decide +kernel, rfl⟩
theorem dd_X5_next_250 : jd cX5_next 250 (.bipush 59) 2 252 := ⟨by decide +kernel, rfl⟩
theorem dd_X5_next_259 : jd cX5_next 259 (.iconst 0) 1 260 := ⟨by decide +kernel, rfl⟩
theorem dd_X5_next_255 : jd cX5_next 255 (.iconst 1) 1 256 := ⟨by decide +kernel, rfl⟩
theorem dd_X5_next_256 : jd cX5_next 256 (.goto 4) 3 259 := ⟨by decide +kernel, rfl⟩
theorem dd_X5_next_252 : jd cX5_next 252 (.if_icmp .ne 7) 3 255 := ⟨by decide +kernel, rfl⟩
theorem dd_X5_next_260 : jd cX5_next 260 (.iconst 1) 1 261 := ⟨by decide +kernel, rfl⟩
theorem ml_RX5_115 : (Cond.methodLink "MothCustomsModel" 115 yX5_needs : Cond) ∈ jj_tb := jj_m (List.mem_of_getElem? (i := 910) (by decide +kernel)) rfl
theorem dd_X5_next_261 : jd cX5_next 261 (.invokevirtual 115) 3 264 := ⟨by decide +kernel, rfl⟩
theorem dd_X5_next_264 : jd cX5_next 264 (.aload_n 0) 1 265 := ⟨by decide +kernel, rfl⟩
theorem dd_X5_next_265 : jd cX5_next 265 (.dup) 1 266 := ⟨by decide +kernel, rfl⟩
theorem dd_X5_next_266 : jd cX5_next 266 (.getfield 87) 3 269 := ⟨by decide +kernel, rfl⟩
theorem dd_X5_next_269 : jd cX5_next 269 (.iconst 1) 1 270 := ⟨by decide +kernel, rfl⟩
theorem dd_X5_next_270 : jd cX5_next 270 (.iadd) 1 271 := ⟨by decide +kernel, rfl⟩
theorem dd_X5_next_271 : jd cX5_next 271 (.putfield 87) 3 274 := ⟨by decide +kernel, rfl⟩
theorem dd_X5_next_274 : jd cX5_next 274 (.return_) 1 275 := ⟨by decide +kernel, rfl⟩
theorem dd_X5_next_130 : jd cX5_next 130 (.aload_n 0) 1 131 := ⟨by decide +kernel, rfl⟩
theorem dd_X5_next_131 : jd cX5_next 131 (.iconst 2) 1 132 := ⟨by decide +kernel, rfl⟩
theorem dd_X5_next_132 : jd cX5_next 132 (.putfield 101) 3 135 := ⟨by decide +kernel, rfl⟩
theorem dd_X5_next_135 : jd cX5_next 135 (.aload_n 0) 1 136 := ⟨by decide +kernel, rfl⟩
theorem dd_X5_next_136 : jd cX5_next 136 (.iconst 0) 1 137 := ⟨by decide +kernel, rfl⟩
theorem fl_RX5_112 : (Cond.fieldLink "MothCustomsModel" 112 "MothCustomsModel" "value" "I" : Cond) ∈ jj_tb := jj_m (List.mem_of_getElem? (i := 821) (by decide +kernel)) rfl
theorem dd_X5_next_137 : jd cX5_next 137 (.putfield 112) 3 140 := ⟨by decide +kernel, rfl⟩
theorem dd_X5_next_140 : jd cX5_next 140 (.aload_n 0) 1 141 := ⟨by decide +kernel, rfl⟩
theorem dd_X5_next_141 : jd cX5_next 141 (.aload_n 0) 1 142 := ⟨by decide +kernel, rfl⟩
theorem dd_X5_next_142 : jd cX5_next 142 (.getfield 87) 3 145 := ⟨by decide +kernel, rfl⟩
theorem dd_X5_next_145 : jd cX5_next 145 (.invokevirtual 90) 3 148 := ⟨by decide +kernel, rfl⟩
theorem dd_X5_next_148 : jd cX5_next 148 (.i2l) 1 149 := ⟨by decide +kernel, rfl⟩
theorem dd_X5_next_149 : jd cX5_next 149 (.ldc2_w 108) 3 152 := ⟨by decide +kernel, rfl⟩
theorem dd_X5_next_152 : jd cX5_next 152 (.ldc2_w 110) 3 155 := ⟨by decide +kernel, rfl⟩
theorem dd_X5_next_155 : jd cX5_next 155 (.invokestatic 71) 3 158 := ⟨by decide +kernel, rfl⟩
theorem dd_X5_next_161 : jd cX5_next 161 (.aload_n 0) 1 162 := ⟨by decide +kernel, rfl⟩
theorem dd_X5_next_162 : jd cX5_next 162 (.aload_n 0) 1 163 := ⟨by decide +kernel, rfl⟩
theorem dd_X5_next_163 : jd cX5_next 163 (.getfield 87) 3 166 := ⟨by decide +kernel, rfl⟩
theorem dd_X5_next_166 : jd cX5_next 166 (.aload_n 0) 1 167 := ⟨by decide +kernel, rfl⟩
theorem dd_X5_next_167 : jd cX5_next 167 (.getfield 81) 3 170 := ⟨by decide +kernel, rfl⟩
theorem dd_X5_next_170 : jd cX5_next 170 (.isub) 1 171 := ⟨by decide +kernel, rfl⟩
theorem dd_X5_next_171 : jd cX5_next 171 (.iconst 2) 1 172 := ⟨by decide +kernel, rfl⟩
theorem dd_X5_next_197 : jd cX5_next 197 (.aload_n 0) 1 198 := ⟨by decide +kernel, rfl⟩
theorem dd_X5_next_198 : jd cX5_next 198 (.getfield 112) 3 201 := ⟨by decide +kernel, rfl⟩
theorem dd_X5_next_175 : jd cX5_next 175 (.bipush 10) 2 177 := ⟨by decide +kernel, rfl⟩
theorem dd_X5_next_177 : jd cX5_next 177 (.aload_n 0) 1 178 := ⟨by decide +kernel, rfl⟩
theorem dd_X5_next_178 : jd cX5_next 178 (.getfield 112) 3 181 := ⟨by decide +kernel, rfl⟩
theorem dd_X5_next_181 : jd cX5_next 181 (.imul) 1 182 := ⟨by decide +kernel, rfl⟩
theorem dd_X5_next_182 : jd cX5_next 182 (.aload_n 0) 1 183 := ⟨by decide +kernel, rfl⟩
theorem dd_X5_next_183 : jd cX5_next 183 (.aload_n 0) 1 184 := ⟨by decide +kernel, rfl⟩
theorem dd_X5_next_184 : jd cX5_next 184 (.getfield 87) 3 187 := ⟨by decide +kernel, rfl⟩
theorem dd_X5_next_187 : jd cX5_next 187 (.invokevirtual 90) 3 190 := ⟨by decide +kernel, rfl⟩
theorem dd_X5_next_190 : jd cX5_next 190 (.iadd) 1 191 := ⟨by decide +kernel, rfl⟩
theorem dd_X5_next_191 : jd cX5_next 191 (.bipush 48) 2 193 := ⟨by decide +kernel, rfl⟩
theorem dd_X5_next_193 : jd cX5_next 193 (.isub) 1 194 := ⟨by decide +kernel, rfl⟩
theorem dd_X5_next_194 : jd cX5_next 194 (.goto 7) 3 197 := ⟨by decide +kernel, rfl⟩
theorem dd_X5_next_172 : jd cX5_next 172 (.if_icmp .ge 25) 3 175 := ⟨by decide +kernel, rfl⟩
theorem dd_X5_next_201 : jd cX5_next 201 (.putfield 112) 3 204 := ⟨by decide +kernel, rfl⟩
theorem dd_X5_next_204 : jd cX5_next 204 (.aload_n 0) 1 205 := ⟨by decide +kernel, rfl⟩
theorem dd_X5_next_205 : jd cX5_next 205 (.dup) 1 206 := ⟨by decide +kernel, rfl⟩
theorem dd_X5_next_206 : jd cX5_next 206 (.getfield 87) 3 209 := ⟨by decide +kernel, rfl⟩
theorem dd_X5_next_209 : jd cX5_next 209 (.iconst 1) 1 210 := ⟨by decide +kernel, rfl⟩
theorem dd_X5_next_210 : jd cX5_next 210 (.iadd) 1 211 := ⟨by decide +kernel, rfl⟩
theorem dd_X5_next_211 : jd cX5_next 211 (.putfield 87) 3 214 := ⟨by decide +kernel, rfl⟩
theorem dd_X5_next_214 : jd cX5_next 214 (.goto (-74)) 3 217 := ⟨by decide +kernel, rfl⟩
theorem dd_X5_next_158 : jd cX5_next 158 (.ifCond .eq 59) 3 161 := ⟨by decide +kernel, rfl⟩
theorem dd_X5_next_217 : jd cX5_next 217 (.aload_n 0) 1 218 := ⟨by decide +kernel, rfl⟩
theorem dd_X5_next_218 : jd cX5_next 218 (.aload_n 0) 1 219 := ⟨by decide +kernel, rfl⟩
theorem dd_X5_next_219 : jd cX5_next 219 (.getfield 87) 3 222 := ⟨by decide +kernel, rfl⟩
theorem dd_X5_next_222 : jd cX5_next 222 (.aload_n 0) 1 223 := ⟨by decide +kernel, rfl⟩
theorem dd_X5_next_223 : jd cX5_next 223 (.getfield 81) 3 226 := ⟨by decide +kernel, rfl⟩
theorem dd_X5_next_226 : jd cX5_next 226 (.isub) 1 227 := ⟨by decide +kernel, rfl⟩
theorem dd_X5_next_227 : jd cX5_next 227 (.iconst 2) 1 228 := ⟨by decide +kernel, rfl⟩
theorem dd_X5_next_235 : jd cX5_next 235 (.iconst 0) 1 236 := ⟨by decide +kernel, rfl⟩
theorem dd_X5_next_236 : jd cX5_next 236 (.iconst 1) 1 237 := ⟨by decide +kernel, rfl⟩
theorem dd_X5_next_237 : jd cX5_next 237 (.invokevirtual 115) 3 240 := ⟨by decide +kernel, rfl⟩
theorem dd_X5_next_240 : jd cX5_next 240 (.goto 34) 3 243 := ⟨by decide +kernel, rfl⟩
theorem dd_X5_next_231 : jd cX5_next 231 (.iconst 1) 1 232 := ⟨by decide +kernel, rfl⟩
theorem dd_X5_next_232 : jd cX5_next 232 (.goto 4) 3 235 := ⟨by decide +kernel, rfl⟩
theorem dd_X5_next_228 : jd cX5_next 228 (.if_icmp .gt 7) 3 231 := ⟨by decide +kernel, rfl⟩
theorem dd_X5_next_127 : jd cX5_next 127 (.ifCond .eq 116) 3 130 := ⟨by decide +kernel, rfl⟩
theorem dd_X5_next_77 : jd cX5_next 77 (.aload_n 0) 1 78 := ⟨by decide +kernel, rfl⟩
theorem dd_X5_next_78 : jd cX5_next 78 (.iconst 1) 1 79 := ⟨by decide +kernel, rfl⟩
theorem dd_X5_next_79 : jd cX5_next 79 (.putfield 101) 3 82 := ⟨by decide +kernel, rfl⟩
theorem dd_X5_next_82 : jd cX5_next 82 (.aload_n 0) 1 83 := ⟨by decide +kernel, rfl⟩
theorem dd_X5_next_83 : jd cX5_next 83 (.aload_n 0) 1 84 := ⟨by decide +kernel, rfl⟩
theorem dd_X5_next_84 : jd cX5_next 84 (.getfield 87) 3 87 := ⟨by decide +kernel, rfl⟩
theorem dd_X5_next_87 : jd cX5_next 87 (.invokevirtual 90) 3 90 := ⟨by decide +kernel, rfl⟩
theorem dd_X5_next_90 : jd cX5_next 90 (.i2l) 1 91 := ⟨by decide +kernel, rfl⟩
theorem dd_X5_next_91 : jd cX5_next 91 (.ldc2_w 104) 3 94 := ⟨by decide +kernel, rfl⟩
theorem dd_X5_next_94 : jd cX5_next 94 (.ldc2_w 106) 3 97 := ⟨by decide +kernel, rfl⟩
theorem dd_X5_next_97 : jd cX5_next 97 (.invokestatic 71) 3 100 := ⟨by decide +kernel, rfl⟩
theorem dd_X5_next_103 : jd cX5_next 103 (.aload_n 0) 1 104 := ⟨by decide +kernel, rfl⟩
theorem dd_X5_next_104 : jd cX5_next 104 (.dup) 1 105 := ⟨by decide +kernel, rfl⟩
theorem dd_X5_next_105 : jd cX5_next 105 (.getfield 87) 3 108 := ⟨by decide +kernel, rfl⟩
theorem dd_X5_next_108 : jd cX5_next 108 (.iconst 1) 1 109 := ⟨by decide +kernel, rfl⟩
theorem dd_X5_next_109 : jd cX5_next 109 (.iadd) 1 110 := ⟨by decide +kernel, rfl⟩
theorem dd_X5_next_110 : jd cX5_next 110 (.putfield 87) 3 113 := ⟨by decide +kernel, rfl⟩
theorem dd_X5_next_113 : jd cX5_next 113 (.goto (-31)) 3 116 := ⟨by decide +kernel, rfl⟩
theorem dd_X5_next_100 : jd cX5_next 100 (.ifCond .eq 174) 3 103 := ⟨by decide +kernel, rfl⟩
theorem dd_X5_next_74 : jd cX5_next 74 (.ifCond .eq 42) 3 77 := ⟨by decide +kernel, rfl⟩
theorem dd_X5_next_55 : jd cX5_next 55 (.aload_n 0) 1 56 := ⟨by decide +kernel, rfl⟩
theorem dd_X5_next_56 : jd cX5_next 56 (.iconst 0) 1 57 := ⟨by decide +kernel, rfl⟩
theorem dd_X5_next_57 : jd cX5_next 57 (.putfield 101) 3 60 := ⟨by decide +kernel, rfl⟩
theorem dd_X5_next_60 : jd cX5_next 60 (.goto 214) 3 63 := ⟨by decide +kernel, rfl⟩
theorem dd_X5_next_52 : jd cX5_next 52 (.ifCond .ge 11) 3 55 := ⟨by decide +kernel, rfl⟩
theorem dd_X5_next_7 : jd cX5_next 7 (.return_) 1 8 := ⟨by decide +kernel, rfl⟩
theorem dd_X5_next_4 : jd cX5_next 4 (.ifCond .le 4) 3 7 := ⟨by decide +kernel, rfl⟩
theorem m_X5_next : jmV yX5_next cX5_next 2 none 0 := ⟨⟨(jj_m (w := Cond.code yX5_next cX5_next 2 none) (List.mem_of_getElem? (i := 901) (by decide +kernel)) rfl), (jj_m (w := Cond.initialized yX5_next.cls) (List.mem_of_getElem? (i := 69) (by decide +kernel)) rfl), ⟨by decide, by decide⟩, by decide +kernel⟩, (jj_m (w := Cond.instanceMethod yX5_next) (List.mem_of_getElem? (i := 900) (by decide +kernel)) rfl), (jj_m (w := Cond.selects yX5_next.cls yX5_next yX5_next) (List.mem_of_getElem? (i := 16) (by decide +kernel)) rfl)⟩
def fX5_next_L8  (k34 : M2 → Option (M2)) : Nat → M2 → Option (M2)
  | 0, _ => none
  | n_ + 1, S1 =>
    (fX5_byteAt (S1 13 0) S1).bind fun r2 =>
    if r2 = (32 : Int32) then
      lt (va_up S1 13 (fun _ => ((S1 13 0) + (1 : Int32)))) fun S3 =>
      fX5_next_L8 k34 n_ S3
    else
      k34 S1

def fX5_next_L140  (k217 : M2 → Option (M2)) : Nat → M2 → Option (M2)
  | 0, _ => none
  | n_ + 1, S19 =>
    (fX5_byteAt (S19 13 0) S19).bind fun r20 =>
    (fX5_in (r20.toInt64) (48 : Int64) (57 : Int64)).bind fun r21 =>
    if r21 = 0 then
      k217 S19
    else
      jn (α := Option (M2)) (β := Int32) (fun j22 =>
        if (2 : Int32) ≤ ((S19 13 0) - (S19 14 0)) then
          j22 (S19 16 0)
        else
          (fX5_byteAt (S19 13 0) S19).bind fun r23 =>
          j22 ((((10 : Int32) * (S19 16 0)) + r23) - (48 : Int32))) (fun p25 => 
        lt (va_up S19 16 (fun _ => p25)) fun S26 =>
        lt (va_up S26 13 (fun _ => ((S26 13 0) + (1 : Int32)))) fun S27 =>
        fX5_next_L140 k217 n_ S27)

def fX5_next_L82  (k274 : M2 → Option (M2)) : Nat → M2 → Option (M2)
  | 0, _ => none
  | n_ + 1, S37 =>
    (fX5_byteAt (S37 13 0) S37).bind fun r38 =>
    (fX5_in (r38.toInt64) (97 : Int64) (122 : Int64)).bind fun r39 =>
    if r39 = 0 then
      k274 S37
    else
      lt (va_up S37 13 (fun _ => ((S37 13 0) + (1 : Int32)))) fun S40 =>
      fX5_next_L82 k274 n_ S40

def fX5_next  (S : M2) : Option (M2) :=
  if (S 17 0) ≤ 0 then
    fX5_next_L8 
      (fun p5 =>
        lt (va_up p5 14 (fun _ => (p5 13 0))) fun S6 =>
        (fX5_byteAt (S6 13 0) S6).bind fun r7 =>
        if 0 ≤ r7 then
          (fX5_in (r7.toInt64) (97 : Int64) (122 : Int64)).bind fun r8 =>
          if r8 = 0 then
            (fX5_in (r7.toInt64) (48 : Int64) (57 : Int64)).bind fun r9 =>
            if r9 = 0 then
              lt (va_up S6 15 (fun _ => (3 : Int32))) fun S10 =>
              jn (α := Option (M2)) (β := Int32) (fun j11 =>
                if r7 = (59 : Int32) then
                  j11 (1 : Int32)
                else
                  j11 (0 : Int32)) (fun p13 => 
                (fX5_needs p13 (1 : Int32) S10).bind fun q14 =>
                lt (q14) fun S15 =>
                lt (va_up S15 13 (fun _ => ((S15 13 0) + (1 : Int32)))) fun S16 =>
                some S16)
            else
              lt (va_up S6 15 (fun _ => (2 : Int32))) fun S17 =>
              lt (va_up S17 16 (fun _ => (0 : Int32))) fun S18 =>
              fX5_next_L140 
                (fun p29 =>
                  if (2 : Int32) < ((p29 13 0) - (p29 14 0)) then
                    (fX5_needs (0 : Int32) (1 : Int32) p29).bind fun q30 =>
                    lt (q30) fun S31 =>
                    some S31
                  else
                    (fX5_needs (1 : Int32) (1 : Int32) p29).bind fun q32 =>
                    lt (q32) fun S33 =>
                    some S33)
                400 S18
          else
            lt (va_up S6 15 (fun _ => (1 : Int32))) fun S36 =>
            fX5_next_L82 
              (fun p42 =>
                some p42)
              400 S36
        else
          lt (va_up S6 15 (fun _ => (0 : Int32))) fun S44 =>
          some S44)
      400 S
  else
    some S

set_option maxHeartbeats 4000000 in
set_option maxRecDepth 100000 in
theorem tX5_next_L8 {V : JV M2} {b : Nat} {a : Nat → Nat} (hv : vX5 V b a)  {E : JE (M2) Unit} (hE : JOk V E cX5_next yX5_next.cls 2 1 none jj_v) {k34 : M2 → Option (M2)} (hk34 : ∀ p, J V E (fun q => ((), q)) (k34 p) 34 [(0, .ref b)] [] p) : ∀ (n_ : Nat) (S1 : M2), J V E (fun q => ((), q)) (fX5_next_L8 k34 n_ S1) 8 [(0, .ref b)] [] S1 := by
  intro n_
  induction n_ with
  | zero =>
    intros
    exact J_none
  | succ n_ ih =>
    intros S1
    rw [fX5_next_L8]
    refine J_aload_n hE dd_X5_next_8 0 rfl rfl ?_
    refine J_aload_n hE dd_X5_next_9 0 rfl rfl ?_
    refine J_get hE (hv.ob _) jc_X5 13 (by decide) fl_RX5_87 (v := .int (S1 13 0)) rfl dd_X5_next_10 ?_
    refine J_invVri hE (As := [.int (S1 13 0)]) (st := []) (tX5_byteAt E.2.1 hv S1 (S1 13 0)) (hv.ob _) m_X5_byteAt rfl ml_RX5_90 (Nat.le_of_ble_eq_true rfl) (Nat.le_of_ble_eq_true rfl) rfl (Nat.le_of_ble_eq_true rfl) dd_X5_next_13 (fun r2 => ?_)
    refine J_bipush hE (v := (32 : Int32)) dd_X5_next_16 (by decide) ?_
    refine J_icmp_ne hE (tgt := 34) dd_X5_next_18 (by decide) (fun c4 => ?_) (fun c4 => ?_)
    · refine J_sub [0] rfl ?_
      exact hk34 S1
    · refine J_aload_n hE dd_X5_next_21 0 rfl rfl ?_
      refine J_dup hE dd_X5_next_22 rfl ?_
      refine J_get hE (hv.ob _) jc_X5 13 (by decide) fl_RX5_87 (v := .int (S1 13 0)) rfl dd_X5_next_23 ?_
      refine J_iconst hE (v := (1 : Int32)) dd_X5_next_26 (by decide) ?_
      refine J_iadd hE dd_X5_next_27 ?_
      refine J_put hE hv jc_X5 13 (by decide) (by decide) fl_RX5_87 rfl rfl rfl (Nat.le_of_ble_eq_true rfl) dd_X5_next_28 ?_
      refine J_letS (fun S3 => ?_)
      refine J_goto hE (tgt := 8) dd_X5_next_31 (by decide) ?_
      refine J_sub [0] rfl ?_
      exact ih S3
set_option maxHeartbeats 4000000 in
set_option maxRecDepth 100000 in
theorem tX5_next_L140 {V : JV M2} {b : Nat} {a : Nat → Nat} (hv : vX5 V b a)  {E : JE (M2) Unit} (hE : JOk V E cX5_next yX5_next.cls 2 1 none jj_v) {k217 : M2 → Option (M2)} (hk217 : ∀ p, J V E (fun q => ((), q)) (k217 p) 217 [(0, .ref b)] [] p) : ∀ (n_ : Nat) (S19 : M2), J V E (fun q => ((), q)) (fX5_next_L140 k217 n_ S19) 140 [(0, .ref b)] [] S19 := by
  intro n_
  induction n_ with
  | zero =>
    intros
    exact J_none
  | succ n_ ih =>
    intros S19
    rw [fX5_next_L140]
    refine J_aload_n hE dd_X5_next_140 0 rfl rfl ?_
    refine J_aload_n hE dd_X5_next_141 0 rfl rfl ?_
    refine J_get hE (hv.ob _) jc_X5 13 (by decide) fl_RX5_87 (v := .int (S19 13 0)) rfl dd_X5_next_142 ?_
    refine J_invVri hE (As := [.int (S19 13 0)]) (st := []) (tX5_byteAt E.2.1 hv S19 (S19 13 0)) (hv.ob _) m_X5_byteAt rfl ml_RX5_90 (Nat.le_of_ble_eq_true rfl) (Nat.le_of_ble_eq_true rfl) rfl (Nat.le_of_ble_eq_true rfl) dd_X5_next_145 (fun r20 => ?_)
    refine J_i2l hE dd_X5_next_148 ?_
    refine J_ldc2 hE (v := (48 : Int64)) dd_X5_next_149 cl_RX5_108 ?_
    refine J_ldc2 hE (v := (57 : Int64)) dd_X5_next_152 cl_RX5_110 ?_
    refine J_invSri hE (As := [.long (r20.toInt64), .long (48 : Int64), .long (57 : Int64)]) (st := []) (tX5_in E.2.1 V S19 (r20.toInt64) (48 : Int64) (57 : Int64)) m_X5_in s_X5_in rfl ml_RX5_71 (Nat.le_of_ble_eq_true rfl) (Nat.le_of_ble_eq_true rfl) rfl (Nat.le_of_ble_eq_true rfl) dd_X5_next_155 (fun r21 => ?_)
    refine J_if_eq hE (tgt := 217) dd_X5_next_158 (by decide) (fun c28 => ?_) (fun c28 => ?_)
    · refine J_sub [0] rfl ?_
      exact hk217 S19
    · refine J_aload_n hE dd_X5_next_161 0 rfl rfl ?_
      refine J_aload_n hE dd_X5_next_162 0 rfl rfl ?_
      refine J_get hE (hv.ob _) jc_X5 13 (by decide) fl_RX5_87 (v := .int (S19 13 0)) rfl dd_X5_next_163 ?_
      refine J_aload_n hE dd_X5_next_166 0 rfl rfl ?_
      refine J_get hE (hv.ob _) jc_X5 14 (by decide) fl_RX5_81 (v := .int (S19 14 0)) rfl dd_X5_next_167 ?_
      refine J_isub hE dd_X5_next_170 ?_
      refine J_iconst hE (v := (2 : Int32)) dd_X5_next_171 (by decide) ?_
      refine J_jn (m := 201) (Lf := fun p25 => [(0, .ref b)]) (sf := fun p25 => [.int p25, .ref b]) (Xf := fun p25 => S19) (fun p25 => ?_) (fun hj22 => ?_)
      · show J V E _ _ 201 [(0, .ref b)] [.int p25, .ref b] S19
        refine J_put hE hv jc_X5 16 (by decide) (by decide) fl_RX5_112 rfl rfl rfl (Nat.le_of_ble_eq_true rfl) dd_X5_next_201 ?_
        refine J_letS (fun S26 => ?_)
        refine J_aload_n hE dd_X5_next_204 0 rfl rfl ?_
        refine J_dup hE dd_X5_next_205 rfl ?_
        refine J_get hE (hv.ob _) jc_X5 13 (by decide) fl_RX5_87 (v := .int (S26 13 0)) rfl dd_X5_next_206 ?_
        refine J_iconst hE (v := (1 : Int32)) dd_X5_next_209 (by decide) ?_
        refine J_iadd hE dd_X5_next_210 ?_
        refine J_put hE hv jc_X5 13 (by decide) (by decide) fl_RX5_87 rfl rfl rfl (Nat.le_of_ble_eq_true rfl) dd_X5_next_211 ?_
        refine J_letS (fun S27 => ?_)
        refine J_goto hE (tgt := 140) dd_X5_next_214 (by decide) ?_
        refine J_sub [0] rfl ?_
        exact ih S27
      · refine J_icmp_ge hE (tgt := 197) dd_X5_next_172 (by decide) (fun c24 => ?_) (fun c24 => ?_)
        · refine J_aload_n hE dd_X5_next_197 0 rfl rfl ?_
          refine J_get hE (hv.ob _) jc_X5 16 (by decide) fl_RX5_112 (v := .int (S19 16 0)) rfl dd_X5_next_198 ?_
          refine J_sub [0] rfl ?_
          exact hj22 (S19 16 0)
        · refine J_bipush hE (v := (10 : Int32)) dd_X5_next_175 (by decide) ?_
          refine J_aload_n hE dd_X5_next_177 0 rfl rfl ?_
          refine J_get hE (hv.ob _) jc_X5 16 (by decide) fl_RX5_112 (v := .int (S19 16 0)) rfl dd_X5_next_178 ?_
          refine J_imul hE dd_X5_next_181 ?_
          refine J_aload_n hE dd_X5_next_182 0 rfl rfl ?_
          refine J_aload_n hE dd_X5_next_183 0 rfl rfl ?_
          refine J_get hE (hv.ob _) jc_X5 13 (by decide) fl_RX5_87 (v := .int (S19 13 0)) rfl dd_X5_next_184 ?_
          refine J_invVri hE (As := [.int (S19 13 0)]) (st := [.int ((10 : Int32) * (S19 16 0)), .ref b]) (tX5_byteAt E.2.1 hv S19 (S19 13 0)) (hv.ob _) m_X5_byteAt rfl ml_RX5_90 (Nat.le_of_ble_eq_true rfl) (Nat.le_of_ble_eq_true rfl) rfl (Nat.le_of_ble_eq_true rfl) dd_X5_next_187 (fun r23 => ?_)
          refine J_iadd hE dd_X5_next_190 ?_
          refine J_bipush hE (v := (48 : Int32)) dd_X5_next_191 (by decide) ?_
          refine J_isub hE dd_X5_next_193 ?_
          refine J_goto hE (tgt := 201) dd_X5_next_194 (by decide) ?_
          refine J_sub [0] rfl ?_
          exact hj22 ((((10 : Int32) * (S19 16 0)) + r23) - (48 : Int32))
set_option maxHeartbeats 4000000 in
set_option maxRecDepth 100000 in
theorem tX5_next_L82 {V : JV M2} {b : Nat} {a : Nat → Nat} (hv : vX5 V b a)  {E : JE (M2) Unit} (hE : JOk V E cX5_next yX5_next.cls 2 1 none jj_v) {k274 : M2 → Option (M2)} (hk274 : ∀ p, J V E (fun q => ((), q)) (k274 p) 274 [] [] p) : ∀ (n_ : Nat) (S37 : M2), J V E (fun q => ((), q)) (fX5_next_L82 k274 n_ S37) 82 [(0, .ref b)] [] S37 := by
  intro n_
  induction n_ with
  | zero =>
    intros
    exact J_none
  | succ n_ ih =>
    intros S37
    rw [fX5_next_L82]
    refine J_aload_n hE dd_X5_next_82 0 rfl rfl ?_
    refine J_aload_n hE dd_X5_next_83 0 rfl rfl ?_
    refine J_get hE (hv.ob _) jc_X5 13 (by decide) fl_RX5_87 (v := .int (S37 13 0)) rfl dd_X5_next_84 ?_
    refine J_invVri hE (As := [.int (S37 13 0)]) (st := []) (tX5_byteAt E.2.1 hv S37 (S37 13 0)) (hv.ob _) m_X5_byteAt rfl ml_RX5_90 (Nat.le_of_ble_eq_true rfl) (Nat.le_of_ble_eq_true rfl) rfl (Nat.le_of_ble_eq_true rfl) dd_X5_next_87 (fun r38 => ?_)
    refine J_i2l hE dd_X5_next_90 ?_
    refine J_ldc2 hE (v := (97 : Int64)) dd_X5_next_91 cl_RX5_104 ?_
    refine J_ldc2 hE (v := (122 : Int64)) dd_X5_next_94 cl_RX5_106 ?_
    refine J_invSri hE (As := [.long (r38.toInt64), .long (97 : Int64), .long (122 : Int64)]) (st := []) (tX5_in E.2.1 V S37 (r38.toInt64) (97 : Int64) (122 : Int64)) m_X5_in s_X5_in rfl ml_RX5_71 (Nat.le_of_ble_eq_true rfl) (Nat.le_of_ble_eq_true rfl) rfl (Nat.le_of_ble_eq_true rfl) dd_X5_next_97 (fun r39 => ?_)
    refine J_if_eq hE (tgt := 274) dd_X5_next_100 (by decide) (fun c41 => ?_) (fun c41 => ?_)
    · refine J_sub [] rfl ?_
      exact hk274 S37
    · refine J_aload_n hE dd_X5_next_103 0 rfl rfl ?_
      refine J_dup hE dd_X5_next_104 rfl ?_
      refine J_get hE (hv.ob _) jc_X5 13 (by decide) fl_RX5_87 (v := .int (S37 13 0)) rfl dd_X5_next_105 ?_
      refine J_iconst hE (v := (1 : Int32)) dd_X5_next_108 (by decide) ?_
      refine J_iadd hE dd_X5_next_109 ?_
      refine J_put hE hv jc_X5 13 (by decide) (by decide) fl_RX5_87 rfl rfl rfl (Nat.le_of_ble_eq_true rfl) dd_X5_next_110 ?_
      refine J_letS (fun S40 => ?_)
      refine J_goto hE (tgt := 82) dd_X5_next_113 (by decide) ?_
      refine J_sub [0] rfl ?_
      exact ih S40
set_option maxHeartbeats 4000000 in
set_option maxRecDepth 100000 in
theorem tX5_next (l : Launch) {V : JV M2} {b : Nat} {a : Nat → Nat} (hv : vX5 V b a) (S : M2)  : JC l V yX5_next cX5_next 2 none jj_v 1 [.ref b] S ((fX5_next  S).map (fun q => ((), q))) := by
  refine jj_of (by decide) (Nat.le_of_ble_eq_true rfl) (fun E hlE hE => ?_)
  unfold fX5_next
  refine J_sub (L' := [(0, .ref b)]) [0] rfl ?_
  refine J_aload_n hE dd_X5_next_0 0 rfl rfl ?_
  refine J_get hE (hv.ob _) jc_X5 17 (by decide) fl_RX5_78 (v := .int (S 17 0)) rfl dd_X5_next_1 ?_
  refine J_if_le hE (tgt := 8) dd_X5_next_4 (by decide) (fun c46 => ?_) (fun c46 => ?_)
  · refine J_sub [0] rfl ?_
    refine tX5_next_L8 hv  hE (fun p5 => ?_) 400 S
    show J V E _ _ 34 [(0, .ref b)] [] p5
    refine J_aload_n hE dd_X5_next_34 0 rfl rfl ?_
    refine J_aload_n hE dd_X5_next_35 0 rfl rfl ?_
    refine J_get hE (hv.ob _) jc_X5 13 (by decide) fl_RX5_87 (v := .int (p5 13 0)) rfl dd_X5_next_36 ?_
    refine J_put hE hv jc_X5 14 (by decide) (by decide) fl_RX5_81 rfl rfl rfl (Nat.le_of_ble_eq_true rfl) dd_X5_next_39 ?_
    refine J_letS (fun S6 => ?_)
    refine J_aload_n hE dd_X5_next_42 0 rfl rfl ?_
    refine J_aload_n hE dd_X5_next_43 0 rfl rfl ?_
    refine J_get hE (hv.ob _) jc_X5 13 (by decide) fl_RX5_87 (v := .int (S6 13 0)) rfl dd_X5_next_44 ?_
    refine J_invVri hE (As := [.int (S6 13 0)]) (st := []) (tX5_byteAt E.2.1 hv S6 (S6 13 0)) (hv.ob _) m_X5_byteAt rfl ml_RX5_90 (Nat.le_of_ble_eq_true rfl) (Nat.le_of_ble_eq_true rfl) rfl (Nat.le_of_ble_eq_true rfl) dd_X5_next_47 (fun r7 => ?_)
    refine J_istore_n hE (L' := [(1, .int r7), (0, .ref b)]) dd_X5_next_50 (Nat.le_of_ble_eq_true rfl) rfl rfl ?_
    refine J_iload_n hE dd_X5_next_51 0 rfl rfl ?_
    refine J_if_ge hE (tgt := 63) dd_X5_next_52 (by decide) (fun c45 => ?_) (fun c45 => ?_)
    · refine J_iload_n hE dd_X5_next_63 0 rfl rfl ?_
      refine J_i2l hE dd_X5_next_64 ?_
      refine J_ldc2 hE (v := (97 : Int64)) dd_X5_next_65 cl_RX5_104 ?_
      refine J_ldc2 hE (v := (122 : Int64)) dd_X5_next_68 cl_RX5_106 ?_
      refine J_invSri hE (As := [.long (r7.toInt64), .long (97 : Int64), .long (122 : Int64)]) (st := []) (tX5_in E.2.1 V S6 (r7.toInt64) (97 : Int64) (122 : Int64)) m_X5_in s_X5_in rfl ml_RX5_71 (Nat.le_of_ble_eq_true rfl) (Nat.le_of_ble_eq_true rfl) rfl (Nat.le_of_ble_eq_true rfl) dd_X5_next_71 (fun r8 => ?_)
      refine J_if_eq hE (tgt := 116) dd_X5_next_74 (by decide) (fun c43 => ?_) (fun c43 => ?_)
      · refine J_iload_n hE dd_X5_next_116 0 rfl rfl ?_
        refine J_i2l hE dd_X5_next_117 ?_
        refine J_ldc2 hE (v := (48 : Int64)) dd_X5_next_118 cl_RX5_108 ?_
        refine J_ldc2 hE (v := (57 : Int64)) dd_X5_next_121 cl_RX5_110 ?_
        refine J_invSri hE (As := [.long (r7.toInt64), .long (48 : Int64), .long (57 : Int64)]) (st := []) (tX5_in E.2.1 V S6 (r7.toInt64) (48 : Int64) (57 : Int64)) m_X5_in s_X5_in rfl ml_RX5_71 (Nat.le_of_ble_eq_true rfl) (Nat.le_of_ble_eq_true rfl) rfl (Nat.le_of_ble_eq_true rfl) dd_X5_next_124 (fun r9 => ?_)
        refine J_if_eq hE (tgt := 243) dd_X5_next_127 (by decide) (fun c35 => ?_) (fun c35 => ?_)
        · refine J_aload_n hE dd_X5_next_243 1 rfl rfl ?_
          refine J_iconst hE (v := (3 : Int32)) dd_X5_next_244 (by decide) ?_
          refine J_put hE hv jc_X5 15 (by decide) (by decide) fl_RX5_101 rfl rfl rfl (Nat.le_of_ble_eq_true rfl) dd_X5_next_245 ?_
          refine J_letS (fun S10 => ?_)
          refine J_aload_n hE dd_X5_next_248 1 rfl rfl ?_
          refine J_iload_n hE dd_X5_next_249 0 rfl rfl ?_
          refine J_bipush hE (v := (59 : Int32)) dd_X5_next_250 (by decide) ?_
          refine J_jn (m := 260) (Lf := fun p13 => [(0, .ref b)]) (sf := fun p13 => [.int p13, .ref b]) (Xf := fun p13 => S10) (fun p13 => ?_) (fun hj11 => ?_)
          · show J V E _ _ 260 [(0, .ref b)] [.int p13, .ref b] S10
            refine J_iconst hE (v := (1 : Int32)) dd_X5_next_260 (by decide) ?_
            refine J_invVwv hE (e := fun x => x) (As := [.int p13, .int (1 : Int32)]) (st := []) (tX5_needs E.2.1 hv S10 p13 (1 : Int32)) (hv.ob _) m_X5_needs rfl ml_RX5_115 (Nat.le_of_ble_eq_true rfl) (Nat.le_of_ble_eq_true rfl) rfl (Nat.le_of_ble_eq_true rfl) dd_X5_next_261 (fun q14 => ?_)
            refine J_letS (fun S15 => ?_)
            refine J_aload_n hE dd_X5_next_264 0 rfl rfl ?_
            refine J_dup hE dd_X5_next_265 rfl ?_
            refine J_get hE (hv.ob _) jc_X5 13 (by decide) fl_RX5_87 (v := .int (S15 13 0)) rfl dd_X5_next_266 ?_
            refine J_iconst hE (v := (1 : Int32)) dd_X5_next_269 (by decide) ?_
            refine J_iadd hE dd_X5_next_270 ?_
            refine J_put hE hv jc_X5 13 (by decide) (by decide) fl_RX5_87 rfl rfl rfl (Nat.le_of_ble_eq_true rfl) dd_X5_next_271 ?_
            refine J_letS (fun S16 => ?_)
            exact J_vret hE dd_X5_next_274 rfl rfl
          · refine J_icmp_ne hE (tgt := 259) dd_X5_next_252 (by decide) (fun c12 => ?_) (fun c12 => ?_)
            · refine J_iconst hE (v := (0 : Int32)) dd_X5_next_259 (by decide) ?_
              refine J_sub [1] rfl ?_
              exact hj11 (0 : Int32)
            · refine J_iconst hE (v := (1 : Int32)) dd_X5_next_255 (by decide) ?_
              refine J_goto hE (tgt := 260) dd_X5_next_256 (by decide) ?_
              refine J_sub [1] rfl ?_
              exact hj11 (1 : Int32)
        · refine J_aload_n hE dd_X5_next_130 1 rfl rfl ?_
          refine J_iconst hE (v := (2 : Int32)) dd_X5_next_131 (by decide) ?_
          refine J_put hE hv jc_X5 15 (by decide) (by decide) fl_RX5_101 rfl rfl rfl (Nat.le_of_ble_eq_true rfl) dd_X5_next_132 ?_
          refine J_letS (fun S17 => ?_)
          refine J_aload_n hE dd_X5_next_135 1 rfl rfl ?_
          refine J_iconst hE (v := (0 : Int32)) dd_X5_next_136 (by decide) ?_
          refine J_put hE hv jc_X5 16 (by decide) (by decide) fl_RX5_112 rfl rfl rfl (Nat.le_of_ble_eq_true rfl) dd_X5_next_137 ?_
          refine J_letS (fun S18 => ?_)
          refine J_sub [1] rfl ?_
          refine tX5_next_L140 hv  hE (fun p29 => ?_) 400 S18
          show J V E _ _ 217 [(0, .ref b)] [] p29
          refine J_aload_n hE dd_X5_next_217 0 rfl rfl ?_
          refine J_aload_n hE dd_X5_next_218 0 rfl rfl ?_
          refine J_get hE (hv.ob _) jc_X5 13 (by decide) fl_RX5_87 (v := .int (p29 13 0)) rfl dd_X5_next_219 ?_
          refine J_aload_n hE dd_X5_next_222 0 rfl rfl ?_
          refine J_get hE (hv.ob _) jc_X5 14 (by decide) fl_RX5_81 (v := .int (p29 14 0)) rfl dd_X5_next_223 ?_
          refine J_isub hE dd_X5_next_226 ?_
          refine J_iconst hE (v := (2 : Int32)) dd_X5_next_227 (by decide) ?_
          refine J_icmp_gt hE (tgt := 235) dd_X5_next_228 (by decide) (fun c34 => ?_) (fun c34 => ?_)
          · refine J_iconst hE (v := (0 : Int32)) dd_X5_next_235 (by decide) ?_
            refine J_iconst hE (v := (1 : Int32)) dd_X5_next_236 (by decide) ?_
            refine J_invVwv hE (e := fun x => x) (As := [.int (0 : Int32), .int (1 : Int32)]) (st := []) (tX5_needs E.2.1 hv p29 (0 : Int32) (1 : Int32)) (hv.ob _) m_X5_needs rfl ml_RX5_115 (Nat.le_of_ble_eq_true rfl) (Nat.le_of_ble_eq_true rfl) rfl (Nat.le_of_ble_eq_true rfl) dd_X5_next_237 (fun q30 => ?_)
            refine J_letS (fun S31 => ?_)
            refine J_goto hE (tgt := 274) dd_X5_next_240 (by decide) ?_
            exact J_vret hE dd_X5_next_274 rfl rfl
          · refine J_iconst hE (v := (1 : Int32)) dd_X5_next_231 (by decide) ?_
            refine J_goto hE (tgt := 236) dd_X5_next_232 (by decide) ?_
            refine J_iconst hE (v := (1 : Int32)) dd_X5_next_236 (by decide) ?_
            refine J_invVwv hE (e := fun x => x) (As := [.int (1 : Int32), .int (1 : Int32)]) (st := []) (tX5_needs E.2.1 hv p29 (1 : Int32) (1 : Int32)) (hv.ob _) m_X5_needs rfl ml_RX5_115 (Nat.le_of_ble_eq_true rfl) (Nat.le_of_ble_eq_true rfl) rfl (Nat.le_of_ble_eq_true rfl) dd_X5_next_237 (fun q32 => ?_)
            refine J_letS (fun S33 => ?_)
            refine J_goto hE (tgt := 274) dd_X5_next_240 (by decide) ?_
            exact J_vret hE dd_X5_next_274 rfl rfl
      · refine J_aload_n hE dd_X5_next_77 1 rfl rfl ?_
        refine J_iconst hE (v := (1 : Int32)) dd_X5_next_78 (by decide) ?_
        refine J_put hE hv jc_X5 15 (by decide) (by decide) fl_RX5_101 rfl rfl rfl (Nat.le_of_ble_eq_true rfl) dd_X5_next_79 ?_
        refine J_letS (fun S36 => ?_)
        refine J_sub [1] rfl ?_
        refine tX5_next_L82 hv  hE (fun p42 => ?_) 400 S36
        show J V E _ _ 274 [] [] p42
        exact J_vret hE dd_X5_next_274 rfl rfl
    · refine J_aload_n hE dd_X5_next_55 1 rfl rfl ?_
      refine J_iconst hE (v := (0 : Int32)) dd_X5_next_56 (by decide) ?_
      refine J_put hE hv jc_X5 15 (by decide) (by decide) fl_RX5_101 rfl rfl rfl (Nat.le_of_ble_eq_true rfl) dd_X5_next_57 ?_
      refine J_letS (fun S44 => ?_)
      refine J_goto hE (tgt := 274) dd_X5_next_60 (by decide) ?_
      exact J_vret hE dd_X5_next_274 rfl rfl
  · exact J_vret hE dd_X5_next_7 rfl rfl
theorem dd_X5_looked_0 : jd cX5_looked 0 (.aload_n 0) 1 1 := ⟨by decide +kernel, rfl⟩
theorem dd_X5_looked_1 : jd cX5_looked 1 (.getfield 78) 3 4 := ⟨by decide +kernel, rfl⟩
theorem dd_X5_looked_7 : jd cX5_looked 7 (.aload_n 0) 1 8 := ⟨by decide +kernel, rfl⟩
theorem dd_X5_looked_8 : jd cX5_looked 8 (.aload_n 0) 1 9 := ⟨by decide +kernel, rfl⟩
theorem dd_X5_looked_9 : jd cX5_looked 9 (.getfield 101) 3 12 := ⟨by decide +kernel, rfl⟩
theorem dd_X5_looked_12 : jd cX5_looked 12 (.iconst 2) 1 13 := ⟨by decide +kernel, rfl⟩
theorem dd_X5_looked_20 : jd cX5_looked 20 (.iconst 0) 1 21 := ⟨by decide +kernel, rfl⟩
theorem dd_X5_looked_16 : jd cX5_looked 16 (.iconst 1) 1 17 := ⟨by decide +kernel, rfl⟩
theorem dd_X5_looked_17 : jd cX5_looked 17 (.goto 4) 3 20 := ⟨by decide +kernel, rfl⟩
theorem dd_X5_looked_13 : jd cX5_looked 13 (.if_icmp .ne 7) 3 16 := ⟨by decide +kernel, rfl⟩
theorem dd_X5_looked_21 : jd cX5_looked 21 (.iconst 2) 1 22 := ⟨by decide +kernel, rfl⟩
theorem dd_X5_looked_22 : jd cX5_looked 22 (.invokevirtual 115) 3 25 := ⟨by decide +kernel, rfl⟩
theorem dd_X5_looked_4 : jd cX5_looked 4 (.ifCond .ne 21) 3 7 := ⟨by decide +kernel, rfl⟩
theorem dd_X5_looked_25 : jd cX5_looked 25 (.aload_n 0) 1 26 := ⟨by decide +kernel, rfl⟩
theorem dd_X5_looked_26 : jd cX5_looked 26 (.getfield 78) 3 29 := ⟨by decide +kernel, rfl⟩
theorem dd_X5_looked_32 : jd cX5_looked 32 (.aload_n 0) 1 33 := ⟨by decide +kernel, rfl⟩
theorem dd_X5_looked_33 : jd cX5_looked 33 (.aload_n 0) 1 34 := ⟨by decide +kernel, rfl⟩
theorem dd_X5_looked_34 : jd cX5_looked 34 (.getfield 112) 3 37 := ⟨by decide +kernel, rfl⟩
theorem dd_X5_looked_37 : jd cX5_looked 37 (.i2l) 1 38 := ⟨by decide +kernel, rfl⟩
theorem dd_X5_looked_38 : jd cX5_looked 38 (.iload_n 1) 1 39 := ⟨by decide +kernel, rfl⟩
theorem dd_X5_looked_39 : jd cX5_looked 39 (.i2l) 1 40 := ⟨by decide +kernel, rfl⟩
theorem dd_X5_looked_40 : jd cX5_looked 40 (.iload_n 2) 1 41 := ⟨by decide +kernel, rfl⟩
theorem dd_X5_looked_41 : jd cX5_looked 41 (.i2l) 1 42 := ⟨by decide +kernel, rfl⟩
theorem dd_X5_looked_42 : jd cX5_looked 42 (.invokestatic 71) 3 45 := ⟨by decide +kernel, rfl⟩
theorem dd_X5_looked_45 : jd cX5_looked 45 (.iconst 3) 1 46 := ⟨by decide +kernel, rfl⟩
theorem dd_X5_looked_46 : jd cX5_looked 46 (.invokevirtual 115) 3 49 := ⟨by decide +kernel, rfl⟩
theorem dd_X5_looked_29 : jd cX5_looked 29 (.ifCond .ne 20) 3 32 := ⟨by decide +kernel, rfl⟩
theorem dd_X5_looked_49 : jd cX5_looked 49 (.aload_n 0) 1 50 := ⟨by decide +kernel, rfl⟩
theorem dd_X5_looked_50 : jd cX5_looked 50 (.getfield 78) 3 53 := ⟨by decide +kernel, rfl⟩
theorem dd_X5_looked_63 : jd cX5_looked 63 (.iconst 0) 1 64 := ⟨by decide +kernel, rfl⟩
theorem dd_X5_looked_64 : jd cX5_looked 64 (.ireturn) 1 65 := ⟨by decide +kernel, rfl⟩
theorem dd_X5_looked_56 : jd cX5_looked 56 (.aload_n 0) 1 57 := ⟨by decide +kernel, rfl⟩
theorem dd_X5_looked_57 : jd cX5_looked 57 (.getfield 112) 3 60 := ⟨by decide +kernel, rfl⟩
theorem dd_X5_looked_60 : jd cX5_looked 60 (.goto 4) 3 63 := ⟨by decide +kernel, rfl⟩
theorem dd_X5_looked_53 : jd cX5_looked 53 (.ifCond .ne 10) 3 56 := ⟨by decide +kernel, rfl⟩
theorem m_X5_looked : jmV yX5_looked cX5_looked 3 (some .int) 2 := ⟨⟨(jj_m (w := Cond.code yX5_looked cX5_looked 3 (some .int)) (List.mem_of_getElem? (i := 945) (by decide +kernel)) rfl), (jj_m (w := Cond.initialized yX5_looked.cls) (List.mem_of_getElem? (i := 69) (by decide +kernel)) rfl), ⟨by decide, by decide⟩, by decide +kernel⟩, (jj_m (w := Cond.instanceMethod yX5_looked) (List.mem_of_getElem? (i := 944) (by decide +kernel)) rfl), (jj_m (w := Cond.selects yX5_looked.cls yX5_looked yX5_looked) (List.mem_of_getElem? (i := 26) (by decide +kernel)) rfl)⟩
def fX5_looked (i1 : Int32) (i2 : Int32) (S : M2) : Option (Int32 × M2) :=
  jn (α := Option (Int32 × M2)) (β := M2) (fun j1 =>
    if (S 17 0) = 0 then
      jn (α := Option (Int32 × M2)) (β := Int32) (fun j2 =>
        if (S 15 0) = (2 : Int32) then
          j2 (1 : Int32)
        else
          j2 (0 : Int32)) (fun p4 => 
        (fX5_needs p4 (2 : Int32) S).bind fun q5 =>
        lt (q5) fun S6 =>
        j1 S6)
    else
      j1 S) (fun p8 => 
    jn (α := Option (Int32 × M2)) (β := M2) (fun j9 =>
      if (p8 17 0) = 0 then
        (fX5_in ((p8 16 0).toInt64) (i1.toInt64) (i2.toInt64)).bind fun r10 =>
        (fX5_needs r10 (3 : Int32) p8).bind fun q11 =>
        lt (q11) fun S12 =>
        j9 S12
      else
        j9 p8) (fun p14 => 
      if (p14 17 0) = 0 then
        some ((p14 16 0), p14)
      else
        some ((0 : Int32), p14)))

set_option maxHeartbeats 4000000 in
set_option maxRecDepth 100000 in
theorem tX5_looked (l : Launch) {V : JV M2} {b : Nat} {a : Nat → Nat} (hv : vX5 V b a) (S : M2) (i1 : Int32) (i2 : Int32) : JC l V yX5_looked cX5_looked 3 (some .int) jj_i 1 [.ref b, .int i1, .int i2] S ((fX5_looked i1 i2 S).map (fun q => (q.1, q.2))) := by
  refine jj_of (by decide) (Nat.le_of_ble_eq_true rfl) (fun E hlE hE => ?_)
  unfold fX5_looked
  refine J_sub (L' := [(0, .ref b), (1, .int i1), (2, .int i2)]) [0, 1, 2] rfl ?_
  refine J_aload_n hE dd_X5_looked_0 0 rfl rfl ?_
  refine J_get hE (hv.ob _) jc_X5 17 (by decide) fl_RX5_78 (v := .int (S 17 0)) rfl dd_X5_looked_1 ?_
  refine J_jn (m := 25) (Lf := fun p8 => [(0, .ref b), (1, .int i1), (2, .int i2)]) (sf := fun p8 => []) (Xf := fun p8 => p8) (fun p8 => ?_) (fun hj1 => ?_)
  · show J V E _ _ 25 [(0, .ref b), (1, .int i1), (2, .int i2)] [] p8
    refine J_aload_n hE dd_X5_looked_25 0 rfl rfl ?_
    refine J_get hE (hv.ob _) jc_X5 17 (by decide) fl_RX5_78 (v := .int (p8 17 0)) rfl dd_X5_looked_26 ?_
    refine J_jn (m := 49) (Lf := fun p14 => [(0, .ref b)]) (sf := fun p14 => []) (Xf := fun p14 => p14) (fun p14 => ?_) (fun hj9 => ?_)
    · show J V E _ _ 49 [(0, .ref b)] [] p14
      refine J_aload_n hE dd_X5_looked_49 0 rfl rfl ?_
      refine J_get hE (hv.ob _) jc_X5 17 (by decide) fl_RX5_78 (v := .int (p14 17 0)) rfl dd_X5_looked_50 ?_
      refine J_if_ne hE (tgt := 63) dd_X5_looked_53 (by decide) (fun c15 => ?_) (fun c15 => ?_)
      · refine J_iconst hE (v := (0 : Int32)) dd_X5_looked_63 (by decide) ?_
        exact J_iret hE dd_X5_looked_64 rfl rfl
      · refine J_aload_n hE dd_X5_looked_56 0 rfl rfl ?_
        refine J_get hE (hv.ob _) jc_X5 16 (by decide) fl_RX5_112 (v := .int (p14 16 0)) rfl dd_X5_looked_57 ?_
        refine J_goto hE (tgt := 64) dd_X5_looked_60 (by decide) ?_
        exact J_iret hE dd_X5_looked_64 rfl rfl
    · refine J_if_ne hE (tgt := 49) dd_X5_looked_29 (by decide) (fun c13 => ?_) (fun c13 => ?_)
      · refine J_sub [0] rfl ?_
        exact hj9 p8
      · refine J_aload_n hE dd_X5_looked_32 0 rfl rfl ?_
        refine J_aload_n hE dd_X5_looked_33 0 rfl rfl ?_
        refine J_get hE (hv.ob _) jc_X5 16 (by decide) fl_RX5_112 (v := .int (p8 16 0)) rfl dd_X5_looked_34 ?_
        refine J_i2l hE dd_X5_looked_37 ?_
        refine J_iload_n hE dd_X5_looked_38 1 rfl rfl ?_
        refine J_i2l hE dd_X5_looked_39 ?_
        refine J_iload_n hE dd_X5_looked_40 2 rfl rfl ?_
        refine J_i2l hE dd_X5_looked_41 ?_
        refine J_invSri hE (As := [.long ((p8 16 0).toInt64), .long (i1.toInt64), .long (i2.toInt64)]) (st := [.ref b]) (tX5_in E.2.1 V p8 ((p8 16 0).toInt64) (i1.toInt64) (i2.toInt64)) m_X5_in s_X5_in rfl ml_RX5_71 (Nat.le_of_ble_eq_true rfl) (Nat.le_of_ble_eq_true rfl) rfl (Nat.le_of_ble_eq_true rfl) dd_X5_looked_42 (fun r10 => ?_)
        refine J_iconst hE (v := (3 : Int32)) dd_X5_looked_45 (by decide) ?_
        refine J_invVwv hE (e := fun x => x) (As := [.int r10, .int (3 : Int32)]) (st := []) (tX5_needs E.2.1 hv p8 r10 (3 : Int32)) (hv.ob _) m_X5_needs rfl ml_RX5_115 (Nat.le_of_ble_eq_true rfl) (Nat.le_of_ble_eq_true rfl) rfl (Nat.le_of_ble_eq_true rfl) dd_X5_looked_46 (fun q11 => ?_)
        refine J_letS (fun S12 => ?_)
        refine J_sub [0] rfl ?_
        exact hj9 S12
  · refine J_if_ne hE (tgt := 25) dd_X5_looked_4 (by decide) (fun c7 => ?_) (fun c7 => ?_)
    · refine J_sub [0, 1, 2] rfl ?_
      exact hj1 S
    · refine J_aload_n hE dd_X5_looked_7 0 rfl rfl ?_
      refine J_aload_n hE dd_X5_looked_8 0 rfl rfl ?_
      refine J_get hE (hv.ob _) jc_X5 15 (by decide) fl_RX5_101 (v := .int (S 15 0)) rfl dd_X5_looked_9 ?_
      refine J_iconst hE (v := (2 : Int32)) dd_X5_looked_12 (by decide) ?_
      refine J_jn (m := 21) (Lf := fun p4 => [(0, .ref b), (1, .int i1), (2, .int i2)]) (sf := fun p4 => [.int p4, .ref b]) (Xf := fun p4 => S) (fun p4 => ?_) (fun hj2 => ?_)
      · show J V E _ _ 21 [(0, .ref b), (1, .int i1), (2, .int i2)] [.int p4, .ref b] S
        refine J_iconst hE (v := (2 : Int32)) dd_X5_looked_21 (by decide) ?_
        refine J_invVwv hE (e := fun x => x) (As := [.int p4, .int (2 : Int32)]) (st := []) (tX5_needs E.2.1 hv S p4 (2 : Int32)) (hv.ob _) m_X5_needs rfl ml_RX5_115 (Nat.le_of_ble_eq_true rfl) (Nat.le_of_ble_eq_true rfl) rfl (Nat.le_of_ble_eq_true rfl) dd_X5_looked_22 (fun q5 => ?_)
        refine J_letS (fun S6 => ?_)
        refine J_sub [0, 1, 2] rfl ?_
        exact hj1 S6
      · refine J_icmp_ne hE (tgt := 20) dd_X5_looked_13 (by decide) (fun c3 => ?_) (fun c3 => ?_)
        · refine J_iconst hE (v := (0 : Int32)) dd_X5_looked_20 (by decide) ?_
          refine J_sub [0, 1, 2] rfl ?_
          exact hj2 (0 : Int32)
        · refine J_iconst hE (v := (1 : Int32)) dd_X5_looked_16 (by decide) ?_
          refine J_goto hE (tgt := 21) dd_X5_looked_17 (by decide) ?_
          refine J_sub [0, 1, 2] rfl ?_
          exact hj2 (1 : Int32)
theorem dd_X5_readNumber_0 : jd cX5_readNumber 0 (.aload_n 0) 1 1 := ⟨by decide +kernel, rfl⟩
theorem dd_X5_readNumber_1 : jd cX5_readNumber 1 (.iload_n 1) 1 2 := ⟨by decide +kernel, rfl⟩
theorem dd_X5_readNumber_2 : jd cX5_readNumber 2 (.iload_n 2) 1 3 := ⟨by decide +kernel, rfl⟩
theorem ml_RX5_119 : (Cond.methodLink "MothCustomsModel" 119 yX5_looked : Cond) ∈ jj_tb := jj_m (List.mem_of_getElem? (i := 942) (by decide +kernel)) rfl
theorem dd_X5_readNumber_3 : jd cX5_readNumber 3 (.invokevirtual 119) 3 6 := ⟨by decide +kernel, rfl⟩
theorem dd_X5_readNumber_6 : jd cX5_readNumber 6 (.istore_n 3) 1 7 := ⟨by decide +kernel, rfl⟩
theorem dd_X5_readNumber_7 : jd cX5_readNumber 7 (.aload_n 0) 1 8 := ⟨by decide +kernel, rfl⟩
theorem ml_RX5_123 : (Cond.methodLink "MothCustomsModel" 123 yX5_next : Cond) ∈ jj_tb := jj_m (List.mem_of_getElem? (i := 898) (by decide +kernel)) rfl
theorem dd_X5_readNumber_8 : jd cX5_readNumber 8 (.invokevirtual 123) 3 11 := ⟨by decide +kernel, rfl⟩
theorem dd_X5_readNumber_11 : jd cX5_readNumber 11 (.iload_n 3) 1 12 := ⟨by decide +kernel, rfl⟩
theorem dd_X5_readNumber_12 : jd cX5_readNumber 12 (.ireturn) 1 13 := ⟨by decide +kernel, rfl⟩
theorem m_X5_readNumber : jmV yX5_readNumber cX5_readNumber 4 (some .int) 2 := ⟨⟨(jj_m (w := Cond.code yX5_readNumber cX5_readNumber 4 (some .int)) (List.mem_of_getElem? (i := 941) (by decide +kernel)) rfl), (jj_m (w := Cond.initialized yX5_readNumber.cls) (List.mem_of_getElem? (i := 69) (by decide +kernel)) rfl), ⟨by decide, by decide⟩, by decide +kernel⟩, (jj_m (w := Cond.instanceMethod yX5_readNumber) (List.mem_of_getElem? (i := 940) (by decide +kernel)) rfl), (jj_m (w := Cond.selects yX5_readNumber.cls yX5_readNumber yX5_readNumber) (List.mem_of_getElem? (i := 25) (by decide +kernel)) rfl)⟩
def fX5_readNumber (i1 : Int32) (i2 : Int32) (S : M2) : Option (Int32 × M2) :=
  (fX5_looked i1 i2 S).bind fun q1 =>
  lt (q1.2) fun S2 =>
  (fX5_next  S2).bind fun q3 =>
  lt (q3) fun S4 =>
  some (q1.1, S4)

set_option maxHeartbeats 4000000 in
set_option maxRecDepth 100000 in
theorem tX5_readNumber (l : Launch) {V : JV M2} {b : Nat} {a : Nat → Nat} (hv : vX5 V b a) (S : M2) (i1 : Int32) (i2 : Int32) : JC l V yX5_readNumber cX5_readNumber 4 (some .int) jj_i 2 [.ref b, .int i1, .int i2] S ((fX5_readNumber i1 i2 S).map (fun q => (q.1, q.2))) := by
  refine jj_of (by decide) (Nat.le_of_ble_eq_true rfl) (fun E hlE hE => ?_)
  unfold fX5_readNumber
  refine J_sub (L' := [(0, .ref b), (1, .int i1), (2, .int i2)]) [0, 1, 2] rfl ?_
  refine J_aload_n hE dd_X5_readNumber_0 0 rfl rfl ?_
  refine J_iload_n hE dd_X5_readNumber_1 1 rfl rfl ?_
  refine J_iload_n hE dd_X5_readNumber_2 2 rfl rfl ?_
  refine J_invVwi hE (e := fun x => x) (As := [.int i1, .int i2]) (st := []) (tX5_looked E.2.1 hv S i1 i2) (hv.ob _) m_X5_looked rfl ml_RX5_119 (Nat.le_of_ble_eq_true rfl) (Nat.le_of_ble_eq_true rfl) rfl (Nat.le_of_ble_eq_true rfl) dd_X5_readNumber_3 (fun q1 => ?_)
  refine J_letS (fun S2 => ?_)
  refine J_istore_n hE (L' := [(3, .int q1.1), (0, .ref b), (1, .int i1), (2, .int i2)]) dd_X5_readNumber_6 (Nat.le_of_ble_eq_true rfl) rfl rfl ?_
  refine J_aload_n hE dd_X5_readNumber_7 1 rfl rfl ?_
  refine J_invVwv hE (e := fun x => x) (As := []) (st := []) (tX5_next E.2.1 hv S2 ) (hv.ob _) m_X5_next rfl ml_RX5_123 (Nat.le_of_ble_eq_true rfl) (Nat.le_of_ble_eq_true rfl) rfl (Nat.le_of_ble_eq_true rfl) dd_X5_readNumber_8 (fun q3 => ?_)
  refine J_letS (fun S4 => ?_)
  refine J_iload_n hE dd_X5_readNumber_11 0 rfl rfl ?_
  exact J_iret hE dd_X5_readNumber_12 rfl rfl
theorem dd_X5_readBolt_0 : jd cX5_readBolt 0 (.bipush 6) 2 2 := ⟨by decide +kernel, rfl⟩
theorem dd_X5_readBolt_2 : jd cX5_readBolt 2 (.aload_n 0) 1 3 := ⟨by decide +kernel, rfl⟩
theorem dd_X5_readBolt_3 : jd cX5_readBolt 3 (.getfield 47) 3 6 := ⟨by decide +kernel, rfl⟩
theorem dd_X5_readBolt_6 : jd cX5_readBolt 6 (.imul) 1 7 := ⟨by decide +kernel, rfl⟩
theorem dd_X5_readBolt_7 : jd cX5_readBolt 7 (.istore_n 1) 1 8 := ⟨by decide +kernel, rfl⟩
theorem dd_X5_readBolt_8 : jd cX5_readBolt 8 (.aload_n 0) 1 9 := ⟨by decide +kernel, rfl⟩
theorem dd_X5_readBolt_9 : jd cX5_readBolt 9 (.getfield 20) 3 12 := ⟨by decide +kernel, rfl⟩
theorem dd_X5_readBolt_12 : jd cX5_readBolt 12 (.iload_n 1) 1 13 := ⟨by decide +kernel, rfl⟩
theorem dd_X5_readBolt_13 : jd cX5_readBolt 13 (.iconst 0) 1 14 := ⟨by decide +kernel, rfl⟩
theorem dd_X5_readBolt_14 : jd cX5_readBolt 14 (.iadd) 1 15 := ⟨by decide +kernel, rfl⟩
theorem dd_X5_readBolt_15 : jd cX5_readBolt 15 (.aload_n 0) 1 16 := ⟨by decide +kernel, rfl⟩
theorem dd_X5_readBolt_16 : jd cX5_readBolt 16 (.iconst 0) 1 17 := ⟨by decide +kernel, rfl⟩
theorem dd_X5_readBolt_17 : jd cX5_readBolt 17 (.iconst 5) 1 18 := ⟨by decide +kernel, rfl⟩
theorem ml_RX5_126 : (Cond.methodLink "MothCustomsModel" 126 yX5_readNumber : Cond) ∈ jj_tb := jj_m (List.mem_of_getElem? (i := 938) (by decide +kernel)) rfl
theorem dd_X5_readBolt_18 : jd cX5_readBolt 18 (.invokevirtual 126) 3 21 := ⟨by decide +kernel, rfl⟩
theorem dd_X5_readBolt_21 : jd cX5_readBolt 21 (.iastore) 1 22 := ⟨by decide +kernel, rfl⟩
theorem dd_X5_readBolt_22 : jd cX5_readBolt 22 (.aload_n 0) 1 23 := ⟨by decide +kernel, rfl⟩
theorem dd_X5_readBolt_23 : jd cX5_readBolt 23 (.getfield 20) 3 26 := ⟨by decide +kernel, rfl⟩
theorem dd_X5_readBolt_26 : jd cX5_readBolt 26 (.iload_n 1) 1 27 := ⟨by decide +kernel, rfl⟩
theorem dd_X5_readBolt_27 : jd cX5_readBolt 27 (.iconst 1) 1 28 := ⟨by decide +kernel, rfl⟩
theorem dd_X5_readBolt_28 : jd cX5_readBolt 28 (.iadd) 1 29 := ⟨by decide +kernel, rfl⟩
theorem dd_X5_readBolt_29 : jd cX5_readBolt 29 (.aload_n 0) 1 30 := ⟨by decide +kernel, rfl⟩
theorem dd_X5_readBolt_30 : jd cX5_readBolt 30 (.iconst 0) 1 31 := ⟨by decide +kernel, rfl⟩
theorem dd_X5_readBolt_31 : jd cX5_readBolt 31 (.bipush 9) 2 33 := ⟨by decide +kernel, rfl⟩
theorem dd_X5_readBolt_33 : jd cX5_readBolt 33 (.invokevirtual 126) 3 36 := ⟨by decide +kernel, rfl⟩
theorem dd_X5_readBolt_36 : jd cX5_readBolt 36 (.iastore) 1 37 := ⟨by decide +kernel, rfl⟩
theorem dd_X5_readBolt_37 : jd cX5_readBolt 37 (.aload_n 0) 1 38 := ⟨by decide +kernel, rfl⟩
theorem dd_X5_readBolt_38 : jd cX5_readBolt 38 (.getfield 20) 3 41 := ⟨by decide +kernel, rfl⟩
theorem dd_X5_readBolt_41 : jd cX5_readBolt 41 (.iload_n 1) 1 42 := ⟨by decide +kernel, rfl⟩
theorem dd_X5_readBolt_42 : jd cX5_readBolt 42 (.iconst 4) 1 43 := ⟨by decide +kernel, rfl⟩
theorem dd_X5_readBolt_43 : jd cX5_readBolt 43 (.iadd) 1 44 := ⟨by decide +kernel, rfl⟩
theorem dd_X5_readBolt_44 : jd cX5_readBolt 44 (.aload_n 0) 1 45 := ⟨by decide +kernel, rfl⟩
theorem dd_X5_readBolt_45 : jd cX5_readBolt 45 (.iconst 0) 1 46 := ⟨by decide +kernel, rfl⟩
theorem dd_X5_readBolt_46 : jd cX5_readBolt 46 (.iconst 2) 1 47 := ⟨by decide +kernel, rfl⟩
theorem dd_X5_readBolt_47 : jd cX5_readBolt 47 (.invokevirtual 126) 3 50 := ⟨by decide +kernel, rfl⟩
theorem dd_X5_readBolt_50 : jd cX5_readBolt 50 (.iastore) 1 51 := ⟨by decide +kernel, rfl⟩
theorem dd_X5_readBolt_51 : jd cX5_readBolt 51 (.iconst 0) 1 52 := ⟨by decide +kernel, rfl⟩
theorem dd_X5_readBolt_52 : jd cX5_readBolt 52 (.istore_n 2) 1 53 := ⟨by decide +kernel, rfl⟩
theorem dd_X5_readBolt_53 : jd cX5_readBolt 53 (.iconst 0) 1 54 := ⟨by decide +kernel, rfl⟩
theorem dd_X5_readBolt_54 : jd cX5_readBolt 54 (.istore_n 3) 1 55 := ⟨by decide +kernel, rfl⟩
theorem dd_X5_readBolt_55 : jd cX5_readBolt 55 (.iload_n 3) 1 56 := ⟨by decide +kernel, rfl⟩
theorem dd_X5_readBolt_56 : jd cX5_readBolt 56 (.aload_n 0) 1 57 := ⟨by decide +kernel, rfl⟩
theorem dd_X5_readBolt_57 : jd cX5_readBolt 57 (.getfield 47) 3 60 := ⟨by decide +kernel, rfl⟩
theorem dd_X5_readBolt_63 : jd cX5_readBolt 63 (.iload_n 2) 1 64 := ⟨by decide +kernel, rfl⟩
theorem dd_X5_readBolt_64 : jd cX5_readBolt 64 (.aload_n 0) 1 65 := ⟨by decide +kernel, rfl⟩
theorem dd_X5_readBolt_65 : jd cX5_readBolt 65 (.getfield 20) 3 68 := ⟨by decide +kernel, rfl⟩
theorem dd_X5_readBolt_68 : jd cX5_readBolt 68 (.bipush 6) 2 70 := ⟨by decide +kernel, rfl⟩
theorem dd_X5_readBolt_70 : jd cX5_readBolt 70 (.iload_n 3) 1 71 := ⟨by decide +kernel, rfl⟩
theorem dd_X5_readBolt_71 : jd cX5_readBolt 71 (.imul) 1 72 := ⟨by decide +kernel, rfl⟩
theorem dd_X5_readBolt_72 : jd cX5_readBolt 72 (.iconst 4) 1 73 := ⟨by decide +kernel, rfl⟩
theorem dd_X5_readBolt_73 : jd cX5_readBolt 73 (.iadd) 1 74 := ⟨by decide +kernel, rfl⟩
theorem dd_X5_readBolt_74 : jd cX5_readBolt 74 (.iaload) 1 75 := ⟨by decide +kernel, rfl⟩
theorem dd_X5_readBolt_75 : jd cX5_readBolt 75 (.aload_n 0) 1 76 := ⟨by decide +kernel, rfl⟩
theorem dd_X5_readBolt_76 : jd cX5_readBolt 76 (.getfield 20) 3 79 := ⟨by decide +kernel, rfl⟩
theorem dd_X5_readBolt_79 : jd cX5_readBolt 79 (.iload_n 1) 1 80 := ⟨by decide +kernel, rfl⟩
theorem dd_X5_readBolt_80 : jd cX5_readBolt 80 (.iconst 4) 1 81 := ⟨by decide +kernel, rfl⟩
theorem dd_X5_readBolt_81 : jd cX5_readBolt 81 (.iadd) 1 82 := ⟨by decide +kernel, rfl⟩
theorem dd_X5_readBolt_82 : jd cX5_readBolt 82 (.iaload) 1 83 := ⟨by decide +kernel, rfl⟩
theorem dd_X5_readBolt_90 : jd cX5_readBolt 90 (.iconst 0) 1 91 := ⟨by decide +kernel, rfl⟩
theorem dd_X5_readBolt_86 : jd cX5_readBolt 86 (.iconst 1) 1 87 := ⟨by decide +kernel, rfl⟩
theorem dd_X5_readBolt_87 : jd cX5_readBolt 87 (.goto 4) 3 90 := ⟨by decide +kernel, rfl⟩
theorem dd_X5_readBolt_83 : jd cX5_readBolt 83 (.if_icmp .ne 7) 3 86 := ⟨by decide +kernel, rfl⟩
theorem ml_RX5_129 : (Cond.methodLink "MothCustomsModel" 129 yX5_flag : Cond) ∈ jj_tb := jj_m (List.mem_of_getElem? (i := 946) (by decide +kernel)) rfl
theorem dd_X5_readBolt_91 : jd cX5_readBolt 91 (.invokestatic 129) 3 94 := ⟨by decide +kernel, rfl⟩
theorem dd_X5_readBolt_94 : jd cX5_readBolt 94 (.iadd) 1 95 := ⟨by decide +kernel, rfl⟩
theorem dd_X5_readBolt_95 : jd cX5_readBolt 95 (.istore_n 2) 1 96 := ⟨by decide +kernel, rfl⟩
theorem dd_X5_readBolt_96 : jd cX5_readBolt 96 (.iinc 3 1) 3 99 := ⟨by decide +kernel, rfl⟩
theorem dd_X5_readBolt_99 : jd cX5_readBolt 99 (.goto (-44)) 3 102 := ⟨by decide +kernel, rfl⟩
theorem dd_X5_readBolt_60 : jd cX5_readBolt 60 (.if_icmp .ge 42) 3 63 := ⟨by decide +kernel, rfl⟩
theorem dd_X5_readBolt_102 : jd cX5_readBolt 102 (.aload_n 0) 1 103 := ⟨by decide +kernel, rfl⟩
theorem dd_X5_readBolt_103 : jd cX5_readBolt 103 (.getfield 20) 3 106 := ⟨by decide +kernel, rfl⟩
theorem dd_X5_readBolt_106 : jd cX5_readBolt 106 (.iload_n 1) 1 107 := ⟨by decide +kernel, rfl⟩
theorem dd_X5_readBolt_107 : jd cX5_readBolt 107 (.iconst 5) 1 108 := ⟨by decide +kernel, rfl⟩
theorem dd_X5_readBolt_108 : jd cX5_readBolt 108 (.iadd) 1 109 := ⟨by decide +kernel, rfl⟩
theorem dd_X5_readBolt_109 : jd cX5_readBolt 109 (.iload_n 2) 1 110 := ⟨by decide +kernel, rfl⟩
theorem dd_X5_readBolt_110 : jd cX5_readBolt 110 (.iastore) 1 111 := ⟨by decide +kernel, rfl⟩
theorem dd_X5_readBolt_111 : jd cX5_readBolt 111 (.aload_n 0) 1 112 := ⟨by decide +kernel, rfl⟩
theorem dd_X5_readBolt_112 : jd cX5_readBolt 112 (.dup) 1 113 := ⟨by decide +kernel, rfl⟩
theorem dd_X5_readBolt_113 : jd cX5_readBolt 113 (.getfield 47) 3 116 := ⟨by decide +kernel, rfl⟩
theorem dd_X5_readBolt_116 : jd cX5_readBolt 116 (.iconst 1) 1 117 := ⟨by decide +kernel, rfl⟩
theorem dd_X5_readBolt_117 : jd cX5_readBolt 117 (.iadd) 1 118 := ⟨by decide +kernel, rfl⟩
theorem dd_X5_readBolt_118 : jd cX5_readBolt 118 (.putfield 47) 3 121 := ⟨by decide +kernel, rfl⟩
theorem dd_X5_readBolt_121 : jd cX5_readBolt 121 (.return_) 1 122 := ⟨by decide +kernel, rfl⟩
theorem m_X5_readBolt : jmV yX5_readBolt cX5_readBolt 4 none 0 := ⟨⟨(jj_m (w := Cond.code yX5_readBolt cX5_readBolt 4 none) (List.mem_of_getElem? (i := 937) (by decide +kernel)) rfl), (jj_m (w := Cond.initialized yX5_readBolt.cls) (List.mem_of_getElem? (i := 69) (by decide +kernel)) rfl), ⟨by decide, by decide⟩, by decide +kernel⟩, (jj_m (w := Cond.instanceMethod yX5_readBolt) (List.mem_of_getElem? (i := 936) (by decide +kernel)) rfl), (jj_m (w := Cond.selects yX5_readBolt.cls yX5_readBolt yX5_readBolt) (List.mem_of_getElem? (i := 24) (by decide +kernel)) rfl)⟩
def fX5_readBolt_L55 (x1 : Int32) (S10 : M2) (k102 : Int32 → Option (M2)) : Nat → Int32 → Int32 → Option (M2)
  | 0, _, _ => none
  | n_ + 1, v11, v12 =>
    if (S10 6 0) ≤ v12 then
      k102 v11
    else
      bnd (((6 : Int32) * v12) + (4 : Int32)) 62 <|
      bnd (x1 + (4 : Int32)) 62 <|
      jn (α := Option (M2)) (β := Int32) (fun j13 =>
        if (S10 5 (((6 : Int32) * v12) + (4 : Int32)).toNatClampNeg) = (S10 5 (x1 + (4 : Int32)).toNatClampNeg) then
          j13 (1 : Int32)
        else
          j13 (0 : Int32)) (fun p15 => 
        (fX5_flag p15).bind fun r16 =>
        lt ((v11 + r16)) fun x17 =>
        lt (v12 + (1 : Int32)) fun x18 =>
        fX5_readBolt_L55 x1 S10 k102 n_ x17 x18)

def fX5_readBolt  (S : M2) : Option (M2) :=
  lt (((6 : Int32) * (S 6 0))) fun x1 =>
  (fX5_readNumber (0 : Int32) (5 : Int32) S).bind fun q2 =>
  lt (q2.2) fun S3 =>
  bnd (x1 + (0 : Int32)) 62 <|
  lt (va_up S3 5 (upd (S3 5) (x1 + (0 : Int32)).toNatClampNeg q2.1)) fun S4 =>
  (fX5_readNumber (0 : Int32) (9 : Int32) S4).bind fun q5 =>
  lt (q5.2) fun S6 =>
  bnd (x1 + (1 : Int32)) 62 <|
  lt (va_up S6 5 (upd (S6 5) (x1 + (1 : Int32)).toNatClampNeg q5.1)) fun S7 =>
  (fX5_readNumber (0 : Int32) (2 : Int32) S7).bind fun q8 =>
  lt (q8.2) fun S9 =>
  bnd (x1 + (4 : Int32)) 62 <|
  lt (va_up S9 5 (upd (S9 5) (x1 + (4 : Int32)).toNatClampNeg q8.1)) fun S10 =>
  fX5_readBolt_L55 x1 S10
    (fun p20 =>
      bnd (x1 + (5 : Int32)) 62 <|
      lt (va_up S10 5 (upd (S10 5) (x1 + (5 : Int32)).toNatClampNeg p20)) fun S21 =>
      lt (va_up S21 6 (fun _ => ((S21 6 0) + (1 : Int32)))) fun S22 =>
      some S22)
    400 (0 : Int32) (0 : Int32)

set_option maxHeartbeats 4000000 in
set_option maxRecDepth 100000 in
theorem tX5_readBolt_L55 {V : JV M2} {b : Nat} {a : Nat → Nat} (hv : vX5 V b a) (x1 : Int32) (S10 : M2) {E : JE (M2) Unit} (hE : JOk V E cX5_readBolt yX5_readBolt.cls 4 3 none jj_v) {k102 : Int32 → Option (M2)} (hk102 : ∀ p, J V E (fun q => ((), q)) (k102 p) 102 [(0, .ref b), (1, .int x1), (2, .int p)] [] S10) : ∀ (n_ : Nat) (v11 : Int32) (v12 : Int32), J V E (fun q => ((), q)) (fX5_readBolt_L55 x1 S10 k102 n_ v11 v12) 55 [(0, .ref b), (1, .int x1), (2, .int v11), (3, .int v12)] [] S10 := by
  intro n_
  induction n_ with
  | zero =>
    intros
    exact J_none
  | succ n_ ih =>
    intros v11 v12
    rw [fX5_readBolt_L55]
    refine J_iload_n hE dd_X5_readBolt_55 3 rfl rfl ?_
    refine J_aload_n hE dd_X5_readBolt_56 0 rfl rfl ?_
    refine J_get hE (hv.ob _) jc_X5 6 (by decide) fl_RX5_47 (v := .int (S10 6 0)) rfl dd_X5_readBolt_57 ?_
    refine J_icmp_ge hE (tgt := 102) dd_X5_readBolt_60 (by decide) (fun c19 => ?_) (fun c19 => ?_)
    · refine J_sub [0, 1, 2] rfl ?_
      exact hk102 v11
    · refine J_iload_n hE dd_X5_readBolt_63 2 rfl rfl ?_
      refine J_aload_n hE dd_X5_readBolt_64 0 rfl rfl ?_
      refine J_get hE (hv.ob _) jc_X5 5 (by decide) fl_RX5_20 (v := .ref (a 5)) rfl dd_X5_readBolt_65 ?_
      refine J_bipush hE (v := (6 : Int32)) dd_X5_readBolt_68 (by decide) ?_
      refine J_iload_n hE dd_X5_readBolt_70 3 rfl rfl ?_
      refine J_imul hE dd_X5_readBolt_71 ?_
      refine J_iconst hE (v := (4 : Int32)) dd_X5_readBolt_72 (by decide) ?_
      refine J_iadd hE dd_X5_readBolt_73 ?_
      refine J_ald hE (hv.arr 5 (n := 62) (ty := .int) (by decide) _) dd_X5_readBolt_74 ?_
      refine J_aload_n hE dd_X5_readBolt_75 0 rfl rfl ?_
      refine J_get hE (hv.ob _) jc_X5 5 (by decide) fl_RX5_20 (v := .ref (a 5)) rfl dd_X5_readBolt_76 ?_
      refine J_iload_n hE dd_X5_readBolt_79 1 rfl rfl ?_
      refine J_iconst hE (v := (4 : Int32)) dd_X5_readBolt_80 (by decide) ?_
      refine J_iadd hE dd_X5_readBolt_81 ?_
      refine J_ald hE (hv.arr 5 (n := 62) (ty := .int) (by decide) _) dd_X5_readBolt_82 ?_
      refine J_jn (m := 91) (Lf := fun p15 => [(0, .ref b), (1, .int x1), (3, .int v12)]) (sf := fun p15 => [.int p15, .int v11]) (Xf := fun p15 => S10) (fun p15 => ?_) (fun hj13 => ?_)
      · show J V E _ _ 91 [(0, .ref b), (1, .int x1), (3, .int v12)] [.int p15, .int v11] S10
        refine J_invSri hE (As := [.int p15]) (st := [.int v11]) (tX5_flag E.2.1 V S10 p15) m_X5_flag s_X5_flag rfl ml_RX5_129 (Nat.le_of_ble_eq_true rfl) (Nat.le_of_ble_eq_true rfl) rfl (Nat.le_of_ble_eq_true rfl) dd_X5_readBolt_91 (fun r16 => ?_)
        refine J_iadd hE dd_X5_readBolt_94 ?_
        refine J_leti (fun x17 => ?_)
        refine J_istore_n hE (L' := [(2, .int x17), (0, .ref b), (1, .int x1), (3, .int v12)]) dd_X5_readBolt_95 (Nat.le_of_ble_eq_true rfl) rfl rfl ?_
        refine J_iincL hE (v := (v12 + (1 : Int32))) (Lf := fun x18 => [(3, .int x18), (2, .int x17), (0, .ref b), (1, .int x1)]) dd_X5_readBolt_96 (j := 3) rfl (congrArg (v12 + ·) (by decide)) (Nat.le_of_ble_eq_true rfl) (fun _ => rfl) (fun x18 => ?_)
        refine J_goto hE (tgt := 55) dd_X5_readBolt_99 (by decide) ?_
        refine J_sub [2, 3, 1, 0] rfl ?_
        exact ih x17 x18
      · refine J_icmp_ne hE (tgt := 90) dd_X5_readBolt_83 (by decide) (fun c14 => ?_) (fun c14 => ?_)
        · refine J_iconst hE (v := (0 : Int32)) dd_X5_readBolt_90 (by decide) ?_
          refine J_sub [0, 1, 3] rfl ?_
          exact hj13 (0 : Int32)
        · refine J_iconst hE (v := (1 : Int32)) dd_X5_readBolt_86 (by decide) ?_
          refine J_goto hE (tgt := 91) dd_X5_readBolt_87 (by decide) ?_
          refine J_sub [0, 1, 3] rfl ?_
          exact hj13 (1 : Int32)
set_option maxHeartbeats 4000000 in
set_option maxRecDepth 100000 in
theorem tX5_readBolt (l : Launch) {V : JV M2} {b : Nat} {a : Nat → Nat} (hv : vX5 V b a) (S : M2)  : JC l V yX5_readBolt cX5_readBolt 4 none jj_v 3 [.ref b] S ((fX5_readBolt  S).map (fun q => ((), q))) := by
  refine jj_of (by decide) (Nat.le_of_ble_eq_true rfl) (fun E hlE hE => ?_)
  unfold fX5_readBolt
  refine J_sub (L' := [(0, .ref b)]) [0] rfl ?_
  refine J_bipush hE (v := (6 : Int32)) dd_X5_readBolt_0 (by decide) ?_
  refine J_aload_n hE dd_X5_readBolt_2 0 rfl rfl ?_
  refine J_get hE (hv.ob _) jc_X5 6 (by decide) fl_RX5_47 (v := .int (S 6 0)) rfl dd_X5_readBolt_3 ?_
  refine J_imul hE dd_X5_readBolt_6 ?_
  refine J_leti (fun x1 => ?_)
  refine J_istore_n hE (L' := [(1, .int x1), (0, .ref b)]) dd_X5_readBolt_7 (Nat.le_of_ble_eq_true rfl) rfl rfl ?_
  refine J_aload_n hE dd_X5_readBolt_8 1 rfl rfl ?_
  refine J_get hE (hv.ob _) jc_X5 5 (by decide) fl_RX5_20 (v := .ref (a 5)) rfl dd_X5_readBolt_9 ?_
  refine J_iload_n hE dd_X5_readBolt_12 0 rfl rfl ?_
  refine J_iconst hE (v := (0 : Int32)) dd_X5_readBolt_13 (by decide) ?_
  refine J_iadd hE dd_X5_readBolt_14 ?_
  refine J_aload_n hE dd_X5_readBolt_15 1 rfl rfl ?_
  refine J_iconst hE (v := (0 : Int32)) dd_X5_readBolt_16 (by decide) ?_
  refine J_iconst hE (v := (5 : Int32)) dd_X5_readBolt_17 (by decide) ?_
  refine J_invVwi hE (e := fun x => x) (As := [.int (0 : Int32), .int (5 : Int32)]) (st := [.int (x1 + (0 : Int32)), .ref (a 5)]) (tX5_readNumber E.2.1 hv S (0 : Int32) (5 : Int32)) (hv.ob _) m_X5_readNumber rfl ml_RX5_126 (Nat.le_of_ble_eq_true rfl) (Nat.le_of_ble_eq_true rfl) rfl (Nat.le_of_ble_eq_true rfl) dd_X5_readBolt_18 (fun q2 => ?_)
  refine J_letS (fun S3 => ?_)
  refine J_ast hE hv 5 (N := 62) (by decide) dd_X5_readBolt_21 ?_
  refine J_letS (fun S4 => ?_)
  refine J_aload_n hE dd_X5_readBolt_22 1 rfl rfl ?_
  refine J_get hE (hv.ob _) jc_X5 5 (by decide) fl_RX5_20 (v := .ref (a 5)) rfl dd_X5_readBolt_23 ?_
  refine J_iload_n hE dd_X5_readBolt_26 0 rfl rfl ?_
  refine J_iconst hE (v := (1 : Int32)) dd_X5_readBolt_27 (by decide) ?_
  refine J_iadd hE dd_X5_readBolt_28 ?_
  refine J_aload_n hE dd_X5_readBolt_29 1 rfl rfl ?_
  refine J_iconst hE (v := (0 : Int32)) dd_X5_readBolt_30 (by decide) ?_
  refine J_bipush hE (v := (9 : Int32)) dd_X5_readBolt_31 (by decide) ?_
  refine J_invVwi hE (e := fun x => x) (As := [.int (0 : Int32), .int (9 : Int32)]) (st := [.int (x1 + (1 : Int32)), .ref (a 5)]) (tX5_readNumber E.2.1 hv S4 (0 : Int32) (9 : Int32)) (hv.ob _) m_X5_readNumber rfl ml_RX5_126 (Nat.le_of_ble_eq_true rfl) (Nat.le_of_ble_eq_true rfl) rfl (Nat.le_of_ble_eq_true rfl) dd_X5_readBolt_33 (fun q5 => ?_)
  refine J_letS (fun S6 => ?_)
  refine J_ast hE hv 5 (N := 62) (by decide) dd_X5_readBolt_36 ?_
  refine J_letS (fun S7 => ?_)
  refine J_aload_n hE dd_X5_readBolt_37 1 rfl rfl ?_
  refine J_get hE (hv.ob _) jc_X5 5 (by decide) fl_RX5_20 (v := .ref (a 5)) rfl dd_X5_readBolt_38 ?_
  refine J_iload_n hE dd_X5_readBolt_41 0 rfl rfl ?_
  refine J_iconst hE (v := (4 : Int32)) dd_X5_readBolt_42 (by decide) ?_
  refine J_iadd hE dd_X5_readBolt_43 ?_
  refine J_aload_n hE dd_X5_readBolt_44 1 rfl rfl ?_
  refine J_iconst hE (v := (0 : Int32)) dd_X5_readBolt_45 (by decide) ?_
  refine J_iconst hE (v := (2 : Int32)) dd_X5_readBolt_46 (by decide) ?_
  refine J_invVwi hE (e := fun x => x) (As := [.int (0 : Int32), .int (2 : Int32)]) (st := [.int (x1 + (4 : Int32)), .ref (a 5)]) (tX5_readNumber E.2.1 hv S7 (0 : Int32) (2 : Int32)) (hv.ob _) m_X5_readNumber rfl ml_RX5_126 (Nat.le_of_ble_eq_true rfl) (Nat.le_of_ble_eq_true rfl) rfl (Nat.le_of_ble_eq_true rfl) dd_X5_readBolt_47 (fun q8 => ?_)
  refine J_letS (fun S9 => ?_)
  refine J_ast hE hv 5 (N := 62) (by decide) dd_X5_readBolt_50 ?_
  refine J_letS (fun S10 => ?_)
  refine J_iconst hE (v := (0 : Int32)) dd_X5_readBolt_51 (by decide) ?_
  refine J_istore_n hE (L' := [(2, .int (0 : Int32)), (1, .int x1), (0, .ref b)]) dd_X5_readBolt_52 (Nat.le_of_ble_eq_true rfl) rfl rfl ?_
  refine J_iconst hE (v := (0 : Int32)) dd_X5_readBolt_53 (by decide) ?_
  refine J_istore_n hE (L' := [(3, .int (0 : Int32)), (2, .int (0 : Int32)), (1, .int x1), (0, .ref b)]) dd_X5_readBolt_54 (Nat.le_of_ble_eq_true rfl) rfl rfl ?_
  refine J_sub [3, 2, 1, 0] rfl ?_
  refine tX5_readBolt_L55 hv x1 S10 hE (fun p20 => ?_) 400 (0 : Int32) (0 : Int32)
  show J V E _ _ 102 [(0, .ref b), (1, .int x1), (2, .int p20)] [] S10
  refine J_aload_n hE dd_X5_readBolt_102 0 rfl rfl ?_
  refine J_get hE (hv.ob _) jc_X5 5 (by decide) fl_RX5_20 (v := .ref (a 5)) rfl dd_X5_readBolt_103 ?_
  refine J_iload_n hE dd_X5_readBolt_106 1 rfl rfl ?_
  refine J_iconst hE (v := (5 : Int32)) dd_X5_readBolt_107 (by decide) ?_
  refine J_iadd hE dd_X5_readBolt_108 ?_
  refine J_iload_n hE dd_X5_readBolt_109 2 rfl rfl ?_
  refine J_ast hE hv 5 (N := 62) (by decide) dd_X5_readBolt_110 ?_
  refine J_letS (fun S21 => ?_)
  refine J_aload_n hE dd_X5_readBolt_111 0 rfl rfl ?_
  refine J_dup hE dd_X5_readBolt_112 rfl ?_
  refine J_get hE (hv.ob _) jc_X5 6 (by decide) fl_RX5_47 (v := .int (S21 6 0)) rfl dd_X5_readBolt_113 ?_
  refine J_iconst hE (v := (1 : Int32)) dd_X5_readBolt_116 (by decide) ?_
  refine J_iadd hE dd_X5_readBolt_117 ?_
  refine J_put hE hv jc_X5 6 (by decide) (by decide) fl_RX5_47 rfl rfl rfl (Nat.le_of_ble_eq_true rfl) dd_X5_readBolt_118 ?_
  refine J_letS (fun S22 => ?_)
  exact J_vret hE dd_X5_readBolt_121 rfl rfl
theorem dd_X5_readMoth_0 : jd cX5_readMoth 0 (.bipush 30) 2 2 := ⟨by decide +kernel, rfl⟩
theorem dd_X5_readMoth_2 : jd cX5_readMoth 2 (.iconst 4) 1 3 := ⟨by decide +kernel, rfl⟩
theorem dd_X5_readMoth_3 : jd cX5_readMoth 3 (.aload_n 0) 1 4 := ⟨by decide +kernel, rfl⟩
theorem dd_X5_readMoth_4 : jd cX5_readMoth 4 (.getfield 51) 3 7 := ⟨by decide +kernel, rfl⟩
theorem dd_X5_readMoth_7 : jd cX5_readMoth 7 (.imul) 1 8 := ⟨by decide +kernel, rfl⟩
theorem dd_X5_readMoth_8 : jd cX5_readMoth 8 (.iadd) 1 9 := ⟨by decide +kernel, rfl⟩
theorem dd_X5_readMoth_9 : jd cX5_readMoth 9 (.istore_n 2) 1 10 := ⟨by decide +kernel, rfl⟩
theorem dd_X5_readMoth_10 : jd cX5_readMoth 10 (.aload_n 0) 1 11 := ⟨by decide +kernel, rfl⟩
theorem dd_X5_readMoth_11 : jd cX5_readMoth 11 (.getfield 20) 3 14 := ⟨by decide +kernel, rfl⟩
theorem dd_X5_readMoth_14 : jd cX5_readMoth 14 (.iload_n 2) 1 15 := ⟨by decide +kernel, rfl⟩
theorem dd_X5_readMoth_15 : jd cX5_readMoth 15 (.iconst 0) 1 16 := ⟨by decide +kernel, rfl⟩
theorem dd_X5_readMoth_16 : jd cX5_readMoth 16 (.iadd) 1 17 := ⟨by decide +kernel, rfl⟩
theorem dd_X5_readMoth_17 : jd cX5_readMoth 17 (.iload_n 1) 1 18 := ⟨by decide +kernel, rfl⟩
theorem dd_X5_readMoth_18 : jd cX5_readMoth 18 (.iastore) 1 19 := ⟨by decide +kernel, rfl⟩
theorem dd_X5_readMoth_19 : jd cX5_readMoth 19 (.aload_n 0) 1 20 := ⟨by decide +kernel, rfl⟩
theorem dd_X5_readMoth_20 : jd cX5_readMoth 20 (.getfield 20) 3 23 := ⟨by decide +kernel, rfl⟩
theorem dd_X5_readMoth_23 : jd cX5_readMoth 23 (.iload_n 2) 1 24 := ⟨by decide +kernel, rfl⟩
theorem dd_X5_readMoth_24 : jd cX5_readMoth 24 (.iconst 1) 1 25 := ⟨by decide +kernel, rfl⟩
theorem dd_X5_readMoth_25 : jd cX5_readMoth 25 (.iadd) 1 26 := ⟨by decide +kernel, rfl⟩
theorem dd_X5_readMoth_26 : jd cX5_readMoth 26 (.aload_n 0) 1 27 := ⟨by decide +kernel, rfl⟩
theorem dd_X5_readMoth_27 : jd cX5_readMoth 27 (.iconst 0) 1 28 := ⟨by decide +kernel, rfl⟩
theorem dd_X5_readMoth_28 : jd cX5_readMoth 28 (.iconst 5) 1 29 := ⟨by decide +kernel, rfl⟩
theorem dd_X5_readMoth_29 : jd cX5_readMoth 29 (.invokevirtual 126) 3 32 := ⟨by decide +kernel, rfl⟩
theorem dd_X5_readMoth_32 : jd cX5_readMoth 32 (.iastore) 1 33 := ⟨by decide +kernel, rfl⟩
theorem dd_X5_readMoth_33 : jd cX5_readMoth 33 (.aload_n 0) 1 34 := ⟨by decide +kernel, rfl⟩
theorem dd_X5_readMoth_34 : jd cX5_readMoth 34 (.getfield 20) 3 37 := ⟨by decide +kernel, rfl⟩
theorem dd_X5_readMoth_37 : jd cX5_readMoth 37 (.iload_n 2) 1 38 := ⟨by decide +kernel, rfl⟩
theorem dd_X5_readMoth_38 : jd cX5_readMoth 38 (.iconst 2) 1 39 := ⟨by decide +kernel, rfl⟩
theorem dd_X5_readMoth_39 : jd cX5_readMoth 39 (.iadd) 1 40 := ⟨by decide +kernel, rfl⟩
theorem dd_X5_readMoth_40 : jd cX5_readMoth 40 (.aload_n 0) 1 41 := ⟨by decide +kernel, rfl⟩
theorem dd_X5_readMoth_41 : jd cX5_readMoth 41 (.iconst 0) 1 42 := ⟨by decide +kernel, rfl⟩
theorem dd_X5_readMoth_42 : jd cX5_readMoth 42 (.bipush 9) 2 44 := ⟨by decide +kernel, rfl⟩
theorem dd_X5_readMoth_44 : jd cX5_readMoth 44 (.invokevirtual 126) 3 47 := ⟨by decide +kernel, rfl⟩
theorem dd_X5_readMoth_47 : jd cX5_readMoth 47 (.iastore) 1 48 := ⟨by decide +kernel, rfl⟩
theorem dd_X5_readMoth_48 : jd cX5_readMoth 48 (.aload_n 0) 1 49 := ⟨by decide +kernel, rfl⟩
theorem dd_X5_readMoth_49 : jd cX5_readMoth 49 (.getfield 20) 3 52 := ⟨by decide +kernel, rfl⟩
theorem dd_X5_readMoth_52 : jd cX5_readMoth 52 (.iload_n 2) 1 53 := ⟨by decide +kernel, rfl⟩
theorem dd_X5_readMoth_53 : jd cX5_readMoth 53 (.iconst 3) 1 54 := ⟨by decide +kernel, rfl⟩
theorem dd_X5_readMoth_54 : jd cX5_readMoth 54 (.iadd) 1 55 := ⟨by decide +kernel, rfl⟩
theorem dd_X5_readMoth_55 : jd cX5_readMoth 55 (.aload_n 0) 1 56 := ⟨by decide +kernel, rfl⟩
theorem dd_X5_readMoth_56 : jd cX5_readMoth 56 (.iconst 0) 1 57 := ⟨by decide +kernel, rfl⟩
theorem dd_X5_readMoth_57 : jd cX5_readMoth 57 (.iconst 2) 1 58 := ⟨by decide +kernel, rfl⟩
theorem dd_X5_readMoth_58 : jd cX5_readMoth 58 (.invokevirtual 126) 3 61 := ⟨by decide +kernel, rfl⟩
theorem dd_X5_readMoth_61 : jd cX5_readMoth 61 (.iastore) 1 62 := ⟨by decide +kernel, rfl⟩
theorem dd_X5_readMoth_62 : jd cX5_readMoth 62 (.aload_n 0) 1 63 := ⟨by decide +kernel, rfl⟩
theorem dd_X5_readMoth_63 : jd cX5_readMoth 63 (.dup) 1 64 := ⟨by decide +kernel, rfl⟩
theorem dd_X5_readMoth_64 : jd cX5_readMoth 64 (.getfield 51) 3 67 := ⟨by decide +kernel, rfl⟩
theorem dd_X5_readMoth_67 : jd cX5_readMoth 67 (.iconst 1) 1 68 := ⟨by decide +kernel, rfl⟩
theorem dd_X5_readMoth_68 : jd cX5_readMoth 68 (.iadd) 1 69 := ⟨by decide +kernel, rfl⟩
theorem dd_X5_readMoth_69 : jd cX5_readMoth 69 (.putfield 51) 3 72 := ⟨by decide +kernel, rfl⟩
theorem dd_X5_readMoth_72 : jd cX5_readMoth 72 (.return_) 1 73 := ⟨by decide +kernel, rfl⟩
theorem m_X5_readMoth : jmV yX5_readMoth cX5_readMoth 3 none 1 := ⟨⟨(jj_m (w := Cond.code yX5_readMoth cX5_readMoth 3 none) (List.mem_of_getElem? (i := 956) (by decide +kernel)) rfl), (jj_m (w := Cond.initialized yX5_readMoth.cls) (List.mem_of_getElem? (i := 69) (by decide +kernel)) rfl), ⟨by decide, by decide⟩, by decide +kernel⟩, (jj_m (w := Cond.instanceMethod yX5_readMoth) (List.mem_of_getElem? (i := 955) (by decide +kernel)) rfl), (jj_m (w := Cond.selects yX5_readMoth.cls yX5_readMoth yX5_readMoth) (List.mem_of_getElem? (i := 28) (by decide +kernel)) rfl)⟩
def fX5_readMoth (i1 : Int32) (S : M2) : Option (M2) :=
  lt (((30 : Int32) + ((4 : Int32) * (S 7 0)))) fun x1 =>
  bnd (x1 + (0 : Int32)) 62 <|
  lt (va_up S 5 (upd (S 5) (x1 + (0 : Int32)).toNatClampNeg i1)) fun S2 =>
  (fX5_readNumber (0 : Int32) (5 : Int32) S2).bind fun q3 =>
  lt (q3.2) fun S4 =>
  bnd (x1 + (1 : Int32)) 62 <|
  lt (va_up S4 5 (upd (S4 5) (x1 + (1 : Int32)).toNatClampNeg q3.1)) fun S5 =>
  (fX5_readNumber (0 : Int32) (9 : Int32) S5).bind fun q6 =>
  lt (q6.2) fun S7 =>
  bnd (x1 + (2 : Int32)) 62 <|
  lt (va_up S7 5 (upd (S7 5) (x1 + (2 : Int32)).toNatClampNeg q6.1)) fun S8 =>
  (fX5_readNumber (0 : Int32) (2 : Int32) S8).bind fun q9 =>
  lt (q9.2) fun S10 =>
  bnd (x1 + (3 : Int32)) 62 <|
  lt (va_up S10 5 (upd (S10 5) (x1 + (3 : Int32)).toNatClampNeg q9.1)) fun S11 =>
  lt (va_up S11 7 (fun _ => ((S11 7 0) + (1 : Int32)))) fun S12 =>
  some S12

set_option maxHeartbeats 4000000 in
set_option maxRecDepth 100000 in
theorem tX5_readMoth (l : Launch) {V : JV M2} {b : Nat} {a : Nat → Nat} (hv : vX5 V b a) (S : M2) (i1 : Int32) : JC l V yX5_readMoth cX5_readMoth 3 none jj_v 3 [.ref b, .int i1] S ((fX5_readMoth i1 S).map (fun q => ((), q))) := by
  refine jj_of (by decide) (Nat.le_of_ble_eq_true rfl) (fun E hlE hE => ?_)
  unfold fX5_readMoth
  refine J_sub (L' := [(0, .ref b), (1, .int i1)]) [0, 1] rfl ?_
  refine J_bipush hE (v := (30 : Int32)) dd_X5_readMoth_0 (by decide) ?_
  refine J_iconst hE (v := (4 : Int32)) dd_X5_readMoth_2 (by decide) ?_
  refine J_aload_n hE dd_X5_readMoth_3 0 rfl rfl ?_
  refine J_get hE (hv.ob _) jc_X5 7 (by decide) fl_RX5_51 (v := .int (S 7 0)) rfl dd_X5_readMoth_4 ?_
  refine J_imul hE dd_X5_readMoth_7 ?_
  refine J_iadd hE dd_X5_readMoth_8 ?_
  refine J_leti (fun x1 => ?_)
  refine J_istore_n hE (L' := [(2, .int x1), (0, .ref b), (1, .int i1)]) dd_X5_readMoth_9 (Nat.le_of_ble_eq_true rfl) rfl rfl ?_
  refine J_aload_n hE dd_X5_readMoth_10 1 rfl rfl ?_
  refine J_get hE (hv.ob _) jc_X5 5 (by decide) fl_RX5_20 (v := .ref (a 5)) rfl dd_X5_readMoth_11 ?_
  refine J_iload_n hE dd_X5_readMoth_14 0 rfl rfl ?_
  refine J_iconst hE (v := (0 : Int32)) dd_X5_readMoth_15 (by decide) ?_
  refine J_iadd hE dd_X5_readMoth_16 ?_
  refine J_iload_n hE dd_X5_readMoth_17 2 rfl rfl ?_
  refine J_ast hE hv 5 (N := 62) (by decide) dd_X5_readMoth_18 ?_
  refine J_letS (fun S2 => ?_)
  refine J_aload_n hE dd_X5_readMoth_19 1 rfl rfl ?_
  refine J_get hE (hv.ob _) jc_X5 5 (by decide) fl_RX5_20 (v := .ref (a 5)) rfl dd_X5_readMoth_20 ?_
  refine J_iload_n hE dd_X5_readMoth_23 0 rfl rfl ?_
  refine J_iconst hE (v := (1 : Int32)) dd_X5_readMoth_24 (by decide) ?_
  refine J_iadd hE dd_X5_readMoth_25 ?_
  refine J_aload_n hE dd_X5_readMoth_26 1 rfl rfl ?_
  refine J_iconst hE (v := (0 : Int32)) dd_X5_readMoth_27 (by decide) ?_
  refine J_iconst hE (v := (5 : Int32)) dd_X5_readMoth_28 (by decide) ?_
  refine J_invVwi hE (e := fun x => x) (As := [.int (0 : Int32), .int (5 : Int32)]) (st := [.int (x1 + (1 : Int32)), .ref (a 5)]) (tX5_readNumber E.2.1 hv S2 (0 : Int32) (5 : Int32)) (hv.ob _) m_X5_readNumber rfl ml_RX5_126 (Nat.le_of_ble_eq_true rfl) (Nat.le_of_ble_eq_true rfl) rfl (Nat.le_of_ble_eq_true rfl) dd_X5_readMoth_29 (fun q3 => ?_)
  refine J_letS (fun S4 => ?_)
  refine J_ast hE hv 5 (N := 62) (by decide) dd_X5_readMoth_32 ?_
  refine J_letS (fun S5 => ?_)
  refine J_aload_n hE dd_X5_readMoth_33 1 rfl rfl ?_
  refine J_get hE (hv.ob _) jc_X5 5 (by decide) fl_RX5_20 (v := .ref (a 5)) rfl dd_X5_readMoth_34 ?_
  refine J_iload_n hE dd_X5_readMoth_37 0 rfl rfl ?_
  refine J_iconst hE (v := (2 : Int32)) dd_X5_readMoth_38 (by decide) ?_
  refine J_iadd hE dd_X5_readMoth_39 ?_
  refine J_aload_n hE dd_X5_readMoth_40 1 rfl rfl ?_
  refine J_iconst hE (v := (0 : Int32)) dd_X5_readMoth_41 (by decide) ?_
  refine J_bipush hE (v := (9 : Int32)) dd_X5_readMoth_42 (by decide) ?_
  refine J_invVwi hE (e := fun x => x) (As := [.int (0 : Int32), .int (9 : Int32)]) (st := [.int (x1 + (2 : Int32)), .ref (a 5)]) (tX5_readNumber E.2.1 hv S5 (0 : Int32) (9 : Int32)) (hv.ob _) m_X5_readNumber rfl ml_RX5_126 (Nat.le_of_ble_eq_true rfl) (Nat.le_of_ble_eq_true rfl) rfl (Nat.le_of_ble_eq_true rfl) dd_X5_readMoth_44 (fun q6 => ?_)
  refine J_letS (fun S7 => ?_)
  refine J_ast hE hv 5 (N := 62) (by decide) dd_X5_readMoth_47 ?_
  refine J_letS (fun S8 => ?_)
  refine J_aload_n hE dd_X5_readMoth_48 1 rfl rfl ?_
  refine J_get hE (hv.ob _) jc_X5 5 (by decide) fl_RX5_20 (v := .ref (a 5)) rfl dd_X5_readMoth_49 ?_
  refine J_iload_n hE dd_X5_readMoth_52 0 rfl rfl ?_
  refine J_iconst hE (v := (3 : Int32)) dd_X5_readMoth_53 (by decide) ?_
  refine J_iadd hE dd_X5_readMoth_54 ?_
  refine J_aload_n hE dd_X5_readMoth_55 1 rfl rfl ?_
  refine J_iconst hE (v := (0 : Int32)) dd_X5_readMoth_56 (by decide) ?_
  refine J_iconst hE (v := (2 : Int32)) dd_X5_readMoth_57 (by decide) ?_
  refine J_invVwi hE (e := fun x => x) (As := [.int (0 : Int32), .int (2 : Int32)]) (st := [.int (x1 + (3 : Int32)), .ref (a 5)]) (tX5_readNumber E.2.1 hv S8 (0 : Int32) (2 : Int32)) (hv.ob _) m_X5_readNumber rfl ml_RX5_126 (Nat.le_of_ble_eq_true rfl) (Nat.le_of_ble_eq_true rfl) rfl (Nat.le_of_ble_eq_true rfl) dd_X5_readMoth_58 (fun q9 => ?_)
  refine J_letS (fun S10 => ?_)
  refine J_ast hE hv 5 (N := 62) (by decide) dd_X5_readMoth_61 ?_
  refine J_letS (fun S11 => ?_)
  refine J_aload_n hE dd_X5_readMoth_62 1 rfl rfl ?_
  refine J_dup hE dd_X5_readMoth_63 rfl ?_
  refine J_get hE (hv.ob _) jc_X5 7 (by decide) fl_RX5_51 (v := .int (S11 7 0)) rfl dd_X5_readMoth_64 ?_
  refine J_iconst hE (v := (1 : Int32)) dd_X5_readMoth_67 (by decide) ?_
  refine J_iadd hE dd_X5_readMoth_68 ?_
  refine J_put hE hv jc_X5 7 (by decide) (by decide) fl_RX5_51 rfl rfl rfl (Nat.le_of_ble_eq_true rfl) dd_X5_readMoth_69 ?_
  refine J_letS (fun S12 => ?_)
  exact J_vret hE dd_X5_readMoth_72 rfl rfl
theorem dd_X5_readCamphor_0 : jd cX5_readCamphor 0 (.aload_n 0) 1 1 := ⟨by decide +kernel, rfl⟩
theorem dd_X5_readCamphor_1 : jd cX5_readCamphor 1 (.iconst 0) 1 2 := ⟨by decide +kernel, rfl⟩
theorem dd_X5_readCamphor_2 : jd cX5_readCamphor 2 (.iconst 4) 1 3 := ⟨by decide +kernel, rfl⟩
theorem dd_X5_readCamphor_3 : jd cX5_readCamphor 3 (.invokevirtual 119) 3 6 := ⟨by decide +kernel, rfl⟩
theorem dd_X5_readCamphor_6 : jd cX5_readCamphor 6 (.istore_n 1) 1 7 := ⟨by decide +kernel, rfl⟩
theorem dd_X5_readCamphor_7 : jd cX5_readCamphor 7 (.aload_n 0) 1 8 := ⟨by decide +kernel, rfl⟩
theorem dd_X5_readCamphor_8 : jd cX5_readCamphor 8 (.getfield 78) 3 11 := ⟨by decide +kernel, rfl⟩
theorem dd_X5_readCamphor_67 : jd cX5_readCamphor 67 (.aload_n 0) 1 68 := ⟨by decide +kernel, rfl⟩
theorem dd_X5_readCamphor_68 : jd cX5_readCamphor 68 (.invokevirtual 123) 3 71 := ⟨by decide +kernel, rfl⟩
theorem dd_X5_readCamphor_71 : jd cX5_readCamphor 71 (.return_) 1 72 := ⟨by decide +kernel, rfl⟩
theorem dd_X5_readCamphor_14 : jd cX5_readCamphor 14 (.aload_n 0) 1 15 := ⟨by decide +kernel, rfl⟩
theorem dd_X5_readCamphor_15 : jd cX5_readCamphor 15 (.aload_n 0) 1 16 := ⟨by decide +kernel, rfl⟩
theorem dd_X5_readCamphor_16 : jd cX5_readCamphor 16 (.getfield 57) 3 19 := ⟨by decide +kernel, rfl⟩
theorem dd_X5_readCamphor_19 : jd cX5_readCamphor 19 (.iload_n 1) 1 20 := ⟨by decide +kernel, rfl⟩
theorem dd_X5_readCamphor_20 : jd cX5_readCamphor 20 (.ishr) 1 21 := ⟨by decide +kernel, rfl⟩
theorem dd_X5_readCamphor_21 : jd cX5_readCamphor 21 (.iconst 1) 1 22 := ⟨by decide +kernel, rfl⟩
theorem dd_X5_readCamphor_22 : jd cX5_readCamphor 22 (.iand) 1 23 := ⟨by decide +kernel, rfl⟩
theorem dd_X5_readCamphor_30 : jd cX5_readCamphor 30 (.iconst 0) 1 31 := ⟨by decide +kernel, rfl⟩
theorem dd_X5_readCamphor_26 : jd cX5_readCamphor 26 (.iconst 1) 1 27 := ⟨by decide +kernel, rfl⟩
theorem dd_X5_readCamphor_27 : jd cX5_readCamphor 27 (.goto 4) 3 30 := ⟨by decide +kernel, rfl⟩
theorem dd_X5_readCamphor_23 : jd cX5_readCamphor 23 (.ifCond .ne 7) 3 26 := ⟨by decide +kernel, rfl⟩
theorem dd_X5_readCamphor_31 : jd cX5_readCamphor 31 (.iconst 4) 1 32 := ⟨by decide +kernel, rfl⟩
theorem dd_X5_readCamphor_32 : jd cX5_readCamphor 32 (.invokevirtual 115) 3 35 := ⟨by decide +kernel, rfl⟩
theorem dd_X5_readCamphor_35 : jd cX5_readCamphor 35 (.aload_n 0) 1 36 := ⟨by decide +kernel, rfl⟩
theorem dd_X5_readCamphor_36 : jd cX5_readCamphor 36 (.dup) 1 37 := ⟨by decide +kernel, rfl⟩
theorem dd_X5_readCamphor_37 : jd cX5_readCamphor 37 (.getfield 57) 3 40 := ⟨by decide +kernel, rfl⟩
theorem dd_X5_readCamphor_40 : jd cX5_readCamphor 40 (.iconst 1) 1 41 := ⟨by decide +kernel, rfl⟩
theorem dd_X5_readCamphor_41 : jd cX5_readCamphor 41 (.iload_n 1) 1 42 := ⟨by decide +kernel, rfl⟩
theorem dd_X5_readCamphor_42 : jd cX5_readCamphor 42 (.ishl) 1 43 := ⟨by decide +kernel, rfl⟩
theorem dd_X5_readCamphor_43 : jd cX5_readCamphor 43 (.ior) 1 44 := ⟨by decide +kernel, rfl⟩
theorem dd_X5_readCamphor_44 : jd cX5_readCamphor 44 (.putfield 57) 3 47 := ⟨by decide +kernel, rfl⟩
theorem dd_X5_readCamphor_47 : jd cX5_readCamphor 47 (.aload_n 0) 1 48 := ⟨by decide +kernel, rfl⟩
theorem dd_X5_readCamphor_48 : jd cX5_readCamphor 48 (.iload_n 1) 1 49 := ⟨by decide +kernel, rfl⟩
theorem dd_X5_readCamphor_49 : jd cX5_readCamphor 49 (.aload_n 0) 1 50 := ⟨by decide +kernel, rfl⟩
theorem dd_X5_readCamphor_50 : jd cX5_readCamphor 50 (.getfield 60) 3 53 := ⟨by decide +kernel, rfl⟩
theorem dd_X5_readCamphor_60 : jd cX5_readCamphor 60 (.aload_n 0) 1 61 := ⟨by decide +kernel, rfl⟩
theorem dd_X5_readCamphor_61 : jd cX5_readCamphor 61 (.getfield 60) 3 64 := ⟨by decide +kernel, rfl⟩
theorem dd_X5_readCamphor_64 : jd cX5_readCamphor 64 (.putfield 60) 3 67 := ⟨by decide +kernel, rfl⟩
theorem dd_X5_readCamphor_56 : jd cX5_readCamphor 56 (.iload_n 1) 1 57 := ⟨by decide +kernel, rfl⟩
theorem dd_X5_readCamphor_57 : jd cX5_readCamphor 57 (.goto 7) 3 60 := ⟨by decide +kernel, rfl⟩
theorem dd_X5_readCamphor_53 : jd cX5_readCamphor 53 (.if_icmp .le 7) 3 56 := ⟨by decide +kernel, rfl⟩
theorem dd_X5_readCamphor_11 : jd cX5_readCamphor 11 (.ifCond .ne 56) 3 14 := ⟨by decide +kernel, rfl⟩
theorem m_X5_readCamphor : jmV yX5_readCamphor cX5_readCamphor 2 none 0 := ⟨⟨(jj_m (w := Cond.code yX5_readCamphor cX5_readCamphor 2 none) (List.mem_of_getElem? (i := 952) (by decide +kernel)) rfl), (jj_m (w := Cond.initialized yX5_readCamphor.cls) (List.mem_of_getElem? (i := 69) (by decide +kernel)) rfl), ⟨by decide, by decide⟩, by decide +kernel⟩, (jj_m (w := Cond.instanceMethod yX5_readCamphor) (List.mem_of_getElem? (i := 951) (by decide +kernel)) rfl), (jj_m (w := Cond.selects yX5_readCamphor.cls yX5_readCamphor yX5_readCamphor) (List.mem_of_getElem? (i := 27) (by decide +kernel)) rfl)⟩
def fX5_readCamphor  (S : M2) : Option (M2) :=
  (fX5_looked (0 : Int32) (4 : Int32) S).bind fun q1 =>
  lt (q1.2) fun S2 =>
  if (S2 17 0) = 0 then
    jn (α := Option (M2)) (β := Int32) (fun j5 =>
      if (((S2 9 0) >>> (q1.1 &&& 31)) &&& (1 : Int32)) = 0 then
        j5 (1 : Int32)
      else
        j5 (0 : Int32)) (fun p7 => 
      (fX5_needs p7 (4 : Int32) S2).bind fun q8 =>
      lt (q8) fun S9 =>
      lt (va_up S9 9 (fun _ => ((S9 9 0) ||| ((1 : Int32) <<< (q1.1 &&& 31))))) fun S10 =>
      if q1.1 ≤ (S10 10 0) then
        lt (va_up S10 10 (fun _ => (S10 10 0))) fun S11 =>
        (fX5_next  S11).bind fun q12 =>
        lt (q12) fun S13 =>
        some S13
      else
        lt (va_up S10 10 (fun _ => q1.1)) fun S14 =>
        (fX5_next  S14).bind fun q15 =>
        lt (q15) fun S16 =>
        some S16)
  else
    (fX5_next  S2).bind fun q3 =>
    lt (q3) fun S4 =>
    some S4

set_option maxHeartbeats 4000000 in
set_option maxRecDepth 100000 in
theorem tX5_readCamphor (l : Launch) {V : JV M2} {b : Nat} {a : Nat → Nat} (hv : vX5 V b a) (S : M2)  : JC l V yX5_readCamphor cX5_readCamphor 2 none jj_v 2 [.ref b] S ((fX5_readCamphor  S).map (fun q => ((), q))) := by
  refine jj_of (by decide) (Nat.le_of_ble_eq_true rfl) (fun E hlE hE => ?_)
  unfold fX5_readCamphor
  refine J_sub (L' := [(0, .ref b)]) [0] rfl ?_
  refine J_aload_n hE dd_X5_readCamphor_0 0 rfl rfl ?_
  refine J_iconst hE (v := (0 : Int32)) dd_X5_readCamphor_1 (by decide) ?_
  refine J_iconst hE (v := (4 : Int32)) dd_X5_readCamphor_2 (by decide) ?_
  refine J_invVwi hE (e := fun x => x) (As := [.int (0 : Int32), .int (4 : Int32)]) (st := []) (tX5_looked E.2.1 hv S (0 : Int32) (4 : Int32)) (hv.ob _) m_X5_looked rfl ml_RX5_119 (Nat.le_of_ble_eq_true rfl) (Nat.le_of_ble_eq_true rfl) rfl (Nat.le_of_ble_eq_true rfl) dd_X5_readCamphor_3 (fun q1 => ?_)
  refine J_letS (fun S2 => ?_)
  refine J_istore_n hE (L' := [(1, .int q1.1), (0, .ref b)]) dd_X5_readCamphor_6 (Nat.le_of_ble_eq_true rfl) rfl rfl ?_
  refine J_aload_n hE dd_X5_readCamphor_7 1 rfl rfl ?_
  refine J_get hE (hv.ob _) jc_X5 17 (by decide) fl_RX5_78 (v := .int (S2 17 0)) rfl dd_X5_readCamphor_8 ?_
  refine J_if_ne hE (tgt := 67) dd_X5_readCamphor_11 (by decide) (fun c18 => ?_) (fun c18 => ?_)
  · refine J_aload_n hE dd_X5_readCamphor_67 1 rfl rfl ?_
    refine J_invVwv hE (e := fun x => x) (As := []) (st := []) (tX5_next E.2.1 hv S2 ) (hv.ob _) m_X5_next rfl ml_RX5_123 (Nat.le_of_ble_eq_true rfl) (Nat.le_of_ble_eq_true rfl) rfl (Nat.le_of_ble_eq_true rfl) dd_X5_readCamphor_68 (fun q3 => ?_)
    refine J_letS (fun S4 => ?_)
    exact J_vret hE dd_X5_readCamphor_71 rfl rfl
  · refine J_aload_n hE dd_X5_readCamphor_14 1 rfl rfl ?_
    refine J_aload_n hE dd_X5_readCamphor_15 1 rfl rfl ?_
    refine J_get hE (hv.ob _) jc_X5 9 (by decide) fl_RX5_57 (v := .int (S2 9 0)) rfl dd_X5_readCamphor_16 ?_
    refine J_iload_n hE dd_X5_readCamphor_19 0 rfl rfl ?_
    refine J_ishr hE dd_X5_readCamphor_20 ?_
    refine J_iconst hE (v := (1 : Int32)) dd_X5_readCamphor_21 (by decide) ?_
    refine J_iand hE dd_X5_readCamphor_22 ?_
    refine J_jn (m := 31) (Lf := fun p7 => [(0, .ref b), (1, .int q1.1)]) (sf := fun p7 => [.int p7, .ref b]) (Xf := fun p7 => S2) (fun p7 => ?_) (fun hj5 => ?_)
    · show J V E _ _ 31 [(0, .ref b), (1, .int q1.1)] [.int p7, .ref b] S2
      refine J_iconst hE (v := (4 : Int32)) dd_X5_readCamphor_31 (by decide) ?_
      refine J_invVwv hE (e := fun x => x) (As := [.int p7, .int (4 : Int32)]) (st := []) (tX5_needs E.2.1 hv S2 p7 (4 : Int32)) (hv.ob _) m_X5_needs rfl ml_RX5_115 (Nat.le_of_ble_eq_true rfl) (Nat.le_of_ble_eq_true rfl) rfl (Nat.le_of_ble_eq_true rfl) dd_X5_readCamphor_32 (fun q8 => ?_)
      refine J_letS (fun S9 => ?_)
      refine J_aload_n hE dd_X5_readCamphor_35 0 rfl rfl ?_
      refine J_dup hE dd_X5_readCamphor_36 rfl ?_
      refine J_get hE (hv.ob _) jc_X5 9 (by decide) fl_RX5_57 (v := .int (S9 9 0)) rfl dd_X5_readCamphor_37 ?_
      refine J_iconst hE (v := (1 : Int32)) dd_X5_readCamphor_40 (by decide) ?_
      refine J_iload_n hE dd_X5_readCamphor_41 1 rfl rfl ?_
      refine J_ishl hE dd_X5_readCamphor_42 ?_
      refine J_ior hE dd_X5_readCamphor_43 ?_
      refine J_put hE hv jc_X5 9 (by decide) (by decide) fl_RX5_57 rfl rfl rfl (Nat.le_of_ble_eq_true rfl) dd_X5_readCamphor_44 ?_
      refine J_letS (fun S10 => ?_)
      refine J_aload_n hE dd_X5_readCamphor_47 0 rfl rfl ?_
      refine J_iload_n hE dd_X5_readCamphor_48 1 rfl rfl ?_
      refine J_aload_n hE dd_X5_readCamphor_49 0 rfl rfl ?_
      refine J_get hE (hv.ob _) jc_X5 10 (by decide) fl_RX5_60 (v := .int (S10 10 0)) rfl dd_X5_readCamphor_50 ?_
      refine J_icmp_le hE (tgt := 60) dd_X5_readCamphor_53 (by decide) (fun c17 => ?_) (fun c17 => ?_)
      · refine J_aload_n hE dd_X5_readCamphor_60 0 rfl rfl ?_
        refine J_get hE (hv.ob _) jc_X5 10 (by decide) fl_RX5_60 (v := .int (S10 10 0)) rfl dd_X5_readCamphor_61 ?_
        refine J_put hE hv jc_X5 10 (by decide) (by decide) fl_RX5_60 rfl rfl rfl (Nat.le_of_ble_eq_true rfl) dd_X5_readCamphor_64 ?_
        refine J_letS (fun S11 => ?_)
        refine J_aload_n hE dd_X5_readCamphor_67 0 rfl rfl ?_
        refine J_invVwv hE (e := fun x => x) (As := []) (st := []) (tX5_next E.2.1 hv S11 ) (hv.ob _) m_X5_next rfl ml_RX5_123 (Nat.le_of_ble_eq_true rfl) (Nat.le_of_ble_eq_true rfl) rfl (Nat.le_of_ble_eq_true rfl) dd_X5_readCamphor_68 (fun q12 => ?_)
        refine J_letS (fun S13 => ?_)
        exact J_vret hE dd_X5_readCamphor_71 rfl rfl
      · refine J_iload_n hE dd_X5_readCamphor_56 1 rfl rfl ?_
        refine J_goto hE (tgt := 64) dd_X5_readCamphor_57 (by decide) ?_
        refine J_put hE hv jc_X5 10 (by decide) (by decide) fl_RX5_60 rfl rfl rfl (Nat.le_of_ble_eq_true rfl) dd_X5_readCamphor_64 ?_
        refine J_letS (fun S14 => ?_)
        refine J_aload_n hE dd_X5_readCamphor_67 0 rfl rfl ?_
        refine J_invVwv hE (e := fun x => x) (As := []) (st := []) (tX5_next E.2.1 hv S14 ) (hv.ob _) m_X5_next rfl ml_RX5_123 (Nat.le_of_ble_eq_true rfl) (Nat.le_of_ble_eq_true rfl) rfl (Nat.le_of_ble_eq_true rfl) dd_X5_readCamphor_68 (fun q15 => ?_)
        refine J_letS (fun S16 => ?_)
        exact J_vret hE dd_X5_readCamphor_71 rfl rfl
    · refine J_if_ne hE (tgt := 30) dd_X5_readCamphor_23 (by decide) (fun c6 => ?_) (fun c6 => ?_)
      · refine J_iconst hE (v := (0 : Int32)) dd_X5_readCamphor_30 (by decide) ?_
        refine J_sub [1, 0] rfl ?_
        exact hj5 (0 : Int32)
      · refine J_iconst hE (v := (1 : Int32)) dd_X5_readCamphor_26 (by decide) ?_
        refine J_goto hE (tgt := 31) dd_X5_readCamphor_27 (by decide) ?_
        refine J_sub [1, 0] rfl ?_
        exact hj5 (1 : Int32)
theorem dd_X5_readLineOf_0 : jd cX5_readLineOf 0 (.iload_n 1) 1 1 := ⟨by decide +kernel, rfl⟩
theorem dd_X5_readLineOf_32 : jd cX5_readLineOf 32 (.aload_n 0) 1 33 := ⟨by decide +kernel, rfl⟩
theorem ml_RX5_133 : (Cond.methodLink "MothCustomsModel" 133 yX5_readBolt : Cond) ∈ jj_tb := jj_m (List.mem_of_getElem? (i := 934) (by decide +kernel)) rfl
theorem dd_X5_readLineOf_33 : jd cX5_readLineOf 33 (.invokevirtual 133) 3 36 := ⟨by decide +kernel, rfl⟩
theorem dd_X5_readLineOf_84 : jd cX5_readLineOf 84 (.return_) 1 85 := ⟨by decide +kernel, rfl⟩
theorem dd_X5_readLineOf_36 : jd cX5_readLineOf 36 (.goto 48) 3 39 := ⟨by decide +kernel, rfl⟩
theorem dd_X5_readLineOf_39 : jd cX5_readLineOf 39 (.aload_n 0) 1 40 := ⟨by decide +kernel, rfl⟩
theorem ml_RX5_136 : (Cond.methodLink "MothCustomsModel" 136 yX5_readCamphor : Cond) ∈ jj_tb := jj_m (List.mem_of_getElem? (i := 949) (by decide +kernel)) rfl
theorem dd_X5_readLineOf_40 : jd cX5_readLineOf 40 (.invokevirtual 136) 3 43 := ⟨by decide +kernel, rfl⟩
theorem dd_X5_readLineOf_43 : jd cX5_readLineOf 43 (.goto 41) 3 46 := ⟨by decide +kernel, rfl⟩
theorem dd_X5_readLineOf_46 : jd cX5_readLineOf 46 (.aload_n 0) 1 47 := ⟨by decide +kernel, rfl⟩
theorem dd_X5_readLineOf_47 : jd cX5_readLineOf 47 (.getfield 20) 3 50 := ⟨by decide +kernel, rfl⟩
theorem dd_X5_readLineOf_50 : jd cX5_readLineOf 50 (.bipush 46) 2 52 := ⟨by decide +kernel, rfl⟩
theorem dd_X5_readLineOf_52 : jd cX5_readLineOf 52 (.aload_n 0) 1 53 := ⟨by decide +kernel, rfl⟩
theorem dd_X5_readLineOf_53 : jd cX5_readLineOf 53 (.iconst 0) 1 54 := ⟨by decide +kernel, rfl⟩
theorem dd_X5_readLineOf_54 : jd cX5_readLineOf 54 (.iconst 3) 1 55 := ⟨by decide +kernel, rfl⟩
theorem dd_X5_readLineOf_55 : jd cX5_readLineOf 55 (.invokevirtual 126) 3 58 := ⟨by decide +kernel, rfl⟩
theorem dd_X5_readLineOf_58 : jd cX5_readLineOf 58 (.iastore) 1 59 := ⟨by decide +kernel, rfl⟩
theorem dd_X5_readLineOf_59 : jd cX5_readLineOf 59 (.goto 25) 3 62 := ⟨by decide +kernel, rfl⟩
theorem dd_X5_readLineOf_62 : jd cX5_readLineOf 62 (.aload_n 0) 1 63 := ⟨by decide +kernel, rfl⟩
theorem dd_X5_readLineOf_63 : jd cX5_readLineOf 63 (.getfield 20) 3 66 := ⟨by decide +kernel, rfl⟩
theorem dd_X5_readLineOf_66 : jd cX5_readLineOf 66 (.bipush 47) 2 68 := ⟨by decide +kernel, rfl⟩
theorem dd_X5_readLineOf_68 : jd cX5_readLineOf 68 (.aload_n 0) 1 69 := ⟨by decide +kernel, rfl⟩
theorem dd_X5_readLineOf_69 : jd cX5_readLineOf 69 (.iconst 1) 1 70 := ⟨by decide +kernel, rfl⟩
theorem dd_X5_readLineOf_70 : jd cX5_readLineOf 70 (.bipush 9) 2 72 := ⟨by decide +kernel, rfl⟩
theorem dd_X5_readLineOf_72 : jd cX5_readLineOf 72 (.invokevirtual 126) 3 75 := ⟨by decide +kernel, rfl⟩
theorem dd_X5_readLineOf_75 : jd cX5_readLineOf 75 (.iastore) 1 76 := ⟨by decide +kernel, rfl⟩
theorem dd_X5_readLineOf_76 : jd cX5_readLineOf 76 (.goto 8) 3 79 := ⟨by decide +kernel, rfl⟩
theorem dd_X5_readLineOf_79 : jd cX5_readLineOf 79 (.aload_n 0) 1 80 := ⟨by decide +kernel, rfl⟩
theorem dd_X5_readLineOf_80 : jd cX5_readLineOf 80 (.iload_n 1) 1 81 := ⟨by decide +kernel, rfl⟩
theorem ml_RX5_139 : (Cond.methodLink "MothCustomsModel" 139 yX5_readMoth : Cond) ∈ jj_tb := jj_m (List.mem_of_getElem? (i := 953) (by decide +kernel)) rfl
theorem dd_X5_readLineOf_81 : jd cX5_readLineOf 81 (.invokevirtual 139) 3 84 := ⟨by decide +kernel, rfl⟩
theorem dd_X5_readLineOf_1 : jd cX5_readLineOf 1 (.tableswitch 78 4 7 #[31, 38, 45, 61]) 31 32 := ⟨by decide +kernel, rfl⟩
theorem m_X5_readLineOf : jmV yX5_readLineOf cX5_readLineOf 2 none 1 := ⟨⟨(jj_m (w := Cond.code yX5_readLineOf cX5_readLineOf 2 none) (List.mem_of_getElem? (i := 933) (by decide +kernel)) rfl), (jj_m (w := Cond.initialized yX5_readLineOf.cls) (List.mem_of_getElem? (i := 69) (by decide +kernel)) rfl), ⟨by decide, by decide⟩, by decide +kernel⟩, (jj_m (w := Cond.instanceMethod yX5_readLineOf) (List.mem_of_getElem? (i := 932) (by decide +kernel)) rfl), (jj_m (w := Cond.selects yX5_readLineOf.cls yX5_readLineOf yX5_readLineOf) (List.mem_of_getElem? (i := 23) (by decide +kernel)) rfl)⟩
def fX5_readLineOf (i1 : Int32) (S : M2) : Option (M2) :=
  if i1 = 4 then
    (fX5_readBolt  S).bind fun q2 =>
    lt (q2) fun S3 =>
    some S3
  else
    if i1 = 5 then
      (fX5_readCamphor  S).bind fun q5 =>
      lt (q5) fun S6 =>
      some S6
    else
      if i1 = 6 then
        (fX5_readNumber (0 : Int32) (3 : Int32) S).bind fun q8 =>
        lt (q8.2) fun S9 =>
        bnd (46 : Int32) 62 <|
        lt (va_up S9 5 (upd (S9 5) (46 : Int32).toNatClampNeg q8.1)) fun S10 =>
        some S10
      else
        if i1 = 7 then
          (fX5_readNumber (1 : Int32) (9 : Int32) S).bind fun q12 =>
          lt (q12.2) fun S13 =>
          bnd (47 : Int32) 62 <|
          lt (va_up S13 5 (upd (S13 5) (47 : Int32).toNatClampNeg q12.1)) fun S14 =>
          some S14
        else
          (fX5_readMoth i1 S).bind fun q15 =>
          lt (q15) fun S16 =>
          some S16

set_option maxHeartbeats 4000000 in
set_option maxRecDepth 100000 in
theorem tX5_readLineOf (l : Launch) {V : JV M2} {b : Nat} {a : Nat → Nat} (hv : vX5 V b a) (S : M2) (i1 : Int32) : JC l V yX5_readLineOf cX5_readLineOf 2 none jj_v 4 [.ref b, .int i1] S ((fX5_readLineOf i1 S).map (fun q => ((), q))) := by
  refine jj_of (by decide) (Nat.le_of_ble_eq_true rfl) (fun E hlE hE => ?_)
  unfold fX5_readLineOf
  refine J_sub (L' := [(0, .ref b), (1, .int i1)]) [0, 1] rfl ?_
  refine J_iload_n hE dd_X5_readLineOf_0 1 rfl rfl ?_
  refine J_ite (fun c1 => ?_) (fun c1 => ?_)
  · refine J_tsAt hE c1 (off := 31) (tgt := 32) dd_X5_readLineOf_1 (by decide) (by decide) (by decide) (by decide) ?_
    refine J_aload_n hE dd_X5_readLineOf_32 0 rfl rfl ?_
    refine J_invVwv hE (e := fun x => x) (As := []) (st := []) (tX5_readBolt E.2.1 hv S ) (hv.ob _) m_X5_readBolt rfl ml_RX5_133 (Nat.le_of_ble_eq_true rfl) (Nat.le_of_ble_eq_true rfl) rfl (Nat.le_of_ble_eq_true rfl) dd_X5_readLineOf_33 (fun q2 => ?_)
    refine J_letS (fun S3 => ?_)
    refine J_goto hE (tgt := 84) dd_X5_readLineOf_36 (by decide) ?_
    exact J_vret hE dd_X5_readLineOf_84 rfl rfl
  · refine J_ite (fun c4 => ?_) (fun c4 => ?_)
    · refine J_tsAt hE c4 (off := 38) (tgt := 39) dd_X5_readLineOf_1 (by decide) (by decide) (by decide) (by decide) ?_
      refine J_aload_n hE dd_X5_readLineOf_39 0 rfl rfl ?_
      refine J_invVwv hE (e := fun x => x) (As := []) (st := []) (tX5_readCamphor E.2.1 hv S ) (hv.ob _) m_X5_readCamphor rfl ml_RX5_136 (Nat.le_of_ble_eq_true rfl) (Nat.le_of_ble_eq_true rfl) rfl (Nat.le_of_ble_eq_true rfl) dd_X5_readLineOf_40 (fun q5 => ?_)
      refine J_letS (fun S6 => ?_)
      refine J_goto hE (tgt := 84) dd_X5_readLineOf_43 (by decide) ?_
      exact J_vret hE dd_X5_readLineOf_84 rfl rfl
    · refine J_ite (fun c7 => ?_) (fun c7 => ?_)
      · refine J_tsAt hE c7 (off := 45) (tgt := 46) dd_X5_readLineOf_1 (by decide) (by decide) (by decide) (by decide) ?_
        refine J_aload_n hE dd_X5_readLineOf_46 0 rfl rfl ?_
        refine J_get hE (hv.ob _) jc_X5 5 (by decide) fl_RX5_20 (v := .ref (a 5)) rfl dd_X5_readLineOf_47 ?_
        refine J_bipush hE (v := (46 : Int32)) dd_X5_readLineOf_50 (by decide) ?_
        refine J_aload_n hE dd_X5_readLineOf_52 0 rfl rfl ?_
        refine J_iconst hE (v := (0 : Int32)) dd_X5_readLineOf_53 (by decide) ?_
        refine J_iconst hE (v := (3 : Int32)) dd_X5_readLineOf_54 (by decide) ?_
        refine J_invVwi hE (e := fun x => x) (As := [.int (0 : Int32), .int (3 : Int32)]) (st := [.int (46 : Int32), .ref (a 5)]) (tX5_readNumber E.2.1 hv S (0 : Int32) (3 : Int32)) (hv.ob _) m_X5_readNumber rfl ml_RX5_126 (Nat.le_of_ble_eq_true rfl) (Nat.le_of_ble_eq_true rfl) rfl (Nat.le_of_ble_eq_true rfl) dd_X5_readLineOf_55 (fun q8 => ?_)
        refine J_letS (fun S9 => ?_)
        refine J_ast hE hv 5 (N := 62) (by decide) dd_X5_readLineOf_58 ?_
        refine J_letS (fun S10 => ?_)
        refine J_goto hE (tgt := 84) dd_X5_readLineOf_59 (by decide) ?_
        exact J_vret hE dd_X5_readLineOf_84 rfl rfl
      · refine J_ite (fun c11 => ?_) (fun c11 => ?_)
        · refine J_tsAt hE c11 (off := 61) (tgt := 62) dd_X5_readLineOf_1 (by decide) (by decide) (by decide) (by decide) ?_
          refine J_aload_n hE dd_X5_readLineOf_62 0 rfl rfl ?_
          refine J_get hE (hv.ob _) jc_X5 5 (by decide) fl_RX5_20 (v := .ref (a 5)) rfl dd_X5_readLineOf_63 ?_
          refine J_bipush hE (v := (47 : Int32)) dd_X5_readLineOf_66 (by decide) ?_
          refine J_aload_n hE dd_X5_readLineOf_68 0 rfl rfl ?_
          refine J_iconst hE (v := (1 : Int32)) dd_X5_readLineOf_69 (by decide) ?_
          refine J_bipush hE (v := (9 : Int32)) dd_X5_readLineOf_70 (by decide) ?_
          refine J_invVwi hE (e := fun x => x) (As := [.int (1 : Int32), .int (9 : Int32)]) (st := [.int (47 : Int32), .ref (a 5)]) (tX5_readNumber E.2.1 hv S (1 : Int32) (9 : Int32)) (hv.ob _) m_X5_readNumber rfl ml_RX5_126 (Nat.le_of_ble_eq_true rfl) (Nat.le_of_ble_eq_true rfl) rfl (Nat.le_of_ble_eq_true rfl) dd_X5_readLineOf_72 (fun q12 => ?_)
          refine J_letS (fun S13 => ?_)
          refine J_ast hE hv 5 (N := 62) (by decide) dd_X5_readLineOf_75 ?_
          refine J_letS (fun S14 => ?_)
          refine J_goto hE (tgt := 84) dd_X5_readLineOf_76 (by decide) ?_
          exact J_vret hE dd_X5_readLineOf_84 rfl rfl
        · refine J_tsOut hE (tgt := 79) dd_X5_readLineOf_1 (by have e0 : ¬ (i1).toInt = 4 := fun q => c1 (Int32.toInt_inj.mp (q.trans (by decide))); have e1 : ¬ (i1).toInt = 5 := fun q => c4 (Int32.toInt_inj.mp (q.trans (by decide))); have e2 : ¬ (i1).toInt = 6 := fun q => c7 (Int32.toInt_inj.mp (q.trans (by decide))); have e3 : ¬ (i1).toInt = 7 := fun q => c11 (Int32.toInt_inj.mp (q.trans (by decide))); omega) (by decide) ?_
          refine J_aload_n hE dd_X5_readLineOf_79 0 rfl rfl ?_
          refine J_iload_n hE dd_X5_readLineOf_80 1 rfl rfl ?_
          refine J_invVwv hE (e := fun x => x) (As := [.int i1]) (st := []) (tX5_readMoth E.2.1 hv S i1) (hv.ob _) m_X5_readMoth rfl ml_RX5_139 (Nat.le_of_ble_eq_true rfl) (Nat.le_of_ble_eq_true rfl) rfl (Nat.le_of_ble_eq_true rfl) dd_X5_readLineOf_81 (fun q15 => ?_)
          refine J_letS (fun S16 => ?_)
          exact J_vret hE dd_X5_readLineOf_84 rfl rfl
theorem dd_X5_readLine_0 : jd cX5_readLine 0 (.aload_n 0) 1 1 := ⟨by decide +kernel, rfl⟩
theorem dd_X5_readLine_1 : jd cX5_readLine 1 (.getfield 101) 3 4 := ⟨by decide +kernel, rfl⟩
theorem dd_X5_readLine_4 : jd cX5_readLine 4 (.iconst 1) 1 5 := ⟨by decide +kernel, rfl⟩
theorem dd_X5_readLine_15 : jd cX5_readLine 15 (.bipush (-4)) 2 17 := ⟨by decide +kernel, rfl⟩
theorem dd_X5_readLine_8 : jd cX5_readLine 8 (.aload_n 0) 1 9 := ⟨by decide +kernel, rfl⟩
theorem ml_RX5_143 : (Cond.methodLink "MothCustomsModel" 143 yX5_lineNow : Cond) ∈ jj_tb := jj_m (List.mem_of_getElem? (i := 918) (by decide +kernel)) rfl
theorem dd_X5_readLine_9 : jd cX5_readLine 9 (.invokevirtual 143) 3 12 := ⟨by decide +kernel, rfl⟩
theorem dd_X5_readLine_12 : jd cX5_readLine 12 (.goto 5) 3 15 := ⟨by decide +kernel, rfl⟩
theorem dd_X5_readLine_5 : jd cX5_readLine 5 (.if_icmp .ne 10) 3 8 := ⟨by decide +kernel, rfl⟩
theorem dd_X5_readLine_17 : jd cX5_readLine 17 (.istore_n 1) 1 18 := ⟨by decide +kernel, rfl⟩
theorem dd_X5_readLine_18 : jd cX5_readLine 18 (.aload_n 0) 1 19 := ⟨by decide +kernel, rfl⟩
theorem dd_X5_readLine_19 : jd cX5_readLine 19 (.iload_n 1) 1 20 := ⟨by decide +kernel, rfl⟩
theorem dd_X5_readLine_20 : jd cX5_readLine 20 (.bipush (-4)) 2 22 := ⟨by decide +kernel, rfl⟩
theorem dd_X5_readLine_29 : jd cX5_readLine 29 (.iconst 0) 1 30 := ⟨by decide +kernel, rfl⟩
theorem dd_X5_readLine_25 : jd cX5_readLine 25 (.iconst 1) 1 26 := ⟨by decide +kernel, rfl⟩
theorem dd_X5_readLine_26 : jd cX5_readLine 26 (.goto 4) 3 29 := ⟨by decide +kernel, rfl⟩
theorem dd_X5_readLine_22 : jd cX5_readLine 22 (.if_icmp .eq 7) 3 25 := ⟨by decide +kernel, rfl⟩
theorem dd_X5_readLine_30 : jd cX5_readLine 30 (.iconst 2) 1 31 := ⟨by decide +kernel, rfl⟩
theorem dd_X5_readLine_31 : jd cX5_readLine 31 (.invokevirtual 115) 3 34 := ⟨by decide +kernel, rfl⟩
theorem dd_X5_readLine_34 : jd cX5_readLine 34 (.aload_n 0) 1 35 := ⟨by decide +kernel, rfl⟩
theorem dd_X5_readLine_35 : jd cX5_readLine 35 (.iload_n 1) 1 36 := ⟨by decide +kernel, rfl⟩
theorem dd_X5_readLine_36 : jd cX5_readLine 36 (.iconst 4) 1 37 := ⟨by decide +kernel, rfl⟩
theorem dd_X5_readLine_56 : jd cX5_readLine 56 (.iload_n 1) 1 57 := ⟨by decide +kernel, rfl⟩
theorem dd_X5_readLine_57 : jd cX5_readLine 57 (.iconst 4) 1 58 := ⟨by decide +kernel, rfl⟩
theorem dd_X5_readLine_61 : jd cX5_readLine 61 (.aload_n 0) 1 62 := ⟨by decide +kernel, rfl⟩
theorem dd_X5_readLine_62 : jd cX5_readLine 62 (.getfield 51) 3 65 := ⟨by decide +kernel, rfl⟩
theorem dd_X5_readLine_65 : jd cX5_readLine 65 (.iconst 4) 1 66 := ⟨by decide +kernel, rfl⟩
theorem dd_X5_readLine_73 : jd cX5_readLine 73 (.iconst 0) 1 74 := ⟨by decide +kernel, rfl⟩
theorem dd_X5_readLine_66 : jd cX5_readLine 66 (.if_icmp .ge 7) 3 69 := ⟨by decide +kernel, rfl⟩
theorem dd_X5_readLine_58 : jd cX5_readLine 58 (.if_icmp .gt 11) 3 61 := ⟨by decide +kernel, rfl⟩
theorem dd_X5_readLine_69 : jd cX5_readLine 69 (.iconst 1) 1 70 := ⟨by decide +kernel, rfl⟩
theorem dd_X5_readLine_70 : jd cX5_readLine 70 (.goto 4) 3 73 := ⟨by decide +kernel, rfl⟩
theorem dd_X5_readLine_40 : jd cX5_readLine 40 (.aload_n 0) 1 41 := ⟨by decide +kernel, rfl⟩
theorem dd_X5_readLine_41 : jd cX5_readLine 41 (.getfield 47) 3 44 := ⟨by decide +kernel, rfl⟩
theorem dd_X5_readLine_44 : jd cX5_readLine 44 (.iconst 5) 1 45 := ⟨by decide +kernel, rfl⟩
theorem dd_X5_readLine_52 : jd cX5_readLine 52 (.iconst 0) 1 53 := ⟨by decide +kernel, rfl⟩
theorem dd_X5_readLine_53 : jd cX5_readLine 53 (.goto 21) 3 56 := ⟨by decide +kernel, rfl⟩
theorem dd_X5_readLine_48 : jd cX5_readLine 48 (.iconst 1) 1 49 := ⟨by decide +kernel, rfl⟩
theorem dd_X5_readLine_49 : jd cX5_readLine 49 (.goto 25) 3 52 := ⟨by decide +kernel, rfl⟩
theorem dd_X5_readLine_45 : jd cX5_readLine 45 (.if_icmp .ge 7) 3 48 := ⟨by decide +kernel, rfl⟩
theorem dd_X5_readLine_37 : jd cX5_readLine 37 (.if_icmp .ne 19) 3 40 := ⟨by decide +kernel, rfl⟩
theorem dd_X5_readLine_74 : jd cX5_readLine 74 (.iconst 5) 1 75 := ⟨by decide +kernel, rfl⟩
theorem dd_X5_readLine_75 : jd cX5_readLine 75 (.invokevirtual 115) 3 78 := ⟨by decide +kernel, rfl⟩
theorem dd_X5_readLine_78 : jd cX5_readLine 78 (.aload_n 0) 1 79 := ⟨by decide +kernel, rfl⟩
theorem dd_X5_readLine_79 : jd cX5_readLine 79 (.getfield 78) 3 82 := ⟨by decide +kernel, rfl⟩
theorem dd_X5_readLine_85 : jd cX5_readLine 85 (.iload_n 1) 1 86 := ⟨by decide +kernel, rfl⟩
theorem dd_X5_readLine_86 : jd cX5_readLine 86 (.bipush 6) 2 88 := ⟨by decide +kernel, rfl⟩
theorem dd_X5_readLine_91 : jd cX5_readLine 91 (.aload_n 0) 1 92 := ⟨by decide +kernel, rfl⟩
theorem dd_X5_readLine_92 : jd cX5_readLine 92 (.aload_n 0) 1 93 := ⟨by decide +kernel, rfl⟩
theorem dd_X5_readLine_93 : jd cX5_readLine 93 (.getfield 54) 3 96 := ⟨by decide +kernel, rfl⟩
theorem dd_X5_readLine_96 : jd cX5_readLine 96 (.iload_n 1) 1 97 := ⟨by decide +kernel, rfl⟩
theorem dd_X5_readLine_97 : jd cX5_readLine 97 (.ishr) 1 98 := ⟨by decide +kernel, rfl⟩
theorem dd_X5_readLine_98 : jd cX5_readLine 98 (.iconst 1) 1 99 := ⟨by decide +kernel, rfl⟩
theorem dd_X5_readLine_99 : jd cX5_readLine 99 (.iand) 1 100 := ⟨by decide +kernel, rfl⟩
theorem dd_X5_readLine_107 : jd cX5_readLine 107 (.iconst 0) 1 108 := ⟨by decide +kernel, rfl⟩
theorem dd_X5_readLine_103 : jd cX5_readLine 103 (.iconst 1) 1 104 := ⟨by decide +kernel, rfl⟩
theorem dd_X5_readLine_104 : jd cX5_readLine 104 (.goto 4) 3 107 := ⟨by decide +kernel, rfl⟩
theorem dd_X5_readLine_100 : jd cX5_readLine 100 (.ifCond .ne 7) 3 103 := ⟨by decide +kernel, rfl⟩
theorem dd_X5_readLine_108 : jd cX5_readLine 108 (.iconst 4) 1 109 := ⟨by decide +kernel, rfl⟩
theorem dd_X5_readLine_109 : jd cX5_readLine 109 (.invokevirtual 115) 3 112 := ⟨by decide +kernel, rfl⟩
theorem dd_X5_readLine_112 : jd cX5_readLine 112 (.aload_n 0) 1 113 := ⟨by decide +kernel, rfl⟩
theorem dd_X5_readLine_113 : jd cX5_readLine 113 (.dup) 1 114 := ⟨by decide +kernel, rfl⟩
theorem dd_X5_readLine_114 : jd cX5_readLine 114 (.getfield 54) 3 117 := ⟨by decide +kernel, rfl⟩
theorem dd_X5_readLine_117 : jd cX5_readLine 117 (.iconst 1) 1 118 := ⟨by decide +kernel, rfl⟩
theorem dd_X5_readLine_118 : jd cX5_readLine 118 (.iload_n 1) 1 119 := ⟨by decide +kernel, rfl⟩
theorem dd_X5_readLine_119 : jd cX5_readLine 119 (.ishl) 1 120 := ⟨by decide +kernel, rfl⟩
theorem dd_X5_readLine_120 : jd cX5_readLine 120 (.ior) 1 121 := ⟨by decide +kernel, rfl⟩
theorem dd_X5_readLine_121 : jd cX5_readLine 121 (.putfield 54) 3 124 := ⟨by decide +kernel, rfl⟩
theorem dd_X5_readLine_88 : jd cX5_readLine 88 (.if_icmp .lt 36) 3 91 := ⟨by decide +kernel, rfl⟩
theorem dd_X5_readLine_82 : jd cX5_readLine 82 (.ifCond .ne 42) 3 85 := ⟨by decide +kernel, rfl⟩
theorem dd_X5_readLine_124 : jd cX5_readLine 124 (.aload_n 0) 1 125 := ⟨by decide +kernel, rfl⟩
theorem dd_X5_readLine_125 : jd cX5_readLine 125 (.invokevirtual 123) 3 128 := ⟨by decide +kernel, rfl⟩
theorem dd_X5_readLine_128 : jd cX5_readLine 128 (.aload_n 0) 1 129 := ⟨by decide +kernel, rfl⟩
theorem dd_X5_readLine_129 : jd cX5_readLine 129 (.getfield 78) 3 132 := ⟨by decide +kernel, rfl⟩
theorem dd_X5_readLine_136 : jd cX5_readLine 136 (.aload_n 0) 1 137 := ⟨by decide +kernel, rfl⟩
theorem dd_X5_readLine_137 : jd cX5_readLine 137 (.iload_n 1) 1 138 := ⟨by decide +kernel, rfl⟩
theorem ml_RX5_147 : (Cond.methodLink "MothCustomsModel" 147 yX5_readLineOf : Cond) ∈ jj_tb := jj_m (List.mem_of_getElem? (i := 930) (by decide +kernel)) rfl
theorem dd_X5_readLine_138 : jd cX5_readLine 138 (.invokevirtual 147) 3 141 := ⟨by decide +kernel, rfl⟩
theorem dd_X5_readLine_141 : jd cX5_readLine 141 (.aload_n 0) 1 142 := ⟨by decide +kernel, rfl⟩
theorem dd_X5_readLine_142 : jd cX5_readLine 142 (.getfield 78) 3 145 := ⟨by decide +kernel, rfl⟩
theorem dd_X5_readLine_166 : jd cX5_readLine 166 (.aload_n 0) 1 167 := ⟨by decide +kernel, rfl⟩
theorem dd_X5_readLine_167 : jd cX5_readLine 167 (.invokevirtual 123) 3 170 := ⟨by decide +kernel, rfl⟩
theorem dd_X5_readLine_170 : jd cX5_readLine 170 (.return_) 1 171 := ⟨by decide +kernel, rfl⟩
theorem dd_X5_readLine_148 : jd cX5_readLine 148 (.aload_n 0) 1 149 := ⟨by decide +kernel, rfl⟩
theorem dd_X5_readLine_149 : jd cX5_readLine 149 (.aload_n 0) 1 150 := ⟨by decide +kernel, rfl⟩
theorem dd_X5_readLine_150 : jd cX5_readLine 150 (.getfield 101) 3 153 := ⟨by decide +kernel, rfl⟩
theorem dd_X5_readLine_153 : jd cX5_readLine 153 (.iconst 3) 1 154 := ⟨by decide +kernel, rfl⟩
theorem dd_X5_readLine_161 : jd cX5_readLine 161 (.iconst 0) 1 162 := ⟨by decide +kernel, rfl⟩
theorem dd_X5_readLine_157 : jd cX5_readLine 157 (.iconst 1) 1 158 := ⟨by decide +kernel, rfl⟩
theorem dd_X5_readLine_158 : jd cX5_readLine 158 (.goto 4) 3 161 := ⟨by decide +kernel, rfl⟩
theorem dd_X5_readLine_154 : jd cX5_readLine 154 (.if_icmp .ne 7) 3 157 := ⟨by decide +kernel, rfl⟩
theorem dd_X5_readLine_162 : jd cX5_readLine 162 (.iconst 2) 1 163 := ⟨by decide +kernel, rfl⟩
theorem dd_X5_readLine_163 : jd cX5_readLine 163 (.invokevirtual 115) 3 166 := ⟨by decide +kernel, rfl⟩
theorem dd_X5_readLine_145 : jd cX5_readLine 145 (.ifCond .ne 21) 3 148 := ⟨by decide +kernel, rfl⟩
theorem dd_X5_readLine_135 : jd cX5_readLine 135 (.return_) 1 136 := ⟨by decide +kernel, rfl⟩
theorem dd_X5_readLine_132 : jd cX5_readLine 132 (.ifCond .le 4) 3 135 := ⟨by decide +kernel, rfl⟩
theorem m_X5_readLine : jmV yX5_readLine cX5_readLine 2 none 0 := ⟨⟨(jj_m (w := Cond.code yX5_readLine cX5_readLine 2 none) (List.mem_of_getElem? (i := 917) (by decide +kernel)) rfl), (jj_m (w := Cond.initialized yX5_readLine.cls) (List.mem_of_getElem? (i := 69) (by decide +kernel)) rfl), ⟨by decide, by decide⟩, by decide +kernel⟩, (jj_m (w := Cond.instanceMethod yX5_readLine) (List.mem_of_getElem? (i := 916) (by decide +kernel)) rfl), (jj_m (w := Cond.selects yX5_readLine.cls yX5_readLine yX5_readLine) (List.mem_of_getElem? (i := 19) (by decide +kernel)) rfl)⟩
def fX5_readLine  (S : M2) : Option (M2) :=
  jn (α := Option (M2)) (β := Int32) (fun j1 =>
    if (S 15 0) = (1 : Int32) then
      (fX5_lineNow  S).bind fun r2 =>
      j1 r2
    else
      j1 (-4 : Int32)) (fun p4 => 
    jn (α := Option (M2)) (β := Int32) (fun j5 =>
      if p4 = (-4 : Int32) then
        j5 (0 : Int32)
      else
        j5 (1 : Int32)) (fun p7 => 
      (fX5_needs p7 (2 : Int32) S).bind fun q8 =>
      lt (q8) fun S9 =>
      jn (α := Option (M2)) (β := Int32) (fun j10 =>
        if p4 = (4 : Int32) then
          if (5 : Int32) ≤ (S9 6 0) then
            j10 (0 : Int32)
          else
            j10 (1 : Int32)
        else
          jn (α := Option (M2)) (β := Unit) (fun j11 =>
            if (4 : Int32) < p4 then
              j11 ()
            else
              if (4 : Int32) ≤ (S9 7 0) then
                j10 (0 : Int32)
              else
                j11 ()) (fun _ => 
            j10 (1 : Int32))) (fun p17 => 
        (fX5_needs p17 (5 : Int32) S9).bind fun q18 =>
        lt (q18) fun S19 =>
        jn (α := Option (M2)) (β := M2) (fun j20 =>
          if (S19 17 0) = 0 then
            if p4 < (6 : Int32) then
              j20 S19
            else
              jn (α := Option (M2)) (β := Int32) (fun j21 =>
                if (((S19 8 0) >>> (p4 &&& 31)) &&& (1 : Int32)) = 0 then
                  j21 (1 : Int32)
                else
                  j21 (0 : Int32)) (fun p23 => 
                (fX5_needs p23 (4 : Int32) S19).bind fun q24 =>
                lt (q24) fun S25 =>
                lt (va_up S25 8 (fun _ => ((S25 8 0) ||| ((1 : Int32) <<< (p4 &&& 31))))) fun S26 =>
                j20 S26)
          else
            j20 S19) (fun p29 => 
          (fX5_next  p29).bind fun q30 =>
          lt (q30) fun S31 =>
          if (S31 17 0) ≤ 0 then
            (fX5_readLineOf p4 S31).bind fun q32 =>
            lt (q32) fun S33 =>
            if (S33 17 0) = 0 then
              jn (α := Option (M2)) (β := Int32) (fun j36 =>
                if (S33 15 0) = (3 : Int32) then
                  j36 (1 : Int32)
                else
                  j36 (0 : Int32)) (fun p38 => 
                (fX5_needs p38 (2 : Int32) S33).bind fun q39 =>
                lt (q39) fun S40 =>
                (fX5_next  S40).bind fun q41 =>
                lt (q41) fun S42 =>
                some S42)
            else
              (fX5_next  S33).bind fun q34 =>
              lt (q34) fun S35 =>
              some S35
          else
            some S31))))

set_option maxHeartbeats 4000000 in
set_option maxRecDepth 100000 in
theorem tX5_readLine (l : Launch) {V : JV M2} {b : Nat} {a : Nat → Nat} (hv : vX5 V b a) (S : M2)  : JC l V yX5_readLine cX5_readLine 2 none jj_v 5 [.ref b] S ((fX5_readLine  S).map (fun q => ((), q))) := by
  refine jj_of (by decide) (Nat.le_of_ble_eq_true rfl) (fun E hlE hE => ?_)
  unfold fX5_readLine
  refine J_sub (L' := [(0, .ref b)]) [0] rfl ?_
  refine J_aload_n hE dd_X5_readLine_0 0 rfl rfl ?_
  refine J_get hE (hv.ob _) jc_X5 15 (by decide) fl_RX5_101 (v := .int (S 15 0)) rfl dd_X5_readLine_1 ?_
  refine J_iconst hE (v := (1 : Int32)) dd_X5_readLine_4 (by decide) ?_
  refine J_jn (m := 17) (Lf := fun p4 => [(0, .ref b)]) (sf := fun p4 => [.int p4]) (Xf := fun p4 => S) (fun p4 => ?_) (fun hj1 => ?_)
  · show J V E _ _ 17 [(0, .ref b)] [.int p4] S
    refine J_istore_n hE (L' := [(1, .int p4), (0, .ref b)]) dd_X5_readLine_17 (Nat.le_of_ble_eq_true rfl) rfl rfl ?_
    refine J_aload_n hE dd_X5_readLine_18 1 rfl rfl ?_
    refine J_iload_n hE dd_X5_readLine_19 0 rfl rfl ?_
    refine J_bipush hE (v := (-4 : Int32)) dd_X5_readLine_20 (by decide) ?_
    refine J_jn (m := 30) (Lf := fun p7 => [(0, .ref b), (1, .int p4)]) (sf := fun p7 => [.int p7, .ref b]) (Xf := fun p7 => S) (fun p7 => ?_) (fun hj5 => ?_)
    · show J V E _ _ 30 [(0, .ref b), (1, .int p4)] [.int p7, .ref b] S
      refine J_iconst hE (v := (2 : Int32)) dd_X5_readLine_30 (by decide) ?_
      refine J_invVwv hE (e := fun x => x) (As := [.int p7, .int (2 : Int32)]) (st := []) (tX5_needs E.2.1 hv S p7 (2 : Int32)) (hv.ob _) m_X5_needs rfl ml_RX5_115 (Nat.le_of_ble_eq_true rfl) (Nat.le_of_ble_eq_true rfl) rfl (Nat.le_of_ble_eq_true rfl) dd_X5_readLine_31 (fun q8 => ?_)
      refine J_letS (fun S9 => ?_)
      refine J_aload_n hE dd_X5_readLine_34 0 rfl rfl ?_
      refine J_iload_n hE dd_X5_readLine_35 1 rfl rfl ?_
      refine J_iconst hE (v := (4 : Int32)) dd_X5_readLine_36 (by decide) ?_
      refine J_jn (m := 74) (Lf := fun p17 => [(0, .ref b), (1, .int p4)]) (sf := fun p17 => [.int p17, .ref b]) (Xf := fun p17 => S9) (fun p17 => ?_) (fun hj10 => ?_)
      · show J V E _ _ 74 [(0, .ref b), (1, .int p4)] [.int p17, .ref b] S9
        refine J_iconst hE (v := (5 : Int32)) dd_X5_readLine_74 (by decide) ?_
        refine J_invVwv hE (e := fun x => x) (As := [.int p17, .int (5 : Int32)]) (st := []) (tX5_needs E.2.1 hv S9 p17 (5 : Int32)) (hv.ob _) m_X5_needs rfl ml_RX5_115 (Nat.le_of_ble_eq_true rfl) (Nat.le_of_ble_eq_true rfl) rfl (Nat.le_of_ble_eq_true rfl) dd_X5_readLine_75 (fun q18 => ?_)
        refine J_letS (fun S19 => ?_)
        refine J_aload_n hE dd_X5_readLine_78 0 rfl rfl ?_
        refine J_get hE (hv.ob _) jc_X5 17 (by decide) fl_RX5_78 (v := .int (S19 17 0)) rfl dd_X5_readLine_79 ?_
        refine J_jn (m := 124) (Lf := fun p29 => [(0, .ref b), (1, .int p4)]) (sf := fun p29 => []) (Xf := fun p29 => p29) (fun p29 => ?_) (fun hj20 => ?_)
        · show J V E _ _ 124 [(0, .ref b), (1, .int p4)] [] p29
          refine J_aload_n hE dd_X5_readLine_124 0 rfl rfl ?_
          refine J_invVwv hE (e := fun x => x) (As := []) (st := []) (tX5_next E.2.1 hv p29 ) (hv.ob _) m_X5_next rfl ml_RX5_123 (Nat.le_of_ble_eq_true rfl) (Nat.le_of_ble_eq_true rfl) rfl (Nat.le_of_ble_eq_true rfl) dd_X5_readLine_125 (fun q30 => ?_)
          refine J_letS (fun S31 => ?_)
          refine J_aload_n hE dd_X5_readLine_128 0 rfl rfl ?_
          refine J_get hE (hv.ob _) jc_X5 17 (by decide) fl_RX5_78 (v := .int (S31 17 0)) rfl dd_X5_readLine_129 ?_
          refine J_if_le hE (tgt := 136) dd_X5_readLine_132 (by decide) (fun c44 => ?_) (fun c44 => ?_)
          · refine J_aload_n hE dd_X5_readLine_136 0 rfl rfl ?_
            refine J_iload_n hE dd_X5_readLine_137 1 rfl rfl ?_
            refine J_invVwv hE (e := fun x => x) (As := [.int p4]) (st := []) (tX5_readLineOf E.2.1 hv S31 p4) (hv.ob _) m_X5_readLineOf rfl ml_RX5_147 (Nat.le_of_ble_eq_true rfl) (Nat.le_of_ble_eq_true rfl) rfl (Nat.le_of_ble_eq_true rfl) dd_X5_readLine_138 (fun q32 => ?_)
            refine J_letS (fun S33 => ?_)
            refine J_aload_n hE dd_X5_readLine_141 0 rfl rfl ?_
            refine J_get hE (hv.ob _) jc_X5 17 (by decide) fl_RX5_78 (v := .int (S33 17 0)) rfl dd_X5_readLine_142 ?_
            refine J_if_ne hE (tgt := 166) dd_X5_readLine_145 (by decide) (fun c43 => ?_) (fun c43 => ?_)
            · refine J_aload_n hE dd_X5_readLine_166 0 rfl rfl ?_
              refine J_invVwv hE (e := fun x => x) (As := []) (st := []) (tX5_next E.2.1 hv S33 ) (hv.ob _) m_X5_next rfl ml_RX5_123 (Nat.le_of_ble_eq_true rfl) (Nat.le_of_ble_eq_true rfl) rfl (Nat.le_of_ble_eq_true rfl) dd_X5_readLine_167 (fun q34 => ?_)
              refine J_letS (fun S35 => ?_)
              exact J_vret hE dd_X5_readLine_170 rfl rfl
            · refine J_aload_n hE dd_X5_readLine_148 0 rfl rfl ?_
              refine J_aload_n hE dd_X5_readLine_149 0 rfl rfl ?_
              refine J_get hE (hv.ob _) jc_X5 15 (by decide) fl_RX5_101 (v := .int (S33 15 0)) rfl dd_X5_readLine_150 ?_
              refine J_iconst hE (v := (3 : Int32)) dd_X5_readLine_153 (by decide) ?_
              refine J_jn (m := 162) (Lf := fun p38 => [(0, .ref b)]) (sf := fun p38 => [.int p38, .ref b]) (Xf := fun p38 => S33) (fun p38 => ?_) (fun hj36 => ?_)
              · show J V E _ _ 162 [(0, .ref b)] [.int p38, .ref b] S33
                refine J_iconst hE (v := (2 : Int32)) dd_X5_readLine_162 (by decide) ?_
                refine J_invVwv hE (e := fun x => x) (As := [.int p38, .int (2 : Int32)]) (st := []) (tX5_needs E.2.1 hv S33 p38 (2 : Int32)) (hv.ob _) m_X5_needs rfl ml_RX5_115 (Nat.le_of_ble_eq_true rfl) (Nat.le_of_ble_eq_true rfl) rfl (Nat.le_of_ble_eq_true rfl) dd_X5_readLine_163 (fun q39 => ?_)
                refine J_letS (fun S40 => ?_)
                refine J_aload_n hE dd_X5_readLine_166 0 rfl rfl ?_
                refine J_invVwv hE (e := fun x => x) (As := []) (st := []) (tX5_next E.2.1 hv S40 ) (hv.ob _) m_X5_next rfl ml_RX5_123 (Nat.le_of_ble_eq_true rfl) (Nat.le_of_ble_eq_true rfl) rfl (Nat.le_of_ble_eq_true rfl) dd_X5_readLine_167 (fun q41 => ?_)
                refine J_letS (fun S42 => ?_)
                exact J_vret hE dd_X5_readLine_170 rfl rfl
              · refine J_icmp_ne hE (tgt := 161) dd_X5_readLine_154 (by decide) (fun c37 => ?_) (fun c37 => ?_)
                · refine J_iconst hE (v := (0 : Int32)) dd_X5_readLine_161 (by decide) ?_
                  refine J_sub [0] rfl ?_
                  exact hj36 (0 : Int32)
                · refine J_iconst hE (v := (1 : Int32)) dd_X5_readLine_157 (by decide) ?_
                  refine J_goto hE (tgt := 162) dd_X5_readLine_158 (by decide) ?_
                  refine J_sub [0] rfl ?_
                  exact hj36 (1 : Int32)
          · exact J_vret hE dd_X5_readLine_135 rfl rfl
        · refine J_if_ne hE (tgt := 124) dd_X5_readLine_82 (by decide) (fun c28 => ?_) (fun c28 => ?_)
          · refine J_sub [0, 1] rfl ?_
            exact hj20 S19
          · refine J_iload_n hE dd_X5_readLine_85 1 rfl rfl ?_
            refine J_bipush hE (v := (6 : Int32)) dd_X5_readLine_86 (by decide) ?_
            refine J_icmp_lt hE (tgt := 124) dd_X5_readLine_88 (by decide) (fun c27 => ?_) (fun c27 => ?_)
            · refine J_sub [0, 1] rfl ?_
              exact hj20 S19
            · refine J_aload_n hE dd_X5_readLine_91 0 rfl rfl ?_
              refine J_aload_n hE dd_X5_readLine_92 0 rfl rfl ?_
              refine J_get hE (hv.ob _) jc_X5 8 (by decide) fl_RX5_54 (v := .int (S19 8 0)) rfl dd_X5_readLine_93 ?_
              refine J_iload_n hE dd_X5_readLine_96 1 rfl rfl ?_
              refine J_ishr hE dd_X5_readLine_97 ?_
              refine J_iconst hE (v := (1 : Int32)) dd_X5_readLine_98 (by decide) ?_
              refine J_iand hE dd_X5_readLine_99 ?_
              refine J_jn (m := 108) (Lf := fun p23 => [(0, .ref b), (1, .int p4)]) (sf := fun p23 => [.int p23, .ref b]) (Xf := fun p23 => S19) (fun p23 => ?_) (fun hj21 => ?_)
              · show J V E _ _ 108 [(0, .ref b), (1, .int p4)] [.int p23, .ref b] S19
                refine J_iconst hE (v := (4 : Int32)) dd_X5_readLine_108 (by decide) ?_
                refine J_invVwv hE (e := fun x => x) (As := [.int p23, .int (4 : Int32)]) (st := []) (tX5_needs E.2.1 hv S19 p23 (4 : Int32)) (hv.ob _) m_X5_needs rfl ml_RX5_115 (Nat.le_of_ble_eq_true rfl) (Nat.le_of_ble_eq_true rfl) rfl (Nat.le_of_ble_eq_true rfl) dd_X5_readLine_109 (fun q24 => ?_)
                refine J_letS (fun S25 => ?_)
                refine J_aload_n hE dd_X5_readLine_112 0 rfl rfl ?_
                refine J_dup hE dd_X5_readLine_113 rfl ?_
                refine J_get hE (hv.ob _) jc_X5 8 (by decide) fl_RX5_54 (v := .int (S25 8 0)) rfl dd_X5_readLine_114 ?_
                refine J_iconst hE (v := (1 : Int32)) dd_X5_readLine_117 (by decide) ?_
                refine J_iload_n hE dd_X5_readLine_118 1 rfl rfl ?_
                refine J_ishl hE dd_X5_readLine_119 ?_
                refine J_ior hE dd_X5_readLine_120 ?_
                refine J_put hE hv jc_X5 8 (by decide) (by decide) fl_RX5_54 rfl rfl rfl (Nat.le_of_ble_eq_true rfl) dd_X5_readLine_121 ?_
                refine J_letS (fun S26 => ?_)
                refine J_sub [0, 1] rfl ?_
                exact hj20 S26
              · refine J_if_ne hE (tgt := 107) dd_X5_readLine_100 (by decide) (fun c22 => ?_) (fun c22 => ?_)
                · refine J_iconst hE (v := (0 : Int32)) dd_X5_readLine_107 (by decide) ?_
                  refine J_sub [0, 1] rfl ?_
                  exact hj21 (0 : Int32)
                · refine J_iconst hE (v := (1 : Int32)) dd_X5_readLine_103 (by decide) ?_
                  refine J_goto hE (tgt := 108) dd_X5_readLine_104 (by decide) ?_
                  refine J_sub [0, 1] rfl ?_
                  exact hj21 (1 : Int32)
      · refine J_icmp_ne hE (tgt := 56) dd_X5_readLine_37 (by decide) (fun c16 => ?_) (fun c16 => ?_)
        · refine J_iload_n hE dd_X5_readLine_56 1 rfl rfl ?_
          refine J_iconst hE (v := (4 : Int32)) dd_X5_readLine_57 (by decide) ?_
          refine J_jn (m := 69) (Lf := fun _ => [(0, .ref b), (1, .int p4)]) (sf := fun _ => [.ref b]) (Xf := fun _ => S9) (fun _ => ?_) (fun hj11 => ?_)
          · show J V E _ _ 69 [(0, .ref b), (1, .int p4)] [.ref b] S9
            refine J_iconst hE (v := (1 : Int32)) dd_X5_readLine_69 (by decide) ?_
            refine J_goto hE (tgt := 74) dd_X5_readLine_70 (by decide) ?_
            refine J_sub [0, 1] rfl ?_
            exact hj10 (1 : Int32)
          · refine J_icmp_gt hE (tgt := 69) dd_X5_readLine_58 (by decide) (fun c13 => ?_) (fun c13 => ?_)
            · refine J_sub [0, 1] rfl ?_
              exact hj11 ()
            · refine J_aload_n hE dd_X5_readLine_61 0 rfl rfl ?_
              refine J_get hE (hv.ob _) jc_X5 7 (by decide) fl_RX5_51 (v := .int (S9 7 0)) rfl dd_X5_readLine_62 ?_
              refine J_iconst hE (v := (4 : Int32)) dd_X5_readLine_65 (by decide) ?_
              refine J_icmp_ge hE (tgt := 73) dd_X5_readLine_66 (by decide) (fun c12 => ?_) (fun c12 => ?_)
              · refine J_iconst hE (v := (0 : Int32)) dd_X5_readLine_73 (by decide) ?_
                refine J_sub [0, 1] rfl ?_
                exact hj10 (0 : Int32)
              · refine J_sub [0, 1] rfl ?_
                exact hj11 ()
        · refine J_aload_n hE dd_X5_readLine_40 0 rfl rfl ?_
          refine J_get hE (hv.ob _) jc_X5 6 (by decide) fl_RX5_47 (v := .int (S9 6 0)) rfl dd_X5_readLine_41 ?_
          refine J_iconst hE (v := (5 : Int32)) dd_X5_readLine_44 (by decide) ?_
          refine J_icmp_ge hE (tgt := 52) dd_X5_readLine_45 (by decide) (fun c15 => ?_) (fun c15 => ?_)
          · refine J_iconst hE (v := (0 : Int32)) dd_X5_readLine_52 (by decide) ?_
            refine J_goto hE (tgt := 74) dd_X5_readLine_53 (by decide) ?_
            refine J_sub [0, 1] rfl ?_
            exact hj10 (0 : Int32)
          · refine J_iconst hE (v := (1 : Int32)) dd_X5_readLine_48 (by decide) ?_
            refine J_goto hE (tgt := 74) dd_X5_readLine_49 (by decide) ?_
            refine J_sub [0, 1] rfl ?_
            exact hj10 (1 : Int32)
    · refine J_icmp_eq hE (tgt := 29) dd_X5_readLine_22 (by decide) (fun c6 => ?_) (fun c6 => ?_)
      · refine J_iconst hE (v := (0 : Int32)) dd_X5_readLine_29 (by decide) ?_
        refine J_sub [1, 0] rfl ?_
        exact hj5 (0 : Int32)
      · refine J_iconst hE (v := (1 : Int32)) dd_X5_readLine_25 (by decide) ?_
        refine J_goto hE (tgt := 30) dd_X5_readLine_26 (by decide) ?_
        refine J_sub [1, 0] rfl ?_
        exact hj5 (1 : Int32)
  · refine J_icmp_ne hE (tgt := 15) dd_X5_readLine_5 (by decide) (fun c3 => ?_) (fun c3 => ?_)
    · refine J_bipush hE (v := (-4 : Int32)) dd_X5_readLine_15 (by decide) ?_
      refine J_sub [0] rfl ?_
      exact hj1 (-4 : Int32)
    · refine J_aload_n hE dd_X5_readLine_8 0 rfl rfl ?_
      refine J_invVri hE (As := []) (st := []) (tX5_lineNow E.2.1 hv S ) (hv.ob _) m_X5_lineNow rfl ml_RX5_143 (Nat.le_of_ble_eq_true rfl) (Nat.le_of_ble_eq_true rfl) rfl (Nat.le_of_ble_eq_true rfl) dd_X5_readLine_9 (fun r2 => ?_)
      refine J_goto hE (tgt := 17) dd_X5_readLine_12 (by decide) ?_
      refine J_sub [0] rfl ?_
      exact hj1 r2
theorem dd_X5_text_0 : jd cX5_text 0 (.iconst 0) 1 1 := ⟨by decide +kernel, rfl⟩
theorem dd_X5_text_1 : jd cX5_text 1 (.istore_n 1) 1 2 := ⟨by decide +kernel, rfl⟩
theorem dd_X5_text_2 : jd cX5_text 2 (.aload_n 0) 1 3 := ⟨by decide +kernel, rfl⟩
theorem dd_X5_text_3 : jd cX5_text 3 (.iconst 0) 1 4 := ⟨by decide +kernel, rfl⟩
theorem dd_X5_text_4 : jd cX5_text 4 (.putfield 78) 3 7 := ⟨by decide +kernel, rfl⟩
theorem dd_X5_text_7 : jd cX5_text 7 (.aload_n 0) 1 8 := ⟨by decide +kernel, rfl⟩
theorem dd_X5_text_8 : jd cX5_text 8 (.iconst 0) 1 9 := ⟨by decide +kernel, rfl⟩
theorem dd_X5_text_9 : jd cX5_text 9 (.putfield 87) 3 12 := ⟨by decide +kernel, rfl⟩
theorem dd_X5_text_12 : jd cX5_text 12 (.aload_n 0) 1 13 := ⟨by decide +kernel, rfl⟩
theorem ml_RX5_41 : (Cond.methodLink "MothCustomsModel" 41 yX5_firstDraft : Cond) ∈ jj_tb := jj_m (List.mem_of_getElem? (i := 797) (by decide +kernel)) rfl
theorem dd_X5_text_13 : jd cX5_text 13 (.invokevirtual 41) 3 16 := ⟨by decide +kernel, rfl⟩
theorem dd_X5_text_16 : jd cX5_text 16 (.aload_n 0) 1 17 := ⟨by decide +kernel, rfl⟩
theorem dd_X5_text_17 : jd cX5_text 17 (.invokevirtual 123) 3 20 := ⟨by decide +kernel, rfl⟩
theorem dd_X5_text_20 : jd cX5_text 20 (.aload_n 0) 1 21 := ⟨by decide +kernel, rfl⟩
theorem dd_X5_text_21 : jd cX5_text 21 (.getfield 78) 3 24 := ⟨by decide +kernel, rfl⟩
theorem dd_X5_text_27 : jd cX5_text 27 (.aload_n 0) 1 28 := ⟨by decide +kernel, rfl⟩
theorem dd_X5_text_28 : jd cX5_text 28 (.getfield 101) 3 31 := ⟨by decide +kernel, rfl⟩
theorem dd_X5_text_34 : jd cX5_text 34 (.aload_n 0) 1 35 := ⟨by decide +kernel, rfl⟩
theorem ml_RX5_150 : (Cond.methodLink "MothCustomsModel" 150 yX5_readLine : Cond) ∈ jj_tb := jj_m (List.mem_of_getElem? (i := 914) (by decide +kernel)) rfl
theorem dd_X5_text_35 : jd cX5_text 35 (.invokevirtual 150) 3 38 := ⟨by decide +kernel, rfl⟩
theorem dd_X5_text_38 : jd cX5_text 38 (.iinc 1 1) 3 41 := ⟨by decide +kernel, rfl⟩
theorem dd_X5_text_41 : jd cX5_text 41 (.goto (-21)) 3 44 := ⟨by decide +kernel, rfl⟩
theorem dd_X5_text_31 : jd cX5_text 31 (.ifCond .eq 13) 3 34 := ⟨by decide +kernel, rfl⟩
theorem dd_X5_text_24 : jd cX5_text 24 (.ifCond .ne 20) 3 27 := ⟨by decide +kernel, rfl⟩
theorem dd_X5_text_44 : jd cX5_text 44 (.aload_n 0) 1 45 := ⟨by decide +kernel, rfl⟩
theorem dd_X5_text_45 : jd cX5_text 45 (.getfield 78) 3 48 := ⟨by decide +kernel, rfl⟩
theorem dd_X5_text_51 : jd cX5_text 51 (.aload_n 0) 1 52 := ⟨by decide +kernel, rfl⟩
theorem dd_X5_text_52 : jd cX5_text 52 (.aload_n 0) 1 53 := ⟨by decide +kernel, rfl⟩
theorem dd_X5_text_53 : jd cX5_text 53 (.getfield 60) 3 56 := ⟨by decide +kernel, rfl⟩
theorem dd_X5_text_56 : jd cX5_text 56 (.aload_n 0) 1 57 := ⟨by decide +kernel, rfl⟩
theorem dd_X5_text_57 : jd cX5_text 57 (.getfield 47) 3 60 := ⟨by decide +kernel, rfl⟩
theorem dd_X5_text_67 : jd cX5_text 67 (.iconst 0) 1 68 := ⟨by decide +kernel, rfl⟩
theorem dd_X5_text_63 : jd cX5_text 63 (.iconst 1) 1 64 := ⟨by decide +kernel, rfl⟩
theorem dd_X5_text_64 : jd cX5_text 64 (.goto 4) 3 67 := ⟨by decide +kernel, rfl⟩
theorem dd_X5_text_60 : jd cX5_text 60 (.if_icmp .ge 7) 3 63 := ⟨by decide +kernel, rfl⟩
theorem dd_X5_text_68 : jd cX5_text 68 (.bipush 6) 2 70 := ⟨by decide +kernel, rfl⟩
theorem dd_X5_text_70 : jd cX5_text 70 (.invokevirtual 115) 3 73 := ⟨by decide +kernel, rfl⟩
theorem dd_X5_text_48 : jd cX5_text 48 (.ifCond .ne 25) 3 51 := ⟨by decide +kernel, rfl⟩
theorem dd_X5_text_73 : jd cX5_text 73 (.aload_n 0) 1 74 := ⟨by decide +kernel, rfl⟩
theorem dd_X5_text_74 : jd cX5_text 74 (.iconst 0) 1 75 := ⟨by decide +kernel, rfl⟩
theorem dd_X5_text_75 : jd cX5_text 75 (.putfield 75) 3 78 := ⟨by decide +kernel, rfl⟩
theorem dd_X5_text_78 : jd cX5_text 78 (.aload_n 0) 1 79 := ⟨by decide +kernel, rfl⟩
theorem dd_X5_text_79 : jd cX5_text 79 (.getfield 78) 3 82 := ⟨by decide +kernel, rfl⟩
theorem dd_X5_text_93 : jd cX5_text 93 (.aload_n 0) 1 94 := ⟨by decide +kernel, rfl⟩
theorem ml_RX5_44 : (Cond.methodLink "MothCustomsModel" 44 yX5_keepDraft : Cond) ∈ jj_tb := jj_m (List.mem_of_getElem? (i := 801) (by decide +kernel)) rfl
theorem dd_X5_text_94 : jd cX5_text 94 (.invokevirtual 44) 3 97 := ⟨by decide +kernel, rfl⟩
theorem dd_X5_text_97 : jd cX5_text 97 (.iload_n 1) 1 98 := ⟨by decide +kernel, rfl⟩
theorem dd_X5_text_98 : jd cX5_text 98 (.ireturn) 1 99 := ⟨by decide +kernel, rfl⟩
theorem dd_X5_text_85 : jd cX5_text 85 (.bipush (-10)) 2 87 := ⟨by decide +kernel, rfl⟩
theorem dd_X5_text_87 : jd cX5_text 87 (.aload_n 0) 1 88 := ⟨by decide +kernel, rfl⟩
theorem dd_X5_text_88 : jd cX5_text 88 (.getfield 84) 3 91 := ⟨by decide +kernel, rfl⟩
theorem dd_X5_text_91 : jd cX5_text 91 (.isub) 1 92 := ⟨by decide +kernel, rfl⟩
theorem dd_X5_text_92 : jd cX5_text 92 (.ireturn) 1 93 := ⟨by decide +kernel, rfl⟩
theorem dd_X5_text_82 : jd cX5_text 82 (.ifCond .le 11) 3 85 := ⟨by decide +kernel, rfl⟩
theorem m_X5_text : jmV yX5_text cX5_text 2 (some .int) 0 := ⟨⟨(jj_m (w := Cond.code yX5_text cX5_text 2 (some .int)) (List.mem_of_getElem? (i := 897) (by decide +kernel)) rfl), (jj_m (w := Cond.initialized yX5_text.cls) (List.mem_of_getElem? (i := 69) (by decide +kernel)) rfl), ⟨by decide, by decide⟩, by decide +kernel⟩, (jj_m (w := Cond.instanceMethod yX5_text) (List.mem_of_getElem? (i := 895) (by decide +kernel)) rfl), (jj_m (w := Cond.selects yX5_text.cls yX5_text yX5_text) (List.mem_of_getElem? (i := 896) (by decide +kernel)) rfl)⟩
def fX5_text_L20  (k44 : (Int32 × M2) → Option (Int32 × M2)) : Nat → Int32 → M2 → Option (Int32 × M2)
  | 0, _, _ => none
  | n_ + 1, v7, S8 =>
    if (S8 17 0) = 0 then
      if (S8 15 0) = 0 then
        k44 (v7, S8)
      else
        (fX5_readLine  S8).bind fun q9 =>
        lt (q9) fun S10 =>
        lt (v7 + (1 : Int32)) fun x11 =>
        fX5_text_L20 k44 n_ x11 S10
    else
      k44 (v7, S8)

def fX5_text  (S : M2) : Option (Int32 × M2) :=
  lt (va_up S 17 (fun _ => (0 : Int32))) fun S1 =>
  lt (va_up S1 13 (fun _ => (0 : Int32))) fun S2 =>
  (fX5_firstDraft  S2).bind fun q3 =>
  lt (q3) fun S4 =>
  (fX5_next  S4).bind fun q5 =>
  lt (q5) fun S6 =>
  fX5_text_L20 
    (fun p14 =>
      jn (α := Option (Int32 × M2)) (β := M2) (fun j15 =>
        if (p14.2 17 0) = 0 then
          jn (α := Option (Int32 × M2)) (β := Int32) (fun j16 =>
            if (p14.2 6 0) ≤ (p14.2 10 0) then
              j16 (0 : Int32)
            else
              j16 (1 : Int32)) (fun p18 => 
            (fX5_needs p18 (6 : Int32) p14.2).bind fun q19 =>
            lt (q19) fun S20 =>
            j15 S20)
        else
          j15 p14.2) (fun p22 => 
        lt (va_up p22 12 (fun _ => (0 : Int32))) fun S23 =>
        if (S23 17 0) ≤ 0 then
          (fX5_keepDraft  S23).bind fun q24 =>
          lt (q24) fun S25 =>
          some (p14.1, S25)
        else
          some (((-10 : Int32) - (S23 18 0)), S23)))
    400 (0 : Int32) S6

set_option maxHeartbeats 4000000 in
set_option maxRecDepth 100000 in
theorem tX5_text_L20 {V : JV M2} {b : Nat} {a : Nat → Nat} (hv : vX5 V b a)  {E : JE (M2) Int32} (hE : JOk V E cX5_text yX5_text.cls 2 6 (some .int) jj_i) {k44 : (Int32 × M2) → Option (Int32 × M2)} (hk44 : ∀ p, J V E (fun q => (q.1, q.2)) (k44 p) 44 [(0, .ref b), (1, .int p.1)] [] p.2) : ∀ (n_ : Nat) (v7 : Int32) (S8 : M2), J V E (fun q => (q.1, q.2)) (fX5_text_L20 k44 n_ v7 S8) 20 [(0, .ref b), (1, .int v7)] [] S8 := by
  intro n_
  induction n_ with
  | zero =>
    intros
    exact J_none
  | succ n_ ih =>
    intros v7 S8
    rw [fX5_text_L20]
    refine J_aload_n hE dd_X5_text_20 0 rfl rfl ?_
    refine J_get hE (hv.ob _) jc_X5 17 (by decide) fl_RX5_78 (v := .int (S8 17 0)) rfl dd_X5_text_21 ?_
    refine J_if_ne hE (tgt := 44) dd_X5_text_24 (by decide) (fun c13 => ?_) (fun c13 => ?_)
    · refine J_sub [0, 1] rfl ?_
      exact hk44 (v7, S8)
    · refine J_aload_n hE dd_X5_text_27 0 rfl rfl ?_
      refine J_get hE (hv.ob _) jc_X5 15 (by decide) fl_RX5_101 (v := .int (S8 15 0)) rfl dd_X5_text_28 ?_
      refine J_if_eq hE (tgt := 44) dd_X5_text_31 (by decide) (fun c12 => ?_) (fun c12 => ?_)
      · refine J_sub [0, 1] rfl ?_
        exact hk44 (v7, S8)
      · refine J_aload_n hE dd_X5_text_34 0 rfl rfl ?_
        refine J_invVwv hE (e := fun x => x) (As := []) (st := []) (tX5_readLine E.2.1 hv S8 ) (hv.ob _) m_X5_readLine rfl ml_RX5_150 (Nat.le_of_ble_eq_true rfl) (Nat.le_of_ble_eq_true rfl) rfl (Nat.le_of_ble_eq_true rfl) dd_X5_text_35 (fun q9 => ?_)
        refine J_letS (fun S10 => ?_)
        refine J_iincL hE (v := (v7 + (1 : Int32))) (Lf := fun x11 => [(1, .int x11), (0, .ref b)]) dd_X5_text_38 (j := 1) rfl (congrArg (v7 + ·) (by decide)) (Nat.le_of_ble_eq_true rfl) (fun _ => rfl) (fun x11 => ?_)
        refine J_goto hE (tgt := 20) dd_X5_text_41 (by decide) ?_
        refine J_sub [1, 0] rfl ?_
        exact ih x11 S10
set_option maxHeartbeats 4000000 in
set_option maxRecDepth 100000 in
theorem tX5_text (l : Launch) {V : JV M2} {b : Nat} {a : Nat → Nat} (hv : vX5 V b a) (S : M2)  : JC l V yX5_text cX5_text 2 (some .int) jj_i 6 [.ref b] S ((fX5_text  S).map (fun q => (q.1, q.2))) := by
  refine jj_of (by decide) (Nat.le_of_ble_eq_true rfl) (fun E hlE hE => ?_)
  unfold fX5_text
  refine J_sub (L' := [(0, .ref b)]) [0] rfl ?_
  refine J_iconst hE (v := (0 : Int32)) dd_X5_text_0 (by decide) ?_
  refine J_istore_n hE (L' := [(1, .int (0 : Int32)), (0, .ref b)]) dd_X5_text_1 (Nat.le_of_ble_eq_true rfl) rfl rfl ?_
  refine J_aload_n hE dd_X5_text_2 1 rfl rfl ?_
  refine J_iconst hE (v := (0 : Int32)) dd_X5_text_3 (by decide) ?_
  refine J_put hE hv jc_X5 17 (by decide) (by decide) fl_RX5_78 rfl rfl rfl (Nat.le_of_ble_eq_true rfl) dd_X5_text_4 ?_
  refine J_letS (fun S1 => ?_)
  refine J_aload_n hE dd_X5_text_7 1 rfl rfl ?_
  refine J_iconst hE (v := (0 : Int32)) dd_X5_text_8 (by decide) ?_
  refine J_put hE hv jc_X5 13 (by decide) (by decide) fl_RX5_87 rfl rfl rfl (Nat.le_of_ble_eq_true rfl) dd_X5_text_9 ?_
  refine J_letS (fun S2 => ?_)
  refine J_aload_n hE dd_X5_text_12 1 rfl rfl ?_
  refine J_invVwv hE (e := fun x => x) (As := []) (st := []) (tX5_firstDraft E.2.1 hv S2 ) (hv.ob _) m_X5_firstDraft rfl ml_RX5_41 (Nat.le_of_ble_eq_true rfl) (Nat.le_of_ble_eq_true rfl) rfl (Nat.le_of_ble_eq_true rfl) dd_X5_text_13 (fun q3 => ?_)
  refine J_letS (fun S4 => ?_)
  refine J_aload_n hE dd_X5_text_16 1 rfl rfl ?_
  refine J_invVwv hE (e := fun x => x) (As := []) (st := []) (tX5_next E.2.1 hv S4 ) (hv.ob _) m_X5_next rfl ml_RX5_123 (Nat.le_of_ble_eq_true rfl) (Nat.le_of_ble_eq_true rfl) rfl (Nat.le_of_ble_eq_true rfl) dd_X5_text_17 (fun q5 => ?_)
  refine J_letS (fun S6 => ?_)
  refine J_sub [1, 0] rfl ?_
  refine tX5_text_L20 hv  hE (fun p14 => ?_) 400 (0 : Int32) S6
  show J V E _ _ 44 [(0, .ref b), (1, .int p14.1)] [] p14.2
  refine J_aload_n hE dd_X5_text_44 0 rfl rfl ?_
  refine J_get hE (hv.ob _) jc_X5 17 (by decide) fl_RX5_78 (v := .int (p14.2 17 0)) rfl dd_X5_text_45 ?_
  refine J_jn (m := 73) (Lf := fun p22 => [(0, .ref b), (1, .int p14.1)]) (sf := fun p22 => []) (Xf := fun p22 => p22) (fun p22 => ?_) (fun hj15 => ?_)
  · show J V E _ _ 73 [(0, .ref b), (1, .int p14.1)] [] p22
    refine J_aload_n hE dd_X5_text_73 0 rfl rfl ?_
    refine J_iconst hE (v := (0 : Int32)) dd_X5_text_74 (by decide) ?_
    refine J_put hE hv jc_X5 12 (by decide) (by decide) fl_RX5_75 rfl rfl rfl (Nat.le_of_ble_eq_true rfl) dd_X5_text_75 ?_
    refine J_letS (fun S23 => ?_)
    refine J_aload_n hE dd_X5_text_78 0 rfl rfl ?_
    refine J_get hE (hv.ob _) jc_X5 17 (by decide) fl_RX5_78 (v := .int (S23 17 0)) rfl dd_X5_text_79 ?_
    refine J_if_le hE (tgt := 93) dd_X5_text_82 (by decide) (fun c26 => ?_) (fun c26 => ?_)
    · refine J_aload_n hE dd_X5_text_93 0 rfl rfl ?_
      refine J_invVwv hE (e := fun x => x) (As := []) (st := []) (tX5_keepDraft E.2.1 hv S23 ) (hv.ob _) m_X5_keepDraft rfl ml_RX5_44 (Nat.le_of_ble_eq_true rfl) (Nat.le_of_ble_eq_true rfl) rfl (Nat.le_of_ble_eq_true rfl) dd_X5_text_94 (fun q24 => ?_)
      refine J_letS (fun S25 => ?_)
      refine J_iload_n hE dd_X5_text_97 1 rfl rfl ?_
      exact J_iret hE dd_X5_text_98 rfl rfl
    · refine J_bipush hE (v := (-10 : Int32)) dd_X5_text_85 (by decide) ?_
      refine J_aload_n hE dd_X5_text_87 0 rfl rfl ?_
      refine J_get hE (hv.ob _) jc_X5 18 (by decide) fl_RX5_84 (v := .int (S23 18 0)) rfl dd_X5_text_88 ?_
      refine J_isub hE dd_X5_text_91 ?_
      exact J_iret hE dd_X5_text_92 rfl rfl
  · refine J_if_ne hE (tgt := 73) dd_X5_text_48 (by decide) (fun c21 => ?_) (fun c21 => ?_)
    · refine J_sub [0, 1] rfl ?_
      exact hj15 p14.2
    · refine J_aload_n hE dd_X5_text_51 0 rfl rfl ?_
      refine J_aload_n hE dd_X5_text_52 0 rfl rfl ?_
      refine J_get hE (hv.ob _) jc_X5 10 (by decide) fl_RX5_60 (v := .int (p14.2 10 0)) rfl dd_X5_text_53 ?_
      refine J_aload_n hE dd_X5_text_56 0 rfl rfl ?_
      refine J_get hE (hv.ob _) jc_X5 6 (by decide) fl_RX5_47 (v := .int (p14.2 6 0)) rfl dd_X5_text_57 ?_
      refine J_jn (m := 68) (Lf := fun p18 => [(0, .ref b), (1, .int p14.1)]) (sf := fun p18 => [.int p18, .ref b]) (Xf := fun p18 => p14.2) (fun p18 => ?_) (fun hj16 => ?_)
      · show J V E _ _ 68 [(0, .ref b), (1, .int p14.1)] [.int p18, .ref b] p14.2
        refine J_bipush hE (v := (6 : Int32)) dd_X5_text_68 (by decide) ?_
        refine J_invVwv hE (e := fun x => x) (As := [.int p18, .int (6 : Int32)]) (st := []) (tX5_needs E.2.1 hv p14.2 p18 (6 : Int32)) (hv.ob _) m_X5_needs rfl ml_RX5_115 (Nat.le_of_ble_eq_true rfl) (Nat.le_of_ble_eq_true rfl) rfl (Nat.le_of_ble_eq_true rfl) dd_X5_text_70 (fun q19 => ?_)
        refine J_letS (fun S20 => ?_)
        refine J_sub [0, 1] rfl ?_
        exact hj15 S20
      · refine J_icmp_ge hE (tgt := 67) dd_X5_text_60 (by decide) (fun c17 => ?_) (fun c17 => ?_)
        · refine J_iconst hE (v := (0 : Int32)) dd_X5_text_67 (by decide) ?_
          refine J_sub [0, 1] rfl ?_
          exact hj16 (0 : Int32)
        · refine J_iconst hE (v := (1 : Int32)) dd_X5_text_63 (by decide) ?_
          refine J_goto hE (tgt := 68) dd_X5_text_64 (by decide) ?_
          refine J_sub [0, 1] rfl ?_
          exact hj16 (1 : Int32)
theorem dd_X5_fault_0 : jd cX5_fault 0 (.aload_n 0) 1 1 := ⟨by decide +kernel, rfl⟩
theorem dd_X5_fault_1 : jd cX5_fault 1 (.getfield 78) 3 4 := ⟨by decide +kernel, rfl⟩
theorem dd_X5_fault_4 : jd cX5_fault 4 (.ireturn) 1 5 := ⟨by decide +kernel, rfl⟩
theorem m_X5_fault : jmV yX5_fault cX5_fault 1 (some .int) 0 := ⟨⟨(jj_m (w := Cond.code yX5_fault cX5_fault 1 (some .int)) (List.mem_of_getElem? (i := 960) (by decide +kernel)) rfl), (jj_m (w := Cond.initialized yX5_fault.cls) (List.mem_of_getElem? (i := 69) (by decide +kernel)) rfl), ⟨by decide, by decide⟩, by decide +kernel⟩, (jj_m (w := Cond.instanceMethod yX5_fault) (List.mem_of_getElem? (i := 958) (by decide +kernel)) rfl), (jj_m (w := Cond.selects yX5_fault.cls yX5_fault yX5_fault) (List.mem_of_getElem? (i := 959) (by decide +kernel)) rfl)⟩
def fX5_fault  (S : M2) : Option (Int32) :=
  some (S 17 0)

set_option maxHeartbeats 4000000 in
set_option maxRecDepth 100000 in
theorem tX5_fault (l : Launch) {V : JV M2} {b : Nat} {a : Nat → Nat} (hv : vX5 V b a) (S : M2)  : JC l V yX5_fault cX5_fault 1 (some .int) jj_i 0 [.ref b] S ((fX5_fault  S).map (fun r => (r, S))) := by
  refine jj_of (by decide) (Nat.le_of_ble_eq_true rfl) (fun E hlE hE => ?_)
  unfold fX5_fault
  refine J_sub (L' := [(0, .ref b)]) [0] rfl ?_
  refine J_aload_n hE dd_X5_fault_0 0 rfl rfl ?_
  refine J_get hE (hv.ob _) jc_X5 17 (by decide) fl_RX5_78 (v := .int (S 17 0)) rfl dd_X5_fault_1 ?_
  exact J_iret hE dd_X5_fault_4 rfl rfl
theorem dd_X5_isBolt_0 : jd cX5_isBolt 0 (.iload_n 1) 1 1 := ⟨by decide +kernel, rfl⟩
theorem dd_X5_isBolt_1 : jd cX5_isBolt 1 (.i2l) 1 2 := ⟨by decide +kernel, rfl⟩
theorem dd_X5_isBolt_2 : jd cX5_isBolt 2 (.lconst 0) 1 3 := ⟨by decide +kernel, rfl⟩
theorem dd_X5_isBolt_3 : jd cX5_isBolt 3 (.aload_n 0) 1 4 := ⟨by decide +kernel, rfl⟩
theorem dd_X5_isBolt_4 : jd cX5_isBolt 4 (.getfield 63) 3 7 := ⟨by decide +kernel, rfl⟩
theorem dd_X5_isBolt_7 : jd cX5_isBolt 7 (.iconst 1) 1 8 := ⟨by decide +kernel, rfl⟩
theorem dd_X5_isBolt_8 : jd cX5_isBolt 8 (.isub) 1 9 := ⟨by decide +kernel, rfl⟩
theorem dd_X5_isBolt_9 : jd cX5_isBolt 9 (.i2l) 1 10 := ⟨by decide +kernel, rfl⟩
theorem dd_X5_isBolt_10 : jd cX5_isBolt 10 (.invokestatic 71) 3 13 := ⟨by decide +kernel, rfl⟩
theorem dd_X5_isBolt_13 : jd cX5_isBolt 13 (.ireturn) 1 14 := ⟨by decide +kernel, rfl⟩
theorem m_X5_isBolt : jmV yX5_isBolt cX5_isBolt 2 (some .boolean) 1 := ⟨⟨(jj_m (w := Cond.code yX5_isBolt cX5_isBolt 2 (some .boolean)) (List.mem_of_getElem? (i := 988) (by decide +kernel)) rfl), (jj_m (w := Cond.initialized yX5_isBolt.cls) (List.mem_of_getElem? (i := 69) (by decide +kernel)) rfl), ⟨by decide, by decide⟩, by decide +kernel⟩, (jj_m (w := Cond.instanceMethod yX5_isBolt) (List.mem_of_getElem? (i := 987) (by decide +kernel)) rfl), (jj_m (w := Cond.selects yX5_isBolt.cls yX5_isBolt yX5_isBolt) (List.mem_of_getElem? (i := 33) (by decide +kernel)) rfl)⟩
def fX5_isBolt (i1 : Int32) (S : M2) : Option (Int32) :=
  (fX5_in (i1.toInt64) (0 : Int64) (((S 3 0) - (1 : Int32)).toInt64)).bind fun r1 =>
  zb r1 (some r1)

set_option maxHeartbeats 4000000 in
set_option maxRecDepth 100000 in
theorem tX5_isBolt (l : Launch) {V : JV M2} {b : Nat} {a : Nat → Nat} (hv : vX5 V b a) (S : M2) (i1 : Int32) : JC l V yX5_isBolt cX5_isBolt 2 (some .boolean) jj_i 1 [.ref b, .int i1] S ((fX5_isBolt i1 S).map (fun r => (r, S))) := by
  refine jj_of (by decide) (Nat.le_of_ble_eq_true rfl) (fun E hlE hE => ?_)
  unfold fX5_isBolt
  refine J_sub (L' := [(0, .ref b), (1, .int i1)]) [0, 1] rfl ?_
  refine J_iload_n hE dd_X5_isBolt_0 1 rfl rfl ?_
  refine J_i2l hE dd_X5_isBolt_1 ?_
  refine J_lconst hE (v := (0 : Int64)) dd_X5_isBolt_2 (by decide) ?_
  refine J_aload_n hE dd_X5_isBolt_3 0 rfl rfl ?_
  refine J_get hE (hv.ob _) jc_X5 3 (by decide) fl_RX5_63 (v := .int (S 3 0)) rfl dd_X5_isBolt_4 ?_
  refine J_iconst hE (v := (1 : Int32)) dd_X5_isBolt_7 (by decide) ?_
  refine J_isub hE dd_X5_isBolt_8 ?_
  refine J_i2l hE dd_X5_isBolt_9 ?_
  refine J_invSri hE (As := [.long (i1.toInt64), .long (0 : Int64), .long (((S 3 0) - (1 : Int32)).toInt64)]) (st := []) (tX5_in E.2.1 V S (i1.toInt64) (0 : Int64) (((S 3 0) - (1 : Int32)).toInt64)) m_X5_in s_X5_in rfl ml_RX5_71 (Nat.le_of_ble_eq_true rfl) (Nat.le_of_ble_eq_true rfl) rfl (Nat.le_of_ble_eq_true rfl) dd_X5_isBolt_10 (fun r1 => ?_)
  refine J_zb (fun hz => ?_)
  exact J_zret hE hz dd_X5_isBolt_13 rfl rfl
theorem dd_X5_isMoth_0 : jd cX5_isMoth 0 (.iload_n 1) 1 1 := ⟨by decide +kernel, rfl⟩
theorem dd_X5_isMoth_1 : jd cX5_isMoth 1 (.i2l) 1 2 := ⟨by decide +kernel, rfl⟩
theorem dd_X5_isMoth_2 : jd cX5_isMoth 2 (.lconst 0) 1 3 := ⟨by decide +kernel, rfl⟩
theorem dd_X5_isMoth_3 : jd cX5_isMoth 3 (.aload_n 0) 1 4 := ⟨by decide +kernel, rfl⟩
theorem dd_X5_isMoth_4 : jd cX5_isMoth 4 (.getfield 66) 3 7 := ⟨by decide +kernel, rfl⟩
theorem dd_X5_isMoth_7 : jd cX5_isMoth 7 (.iconst 1) 1 8 := ⟨by decide +kernel, rfl⟩
theorem dd_X5_isMoth_8 : jd cX5_isMoth 8 (.isub) 1 9 := ⟨by decide +kernel, rfl⟩
theorem dd_X5_isMoth_9 : jd cX5_isMoth 9 (.i2l) 1 10 := ⟨by decide +kernel, rfl⟩
theorem dd_X5_isMoth_10 : jd cX5_isMoth 10 (.invokestatic 71) 3 13 := ⟨by decide +kernel, rfl⟩
theorem dd_X5_isMoth_13 : jd cX5_isMoth 13 (.ireturn) 1 14 := ⟨by decide +kernel, rfl⟩
theorem m_X5_isMoth : jmV yX5_isMoth cX5_isMoth 2 (some .boolean) 1 := ⟨⟨(jj_m (w := Cond.code yX5_isMoth cX5_isMoth 2 (some .boolean)) (List.mem_of_getElem? (i := 997) (by decide +kernel)) rfl), (jj_m (w := Cond.initialized yX5_isMoth.cls) (List.mem_of_getElem? (i := 69) (by decide +kernel)) rfl), ⟨by decide, by decide⟩, by decide +kernel⟩, (jj_m (w := Cond.instanceMethod yX5_isMoth) (List.mem_of_getElem? (i := 996) (by decide +kernel)) rfl), (jj_m (w := Cond.selects yX5_isMoth.cls yX5_isMoth yX5_isMoth) (List.mem_of_getElem? (i := 34) (by decide +kernel)) rfl)⟩
def fX5_isMoth (i1 : Int32) (S : M2) : Option (Int32) :=
  (fX5_in (i1.toInt64) (0 : Int64) (((S 4 0) - (1 : Int32)).toInt64)).bind fun r1 =>
  zb r1 (some r1)

set_option maxHeartbeats 4000000 in
set_option maxRecDepth 100000 in
theorem tX5_isMoth (l : Launch) {V : JV M2} {b : Nat} {a : Nat → Nat} (hv : vX5 V b a) (S : M2) (i1 : Int32) : JC l V yX5_isMoth cX5_isMoth 2 (some .boolean) jj_i 1 [.ref b, .int i1] S ((fX5_isMoth i1 S).map (fun r => (r, S))) := by
  refine jj_of (by decide) (Nat.le_of_ble_eq_true rfl) (fun E hlE hE => ?_)
  unfold fX5_isMoth
  refine J_sub (L' := [(0, .ref b), (1, .int i1)]) [0, 1] rfl ?_
  refine J_iload_n hE dd_X5_isMoth_0 1 rfl rfl ?_
  refine J_i2l hE dd_X5_isMoth_1 ?_
  refine J_lconst hE (v := (0 : Int64)) dd_X5_isMoth_2 (by decide) ?_
  refine J_aload_n hE dd_X5_isMoth_3 0 rfl rfl ?_
  refine J_get hE (hv.ob _) jc_X5 4 (by decide) fl_RX5_66 (v := .int (S 4 0)) rfl dd_X5_isMoth_4 ?_
  refine J_iconst hE (v := (1 : Int32)) dd_X5_isMoth_7 (by decide) ?_
  refine J_isub hE dd_X5_isMoth_8 ?_
  refine J_i2l hE dd_X5_isMoth_9 ?_
  refine J_invSri hE (As := [.long (i1.toInt64), .long (0 : Int64), .long (((S 4 0) - (1 : Int32)).toInt64)]) (st := []) (tX5_in E.2.1 V S (i1.toInt64) (0 : Int64) (((S 4 0) - (1 : Int32)).toInt64)) m_X5_in s_X5_in rfl ml_RX5_71 (Nat.le_of_ble_eq_true rfl) (Nat.le_of_ble_eq_true rfl) rfl (Nat.le_of_ble_eq_true rfl) dd_X5_isMoth_10 (fun r1 => ?_)
  refine J_zb (fun hz => ?_)
  exact J_zret hE hz dd_X5_isMoth_13 rfl rfl
theorem dd_X5_starts_0 : jd cX5_starts 0 (.iconst 0) 1 1 := ⟨by decide +kernel, rfl⟩
theorem dd_X5_starts_1 : jd cX5_starts 1 (.istore_n 1) 1 2 := ⟨by decide +kernel, rfl⟩
theorem dd_X5_starts_2 : jd cX5_starts 2 (.iload_n 1) 1 3 := ⟨by decide +kernel, rfl⟩
theorem dd_X5_starts_3 : jd cX5_starts 3 (.bipush 62) 2 5 := ⟨by decide +kernel, rfl⟩
theorem dd_X5_starts_8 : jd cX5_starts 8 (.aload_n 0) 1 9 := ⟨by decide +kernel, rfl⟩
theorem fl_RX5_13 : (Cond.fieldLink "MothCustomsModel" 13 "MothCustomsModel" "at" "[I" : Cond) ∈ jj_tb := jj_m (List.mem_of_getElem? (i := 806) (by decide +kernel)) rfl
theorem dd_X5_starts_9 : jd cX5_starts 9 (.getfield 13) 3 12 := ⟨by decide +kernel, rfl⟩
theorem dd_X5_starts_12 : jd cX5_starts 12 (.iload_n 1) 1 13 := ⟨by decide +kernel, rfl⟩
theorem dd_X5_starts_13 : jd cX5_starts 13 (.aload_n 0) 1 14 := ⟨by decide +kernel, rfl⟩
theorem dd_X5_starts_14 : jd cX5_starts 14 (.getfield 7) 3 17 := ⟨by decide +kernel, rfl⟩
theorem dd_X5_starts_17 : jd cX5_starts 17 (.iload_n 1) 1 18 := ⟨by decide +kernel, rfl⟩
theorem dd_X5_starts_18 : jd cX5_starts 18 (.iaload) 1 19 := ⟨by decide +kernel, rfl⟩
theorem dd_X5_starts_19 : jd cX5_starts 19 (.iastore) 1 20 := ⟨by decide +kernel, rfl⟩
theorem dd_X5_starts_20 : jd cX5_starts 20 (.iinc 1 1) 3 23 := ⟨by decide +kernel, rfl⟩
theorem dd_X5_starts_23 : jd cX5_starts 23 (.goto (-21)) 3 26 := ⟨by decide +kernel, rfl⟩
theorem dd_X5_starts_5 : jd cX5_starts 5 (.if_icmp .ge 21) 3 8 := ⟨by decide +kernel, rfl⟩
theorem dd_X5_starts_26 : jd cX5_starts 26 (.return_) 1 27 := ⟨by decide +kernel, rfl⟩
theorem m_X5_starts : jmV yX5_starts cX5_starts 2 none 0 := ⟨⟨(jj_m (w := Cond.code yX5_starts cX5_starts 2 none) (List.mem_of_getElem? (i := 968) (by decide +kernel)) rfl), (jj_m (w := Cond.initialized yX5_starts.cls) (List.mem_of_getElem? (i := 69) (by decide +kernel)) rfl), ⟨by decide, by decide⟩, by decide +kernel⟩, (jj_m (w := Cond.instanceMethod yX5_starts) (List.mem_of_getElem? (i := 967) (by decide +kernel)) rfl), (jj_m (w := Cond.selects yX5_starts.cls yX5_starts yX5_starts) (List.mem_of_getElem? (i := 29) (by decide +kernel)) rfl)⟩
def fX5_starts_L2  (k26 : M2 → Option (M2)) : Nat → Int32 → M2 → Option (M2)
  | 0, _, _ => none
  | n_ + 1, v1, S2 =>
    if (62 : Int32) ≤ v1 then
      k26 S2
    else
      bnd v1 186 <|
      bnd v1 62 <|
      lt (va_up S2 1 (upd (S2 1) v1.toNatClampNeg (S2 0 v1.toNatClampNeg))) fun S3 =>
      lt (v1 + (1 : Int32)) fun x4 =>
      fX5_starts_L2 k26 n_ x4 S3

def fX5_starts  (S : M2) : Option (M2) :=
  fX5_starts_L2 
    (fun p6 =>
      some p6)
    400 (0 : Int32) S

set_option maxHeartbeats 4000000 in
set_option maxRecDepth 100000 in
theorem tX5_starts_L2 {V : JV M2} {b : Nat} {a : Nat → Nat} (hv : vX5 V b a)  {E : JE (M2) Unit} (hE : JOk V E cX5_starts yX5_starts.cls 2 0 none jj_v) {k26 : M2 → Option (M2)} (hk26 : ∀ p, J V E (fun q => ((), q)) (k26 p) 26 [] [] p) : ∀ (n_ : Nat) (v1 : Int32) (S2 : M2), J V E (fun q => ((), q)) (fX5_starts_L2 k26 n_ v1 S2) 2 [(0, .ref b), (1, .int v1)] [] S2 := by
  intro n_
  induction n_ with
  | zero =>
    intros
    exact J_none
  | succ n_ ih =>
    intros v1 S2
    rw [fX5_starts_L2]
    refine J_iload_n hE dd_X5_starts_2 1 rfl rfl ?_
    refine J_bipush hE (v := (62 : Int32)) dd_X5_starts_3 (by decide) ?_
    refine J_icmp_ge hE (tgt := 26) dd_X5_starts_5 (by decide) (fun c5 => ?_) (fun c5 => ?_)
    · refine J_sub [] rfl ?_
      exact hk26 S2
    · refine J_aload_n hE dd_X5_starts_8 0 rfl rfl ?_
      refine J_get hE (hv.ob _) jc_X5 1 (by decide) fl_RX5_13 (v := .ref (a 1)) rfl dd_X5_starts_9 ?_
      refine J_iload_n hE dd_X5_starts_12 1 rfl rfl ?_
      refine J_aload_n hE dd_X5_starts_13 0 rfl rfl ?_
      refine J_get hE (hv.ob _) jc_X5 0 (by decide) fl_RX5_7 (v := .ref (a 0)) rfl dd_X5_starts_14 ?_
      refine J_iload_n hE dd_X5_starts_17 1 rfl rfl ?_
      refine J_ald hE (hv.arr 0 (n := 186) (ty := .int) (by decide) _) dd_X5_starts_18 ?_
      refine J_ast hE hv 1 (N := 62) (by decide) dd_X5_starts_19 ?_
      refine J_letS (fun S3 => ?_)
      refine J_iincL hE (v := (v1 + (1 : Int32))) (Lf := fun x4 => [(1, .int x4), (0, .ref b)]) dd_X5_starts_20 (j := 1) rfl (congrArg (v1 + ·) (by decide)) (Nat.le_of_ble_eq_true rfl) (fun _ => rfl) (fun x4 => ?_)
      refine J_goto hE (tgt := 2) dd_X5_starts_23 (by decide) ?_
      refine J_sub [1, 0] rfl ?_
      exact ih x4 S3
set_option maxHeartbeats 4000000 in
set_option maxRecDepth 100000 in
theorem tX5_starts (l : Launch) {V : JV M2} {b : Nat} {a : Nat → Nat} (hv : vX5 V b a) (S : M2)  : JC l V yX5_starts cX5_starts 2 none jj_v 0 [.ref b] S ((fX5_starts  S).map (fun q => ((), q))) := by
  refine jj_of (by decide) (Nat.le_of_ble_eq_true rfl) (fun E hlE hE => ?_)
  unfold fX5_starts
  refine J_sub (L' := [(0, .ref b)]) [0] rfl ?_
  refine J_iconst hE (v := (0 : Int32)) dd_X5_starts_0 (by decide) ?_
  refine J_istore_n hE (L' := [(1, .int (0 : Int32)), (0, .ref b)]) dd_X5_starts_1 (Nat.le_of_ble_eq_true rfl) rfl rfl ?_
  refine J_sub [1, 0] rfl ?_
  refine tX5_starts_L2 hv  hE (fun p6 => ?_) 400 (0 : Int32) S
  show J V E _ _ 26 [] [] p6
  exact J_vret hE dd_X5_starts_26 rfl rfl
theorem dd_X5_settles_0 : jd cX5_settles 0 (.iconst 0) 1 1 := ⟨by decide +kernel, rfl⟩
theorem dd_X5_settles_1 : jd cX5_settles 1 (.istore_n 1) 1 2 := ⟨by decide +kernel, rfl⟩
theorem dd_X5_settles_2 : jd cX5_settles 2 (.iload_n 1) 1 3 := ⟨by decide +kernel, rfl⟩
theorem dd_X5_settles_3 : jd cX5_settles 3 (.bipush 62) 2 5 := ⟨by decide +kernel, rfl⟩
theorem dd_X5_settles_8 : jd cX5_settles 8 (.aload_n 0) 1 9 := ⟨by decide +kernel, rfl⟩
theorem dd_X5_settles_9 : jd cX5_settles 9 (.getfield 7) 3 12 := ⟨by decide +kernel, rfl⟩
theorem dd_X5_settles_12 : jd cX5_settles 12 (.iload_n 1) 1 13 := ⟨by decide +kernel, rfl⟩
theorem dd_X5_settles_13 : jd cX5_settles 13 (.aload_n 0) 1 14 := ⟨by decide +kernel, rfl⟩
theorem dd_X5_settles_14 : jd cX5_settles 14 (.getfield 13) 3 17 := ⟨by decide +kernel, rfl⟩
theorem dd_X5_settles_17 : jd cX5_settles 17 (.iload_n 1) 1 18 := ⟨by decide +kernel, rfl⟩
theorem dd_X5_settles_18 : jd cX5_settles 18 (.iaload) 1 19 := ⟨by decide +kernel, rfl⟩
theorem dd_X5_settles_19 : jd cX5_settles 19 (.iastore) 1 20 := ⟨by decide +kernel, rfl⟩
theorem dd_X5_settles_20 : jd cX5_settles 20 (.iinc 1 1) 3 23 := ⟨by decide +kernel, rfl⟩
theorem dd_X5_settles_23 : jd cX5_settles 23 (.goto (-21)) 3 26 := ⟨by decide +kernel, rfl⟩
theorem dd_X5_settles_5 : jd cX5_settles 5 (.if_icmp .ge 21) 3 8 := ⟨by decide +kernel, rfl⟩
theorem dd_X5_settles_26 : jd cX5_settles 26 (.return_) 1 27 := ⟨by decide +kernel, rfl⟩
theorem m_X5_settles : jmV yX5_settles cX5_settles 2 none 0 := ⟨⟨(jj_m (w := Cond.code yX5_settles cX5_settles 2 none) (List.mem_of_getElem? (i := 1051) (by decide +kernel)) rfl), (jj_m (w := Cond.initialized yX5_settles.cls) (List.mem_of_getElem? (i := 69) (by decide +kernel)) rfl), ⟨by decide, by decide⟩, by decide +kernel⟩, (jj_m (w := Cond.instanceMethod yX5_settles) (List.mem_of_getElem? (i := 1050) (by decide +kernel)) rfl), (jj_m (w := Cond.selects yX5_settles.cls yX5_settles yX5_settles) (List.mem_of_getElem? (i := 44) (by decide +kernel)) rfl)⟩
def fX5_settles_L2  (k26 : M2 → Option (M2)) : Nat → Int32 → M2 → Option (M2)
  | 0, _, _ => none
  | n_ + 1, v1, S2 =>
    if (62 : Int32) ≤ v1 then
      k26 S2
    else
      bnd v1 62 <|
      bnd v1 186 <|
      lt (va_up S2 0 (upd (S2 0) v1.toNatClampNeg (S2 1 v1.toNatClampNeg))) fun S3 =>
      lt (v1 + (1 : Int32)) fun x4 =>
      fX5_settles_L2 k26 n_ x4 S3

def fX5_settles  (S : M2) : Option (M2) :=
  fX5_settles_L2 
    (fun p6 =>
      some p6)
    400 (0 : Int32) S

set_option maxHeartbeats 4000000 in
set_option maxRecDepth 100000 in
theorem tX5_settles_L2 {V : JV M2} {b : Nat} {a : Nat → Nat} (hv : vX5 V b a)  {E : JE (M2) Unit} (hE : JOk V E cX5_settles yX5_settles.cls 2 0 none jj_v) {k26 : M2 → Option (M2)} (hk26 : ∀ p, J V E (fun q => ((), q)) (k26 p) 26 [] [] p) : ∀ (n_ : Nat) (v1 : Int32) (S2 : M2), J V E (fun q => ((), q)) (fX5_settles_L2 k26 n_ v1 S2) 2 [(0, .ref b), (1, .int v1)] [] S2 := by
  intro n_
  induction n_ with
  | zero =>
    intros
    exact J_none
  | succ n_ ih =>
    intros v1 S2
    rw [fX5_settles_L2]
    refine J_iload_n hE dd_X5_settles_2 1 rfl rfl ?_
    refine J_bipush hE (v := (62 : Int32)) dd_X5_settles_3 (by decide) ?_
    refine J_icmp_ge hE (tgt := 26) dd_X5_settles_5 (by decide) (fun c5 => ?_) (fun c5 => ?_)
    · refine J_sub [] rfl ?_
      exact hk26 S2
    · refine J_aload_n hE dd_X5_settles_8 0 rfl rfl ?_
      refine J_get hE (hv.ob _) jc_X5 0 (by decide) fl_RX5_7 (v := .ref (a 0)) rfl dd_X5_settles_9 ?_
      refine J_iload_n hE dd_X5_settles_12 1 rfl rfl ?_
      refine J_aload_n hE dd_X5_settles_13 0 rfl rfl ?_
      refine J_get hE (hv.ob _) jc_X5 1 (by decide) fl_RX5_13 (v := .ref (a 1)) rfl dd_X5_settles_14 ?_
      refine J_iload_n hE dd_X5_settles_17 1 rfl rfl ?_
      refine J_ald hE (hv.arr 1 (n := 62) (ty := .int) (by decide) _) dd_X5_settles_18 ?_
      refine J_ast hE hv 0 (N := 186) (by decide) dd_X5_settles_19 ?_
      refine J_letS (fun S3 => ?_)
      refine J_iincL hE (v := (v1 + (1 : Int32))) (Lf := fun x4 => [(1, .int x4), (0, .ref b)]) dd_X5_settles_20 (j := 1) rfl (congrArg (v1 + ·) (by decide)) (Nat.le_of_ble_eq_true rfl) (fun _ => rfl) (fun x4 => ?_)
      refine J_goto hE (tgt := 2) dd_X5_settles_23 (by decide) ?_
      refine J_sub [1, 0] rfl ?_
      exact ih x4 S3
set_option maxHeartbeats 4000000 in
set_option maxRecDepth 100000 in
theorem tX5_settles (l : Launch) {V : JV M2} {b : Nat} {a : Nat → Nat} (hv : vX5 V b a) (S : M2)  : JC l V yX5_settles cX5_settles 2 none jj_v 0 [.ref b] S ((fX5_settles  S).map (fun q => ((), q))) := by
  refine jj_of (by decide) (Nat.le_of_ble_eq_true rfl) (fun E hlE hE => ?_)
  unfold fX5_settles
  refine J_sub (L' := [(0, .ref b)]) [0] rfl ?_
  refine J_iconst hE (v := (0 : Int32)) dd_X5_settles_0 (by decide) ?_
  refine J_istore_n hE (L' := [(1, .int (0 : Int32)), (0, .ref b)]) dd_X5_settles_1 (Nat.le_of_ble_eq_true rfl) rfl rfl ?_
  refine J_sub [1, 0] rfl ?_
  refine tX5_settles_L2 hv  hE (fun p6 => ?_) 400 (0 : Int32) S
  show J V E _ _ 26 [] [] p6
  exact J_vret hE dd_X5_settles_26 rfl rfl
