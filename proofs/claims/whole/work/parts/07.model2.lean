theorem dd_X5_folded_0 : jd cX5_folded 0 (.aload_n 0) 1 1 := ⟨by decide +kernel, rfl⟩
theorem dd_X5_folded_1 : jd cX5_folded 1 (.iload_n 1) 1 2 := ⟨by decide +kernel, rfl⟩
theorem dd_X5_folded_2 : jd cX5_folded 2 (.invokevirtual 205) 3 5 := ⟨by decide +kernel, rfl⟩
theorem dd_X5_folded_15 : jd cX5_folded 15 (.iconst (-1)) 1 16 := ⟨by decide +kernel, rfl⟩
theorem dd_X5_folded_16 : jd cX5_folded 16 (.ireturn) 1 17 := ⟨by decide +kernel, rfl⟩
theorem dd_X5_folded_8 : jd cX5_folded 8 (.iload_n 2) 1 9 := ⟨by decide +kernel, rfl⟩
theorem dd_X5_folded_9 : jd cX5_folded 9 (.invokestatic 213) 3 12 := ⟨by decide +kernel, rfl⟩
theorem dd_X5_folded_17 : jd cX5_folded 17 (.aload_n 0) 1 18 := ⟨by decide +kernel, rfl⟩
theorem dd_X5_folded_18 : jd cX5_folded 18 (.invokevirtual 199) 3 21 := ⟨by decide +kernel, rfl⟩
theorem dd_X5_folded_21 : jd cX5_folded 21 (.aload_n 0) 1 22 := ⟨by decide +kernel, rfl⟩
theorem dd_X5_folded_22 : jd cX5_folded 22 (.iload_n 1) 1 23 := ⟨by decide +kernel, rfl⟩
theorem dd_X5_folded_23 : jd cX5_folded 23 (.iload_n 2) 1 24 := ⟨by decide +kernel, rfl⟩
theorem dd_X5_folded_24 : jd cX5_folded 24 (.iload_n 3) 1 25 := ⟨by decide +kernel, rfl⟩
theorem ml_RX5_218 : (Cond.methodLink "MothCustomsModel" 218 yX5_folds : Cond) ∈ jj_tb := jj_m (List.mem_of_getElem? (i := 1040) (by decide +kernel)) rfl
theorem dd_X5_folded_25 : jd cX5_folded 25 (.invokevirtual 218) 3 28 := ⟨by decide +kernel, rfl⟩
theorem dd_X5_folded_28 : jd cX5_folded 28 (.aload_n 0) 1 29 := ⟨by decide +kernel, rfl⟩
theorem ml_RX5_222 : (Cond.methodLink "MothCustomsModel" 222 yX5_settles : Cond) ∈ jj_tb := jj_m (List.mem_of_getElem? (i := 1048) (by decide +kernel)) rfl
theorem dd_X5_folded_29 : jd cX5_folded 29 (.invokevirtual 222) 3 32 := ⟨by decide +kernel, rfl⟩
theorem dd_X5_folded_32 : jd cX5_folded 32 (.aload_n 0) 1 33 := ⟨by decide +kernel, rfl⟩
theorem dd_X5_folded_33 : jd cX5_folded 33 (.iload_n 2) 1 34 := ⟨by decide +kernel, rfl⟩
theorem dd_X5_folded_34 : jd cX5_folded 34 (.invokevirtual 166) 3 37 := ⟨by decide +kernel, rfl⟩
theorem dd_X5_folded_37 : jd cX5_folded 37 (.ireturn) 1 38 := ⟨by decide +kernel, rfl⟩
theorem dd_X5_folded_12 : jd cX5_folded 12 (.ifCond .ne 5) 3 15 := ⟨by decide +kernel, rfl⟩
theorem dd_X5_folded_5 : jd cX5_folded 5 (.ifCond .eq 10) 3 8 := ⟨by decide +kernel, rfl⟩
theorem m_X5_folded : jmV yX5_folded cX5_folded 4 (some .int) 3 := ⟨⟨(jj_m (w := Cond.code yX5_folded cX5_folded 4 (some .int)) (List.mem_of_getElem? (i := 1039) (by decide +kernel)) rfl), (jj_m (w := Cond.initialized yX5_folded.cls) (List.mem_of_getElem? (i := 69) (by decide +kernel)) rfl), ⟨by decide, by decide⟩, by decide +kernel⟩, (jj_m (w := Cond.instanceMethod yX5_folded) (List.mem_of_getElem? (i := 1038) (by decide +kernel)) rfl), (jj_m (w := Cond.selects yX5_folded.cls yX5_folded yX5_folded) (List.mem_of_getElem? (i := 41) (by decide +kernel)) rfl)⟩
def fX5_folded (i1 : Int32) (i2 : Int32) (i3 : Int32) (S : M2) : Option (Int32 × M2) :=
  (fX5_isBolt i1 S).bind fun r1 =>
  if r1 = 0 then
    some ((-1 : Int32), S)
  else
    (fX5_isBale i2).bind fun r2 =>
    if r2 = 0 then
      some ((-1 : Int32), S)
    else
      (fX5_starts  S).bind fun q3 =>
      lt (q3) fun S4 =>
      (fX5_folds i1 i2 i3 S4).bind fun q5 =>
      lt (q5) fun S6 =>
      (fX5_settles  S6).bind fun q7 =>
      lt (q7) fun S8 =>
      (fX5_liesIn i2 S8).bind fun r9 =>
      some (r9, S8)

set_option maxHeartbeats 4000000 in
set_option maxRecDepth 100000 in
theorem tX5_folded (l : Launch) {V : JV M2} {b : Nat} {a : Nat → Nat} (hv : vX5 V b a) (S : M2) (i1 : Int32) (i2 : Int32) (i3 : Int32) : JC l V yX5_folded cX5_folded 4 (some .int) jj_i 3 [.ref b, .int i1, .int i2, .int i3] S ((fX5_folded i1 i2 i3 S).map (fun q => (q.1, q.2))) := by
  refine jj_of (by decide) (Nat.le_of_ble_eq_true rfl) (fun E hlE hE => ?_)
  unfold fX5_folded
  refine J_sub (L' := [(0, .ref b), (1, .int i1), (2, .int i2), (3, .int i3)]) [0, 1, 2, 3] rfl ?_
  refine J_aload_n hE dd_X5_folded_0 0 rfl rfl ?_
  refine J_iload_n hE dd_X5_folded_1 1 rfl rfl ?_
  refine J_invVri hE (As := [.int i1]) (st := []) (tX5_isBolt E.2.1 hv S i1) (hv.ob _) m_X5_isBolt rfl ml_RX5_205 (Nat.le_of_ble_eq_true rfl) (Nat.le_of_ble_eq_true rfl) rfl (Nat.le_of_ble_eq_true rfl) dd_X5_folded_2 (fun r1 => ?_)
  refine J_if_eq hE (tgt := 15) dd_X5_folded_5 (by decide) (fun c11 => ?_) (fun c11 => ?_)
  · refine J_iconst hE (v := (-1 : Int32)) dd_X5_folded_15 (by decide) ?_
    exact J_iret hE dd_X5_folded_16 rfl rfl
  · refine J_iload_n hE dd_X5_folded_8 2 rfl rfl ?_
    refine J_invSri hE (As := [.int i2]) (st := []) (tX5_isBale E.2.1 V S i2) m_X5_isBale s_X5_isBale rfl ml_RX5_213 (Nat.le_of_ble_eq_true rfl) (Nat.le_of_ble_eq_true rfl) rfl (Nat.le_of_ble_eq_true rfl) dd_X5_folded_9 (fun r2 => ?_)
    refine J_if_ne hE (tgt := 17) dd_X5_folded_12 (by decide) (fun c10 => ?_) (fun c10 => ?_)
    · refine J_aload_n hE dd_X5_folded_17 0 rfl rfl ?_
      refine J_invVwv hE (e := fun x => x) (As := []) (st := []) (tX5_starts E.2.1 hv S ) (hv.ob _) m_X5_starts rfl ml_RX5_199 (Nat.le_of_ble_eq_true rfl) (Nat.le_of_ble_eq_true rfl) rfl (Nat.le_of_ble_eq_true rfl) dd_X5_folded_18 (fun q3 => ?_)
      refine J_letS (fun S4 => ?_)
      refine J_aload_n hE dd_X5_folded_21 0 rfl rfl ?_
      refine J_iload_n hE dd_X5_folded_22 1 rfl rfl ?_
      refine J_iload_n hE dd_X5_folded_23 2 rfl rfl ?_
      refine J_iload_n hE dd_X5_folded_24 3 rfl rfl ?_
      refine J_invVwv hE (e := fun x => x) (As := [.int i1, .int i2, .int i3]) (st := []) (tX5_folds E.2.1 hv S4 i1 i2 i3) (hv.ob _) m_X5_folds rfl ml_RX5_218 (Nat.le_of_ble_eq_true rfl) (Nat.le_of_ble_eq_true rfl) rfl (Nat.le_of_ble_eq_true rfl) dd_X5_folded_25 (fun q5 => ?_)
      refine J_letS (fun S6 => ?_)
      refine J_aload_n hE dd_X5_folded_28 0 rfl rfl ?_
      refine J_invVwv hE (e := fun x => x) (As := []) (st := []) (tX5_settles E.2.1 hv S6 ) (hv.ob _) m_X5_settles rfl ml_RX5_222 (Nat.le_of_ble_eq_true rfl) (Nat.le_of_ble_eq_true rfl) rfl (Nat.le_of_ble_eq_true rfl) dd_X5_folded_29 (fun q7 => ?_)
      refine J_letS (fun S8 => ?_)
      refine J_aload_n hE dd_X5_folded_32 0 rfl rfl ?_
      refine J_iload_n hE dd_X5_folded_33 2 rfl rfl ?_
      refine J_invVri hE (As := [.int i2]) (st := []) (tX5_liesIn E.2.1 hv S8 i2) (hv.ob _) m_X5_liesIn rfl ml_RX5_166 (Nat.le_of_ble_eq_true rfl) (Nat.le_of_ble_eq_true rfl) rfl (Nat.le_of_ble_eq_true rfl) dd_X5_folded_34 (fun r9 => ?_)
      exact J_iret hE dd_X5_folded_37 rfl rfl
    · refine J_iconst hE (v := (-1 : Int32)) dd_X5_folded_15 (by decide) ?_
      exact J_iret hE dd_X5_folded_16 rfl rfl
theorem dd_X5_fold_0 : jd cX5_fold 0 (.aload_n 0) 1 1 := ⟨by decide +kernel, rfl⟩
theorem dd_X5_fold_1 : jd cX5_fold 1 (.iload_n 1) 1 2 := ⟨by decide +kernel, rfl⟩
theorem dd_X5_fold_2 : jd cX5_fold 2 (.iload_n 2) 1 3 := ⟨by decide +kernel, rfl⟩
theorem dd_X5_fold_3 : jd cX5_fold 3 (.iconst 1) 1 4 := ⟨by decide +kernel, rfl⟩
theorem ml_RX5_225 : (Cond.methodLink "MothCustomsModel" 225 yX5_folded : Cond) ∈ jj_tb := jj_m (List.mem_of_getElem? (i := 1036) (by decide +kernel)) rfl
theorem dd_X5_fold_4 : jd cX5_fold 4 (.invokevirtual 225) 3 7 := ⟨by decide +kernel, rfl⟩
theorem dd_X5_fold_7 : jd cX5_fold 7 (.ireturn) 1 8 := ⟨by decide +kernel, rfl⟩
theorem m_X5_fold : jmV yX5_fold cX5_fold 3 (some .int) 2 := ⟨⟨(jj_m (w := Cond.code yX5_fold cX5_fold 3 (some .int)) (List.mem_of_getElem? (i := 1035) (by decide +kernel)) rfl), (jj_m (w := Cond.initialized yX5_fold.cls) (List.mem_of_getElem? (i := 69) (by decide +kernel)) rfl), ⟨by decide, by decide⟩, by decide +kernel⟩, (jj_m (w := Cond.instanceMethod yX5_fold) (List.mem_of_getElem? (i := 1033) (by decide +kernel)) rfl), (jj_m (w := Cond.selects yX5_fold.cls yX5_fold yX5_fold) (List.mem_of_getElem? (i := 1034) (by decide +kernel)) rfl)⟩
def fX5_fold (i1 : Int32) (i2 : Int32) (S : M2) : Option (Int32 × M2) :=
  (fX5_folded i1 i2 (1 : Int32) S).bind fun q1 =>
  lt (q1.2) fun S2 =>
  some (q1.1, S2)

set_option maxHeartbeats 4000000 in
set_option maxRecDepth 100000 in
theorem tX5_fold (l : Launch) {V : JV M2} {b : Nat} {a : Nat → Nat} (hv : vX5 V b a) (S : M2) (i1 : Int32) (i2 : Int32) : JC l V yX5_fold cX5_fold 3 (some .int) jj_i 4 [.ref b, .int i1, .int i2] S ((fX5_fold i1 i2 S).map (fun q => (q.1, q.2))) := by
  refine jj_of (by decide) (Nat.le_of_ble_eq_true rfl) (fun E hlE hE => ?_)
  unfold fX5_fold
  refine J_sub (L' := [(0, .ref b), (1, .int i1), (2, .int i2)]) [0, 1, 2] rfl ?_
  refine J_aload_n hE dd_X5_fold_0 0 rfl rfl ?_
  refine J_iload_n hE dd_X5_fold_1 1 rfl rfl ?_
  refine J_iload_n hE dd_X5_fold_2 2 rfl rfl ?_
  refine J_iconst hE (v := (1 : Int32)) dd_X5_fold_3 (by decide) ?_
  refine J_invVwi hE (e := fun x => x) (As := [.int i1, .int i2, .int (1 : Int32)]) (st := []) (tX5_folded E.2.1 hv S i1 i2 (1 : Int32)) (hv.ob _) m_X5_folded rfl ml_RX5_225 (Nat.le_of_ble_eq_true rfl) (Nat.le_of_ble_eq_true rfl) rfl (Nat.le_of_ble_eq_true rfl) dd_X5_fold_4 (fun q1 => ?_)
  refine J_letS (fun S2 => ?_)
  exact J_iret hE dd_X5_fold_7 rfl rfl
theorem dd_X5_under_0 : jd cX5_under 0 (.aload_n 0) 1 1 := ⟨by decide +kernel, rfl⟩
theorem dd_X5_under_1 : jd cX5_under 1 (.iload_n 1) 1 2 := ⟨by decide +kernel, rfl⟩
theorem dd_X5_under_2 : jd cX5_under 2 (.iload_n 2) 1 3 := ⟨by decide +kernel, rfl⟩
theorem dd_X5_under_3 : jd cX5_under 3 (.iconst 0) 1 4 := ⟨by decide +kernel, rfl⟩
theorem dd_X5_under_4 : jd cX5_under 4 (.invokevirtual 225) 3 7 := ⟨by decide +kernel, rfl⟩
theorem dd_X5_under_7 : jd cX5_under 7 (.ireturn) 1 8 := ⟨by decide +kernel, rfl⟩
theorem m_X5_under : jmV yX5_under cX5_under 3 (some .int) 2 := ⟨⟨(jj_m (w := Cond.code yX5_under cX5_under 3 (some .int)) (List.mem_of_getElem? (i := 1055) (by decide +kernel)) rfl), (jj_m (w := Cond.initialized yX5_under.cls) (List.mem_of_getElem? (i := 69) (by decide +kernel)) rfl), ⟨by decide, by decide⟩, by decide +kernel⟩, (jj_m (w := Cond.instanceMethod yX5_under) (List.mem_of_getElem? (i := 1053) (by decide +kernel)) rfl), (jj_m (w := Cond.selects yX5_under.cls yX5_under yX5_under) (List.mem_of_getElem? (i := 1054) (by decide +kernel)) rfl)⟩
def fX5_under (i1 : Int32) (i2 : Int32) (S : M2) : Option (Int32 × M2) :=
  (fX5_folded i1 i2 (0 : Int32) S).bind fun q1 =>
  lt (q1.2) fun S2 =>
  some (q1.1, S2)

set_option maxHeartbeats 4000000 in
set_option maxRecDepth 100000 in
theorem tX5_under (l : Launch) {V : JV M2} {b : Nat} {a : Nat → Nat} (hv : vX5 V b a) (S : M2) (i1 : Int32) (i2 : Int32) : JC l V yX5_under cX5_under 3 (some .int) jj_i 4 [.ref b, .int i1, .int i2] S ((fX5_under i1 i2 S).map (fun q => (q.1, q.2))) := by
  refine jj_of (by decide) (Nat.le_of_ble_eq_true rfl) (fun E hlE hE => ?_)
  unfold fX5_under
  refine J_sub (L' := [(0, .ref b), (1, .int i1), (2, .int i2)]) [0, 1, 2] rfl ?_
  refine J_aload_n hE dd_X5_under_0 0 rfl rfl ?_
  refine J_iload_n hE dd_X5_under_1 1 rfl rfl ?_
  refine J_iload_n hE dd_X5_under_2 2 rfl rfl ?_
  refine J_iconst hE (v := (0 : Int32)) dd_X5_under_3 (by decide) ?_
  refine J_invVwi hE (e := fun x => x) (As := [.int i1, .int i2, .int (0 : Int32)]) (st := []) (tX5_folded E.2.1 hv S i1 i2 (0 : Int32)) (hv.ob _) m_X5_folded rfl ml_RX5_225 (Nat.le_of_ble_eq_true rfl) (Nat.le_of_ble_eq_true rfl) rfl (Nat.le_of_ble_eq_true rfl) dd_X5_under_4 (fun q1 => ?_)
  refine J_letS (fun S2 => ?_)
  exact J_iret hE dd_X5_under_7 rfl rfl
theorem dd_X5_swap_0 : jd cX5_swap 0 (.aload_n 0) 1 1 := ⟨by decide +kernel, rfl⟩
theorem dd_X5_swap_1 : jd cX5_swap 1 (.iload_n 1) 1 2 := ⟨by decide +kernel, rfl⟩
theorem dd_X5_swap_2 : jd cX5_swap 2 (.invokevirtual 205) 3 5 := ⟨by decide +kernel, rfl⟩
theorem dd_X5_swap_21 : jd cX5_swap 21 (.iconst (-1)) 1 22 := ⟨by decide +kernel, rfl⟩
theorem dd_X5_swap_22 : jd cX5_swap 22 (.ireturn) 1 23 := ⟨by decide +kernel, rfl⟩
theorem dd_X5_swap_8 : jd cX5_swap 8 (.aload_n 0) 1 9 := ⟨by decide +kernel, rfl⟩
theorem dd_X5_swap_9 : jd cX5_swap 9 (.iload_n 2) 1 10 := ⟨by decide +kernel, rfl⟩
theorem dd_X5_swap_10 : jd cX5_swap 10 (.invokevirtual 205) 3 13 := ⟨by decide +kernel, rfl⟩
theorem dd_X5_swap_16 : jd cX5_swap 16 (.iload_n 1) 1 17 := ⟨by decide +kernel, rfl⟩
theorem dd_X5_swap_17 : jd cX5_swap 17 (.iload_n 2) 1 18 := ⟨by decide +kernel, rfl⟩
theorem dd_X5_swap_23 : jd cX5_swap 23 (.iconst 4) 1 24 := ⟨by decide +kernel, rfl⟩
theorem dd_X5_swap_24 : jd cX5_swap 24 (.istore_n 3) 1 25 := ⟨by decide +kernel, rfl⟩
theorem dd_X5_swap_25 : jd cX5_swap 25 (.iload_n 3) 1 26 := ⟨by decide +kernel, rfl⟩
theorem dd_X5_swap_26 : jd cX5_swap 26 (.iconst 5) 1 27 := ⟨by decide +kernel, rfl⟩
theorem dd_X5_swap_30 : jd cX5_swap 30 (.aload_n 0) 1 31 := ⟨by decide +kernel, rfl⟩
theorem dd_X5_swap_31 : jd cX5_swap 31 (.getfield 7) 3 34 := ⟨by decide +kernel, rfl⟩
theorem dd_X5_swap_34 : jd cX5_swap 34 (.bipush 6) 2 36 := ⟨by decide +kernel, rfl⟩
theorem dd_X5_swap_36 : jd cX5_swap 36 (.iload_n 2) 1 37 := ⟨by decide +kernel, rfl⟩
theorem dd_X5_swap_37 : jd cX5_swap 37 (.imul) 1 38 := ⟨by decide +kernel, rfl⟩
theorem dd_X5_swap_38 : jd cX5_swap 38 (.iload_n 3) 1 39 := ⟨by decide +kernel, rfl⟩
theorem dd_X5_swap_39 : jd cX5_swap 39 (.iadd) 1 40 := ⟨by decide +kernel, rfl⟩
theorem dd_X5_swap_40 : jd cX5_swap 40 (.aload_n 0) 1 41 := ⟨by decide +kernel, rfl⟩
theorem dd_X5_swap_41 : jd cX5_swap 41 (.bipush 6) 2 43 := ⟨by decide +kernel, rfl⟩
theorem dd_X5_swap_43 : jd cX5_swap 43 (.iload_n 1) 1 44 := ⟨by decide +kernel, rfl⟩
theorem dd_X5_swap_44 : jd cX5_swap 44 (.imul) 1 45 := ⟨by decide +kernel, rfl⟩
theorem dd_X5_swap_45 : jd cX5_swap 45 (.iload_n 3) 1 46 := ⟨by decide +kernel, rfl⟩
theorem dd_X5_swap_46 : jd cX5_swap 46 (.iadd) 1 47 := ⟨by decide +kernel, rfl⟩
theorem dd_X5_swap_47 : jd cX5_swap 47 (.aload_n 0) 1 48 := ⟨by decide +kernel, rfl⟩
theorem dd_X5_swap_48 : jd cX5_swap 48 (.getfield 7) 3 51 := ⟨by decide +kernel, rfl⟩
theorem dd_X5_swap_51 : jd cX5_swap 51 (.bipush 6) 2 53 := ⟨by decide +kernel, rfl⟩
theorem dd_X5_swap_53 : jd cX5_swap 53 (.iload_n 2) 1 54 := ⟨by decide +kernel, rfl⟩
theorem dd_X5_swap_54 : jd cX5_swap 54 (.imul) 1 55 := ⟨by decide +kernel, rfl⟩
theorem dd_X5_swap_55 : jd cX5_swap 55 (.iload_n 3) 1 56 := ⟨by decide +kernel, rfl⟩
theorem dd_X5_swap_56 : jd cX5_swap 56 (.iadd) 1 57 := ⟨by decide +kernel, rfl⟩
theorem dd_X5_swap_57 : jd cX5_swap 57 (.iaload) 1 58 := ⟨by decide +kernel, rfl⟩
theorem ml_RX5_229 : (Cond.methodLink "MothCustomsModel" 229 yX5_becomes : Cond) ∈ jj_tb := jj_m (List.mem_of_getElem? (i := 1060) (by decide +kernel)) rfl
theorem dd_X5_swap_58 : jd cX5_swap 58 (.invokevirtual 229) 3 61 := ⟨by decide +kernel, rfl⟩
theorem dd_X5_swap_61 : jd cX5_swap 61 (.iastore) 1 62 := ⟨by decide +kernel, rfl⟩
theorem dd_X5_swap_62 : jd cX5_swap 62 (.iinc 3 1) 3 65 := ⟨by decide +kernel, rfl⟩
theorem dd_X5_swap_65 : jd cX5_swap 65 (.goto (-40)) 3 68 := ⟨by decide +kernel, rfl⟩
theorem dd_X5_swap_27 : jd cX5_swap 27 (.if_icmp .gt 41) 3 30 := ⟨by decide +kernel, rfl⟩
theorem dd_X5_swap_68 : jd cX5_swap 68 (.aload_n 0) 1 69 := ⟨by decide +kernel, rfl⟩
theorem dd_X5_swap_69 : jd cX5_swap 69 (.getfield 7) 3 72 := ⟨by decide +kernel, rfl⟩
theorem dd_X5_swap_72 : jd cX5_swap 72 (.bipush 6) 2 74 := ⟨by decide +kernel, rfl⟩
theorem dd_X5_swap_74 : jd cX5_swap 74 (.iload_n 1) 1 75 := ⟨by decide +kernel, rfl⟩
theorem dd_X5_swap_75 : jd cX5_swap 75 (.imul) 1 76 := ⟨by decide +kernel, rfl⟩
theorem dd_X5_swap_76 : jd cX5_swap 76 (.iconst 4) 1 77 := ⟨by decide +kernel, rfl⟩
theorem dd_X5_swap_77 : jd cX5_swap 77 (.iadd) 1 78 := ⟨by decide +kernel, rfl⟩
theorem dd_X5_swap_78 : jd cX5_swap 78 (.iaload) 1 79 := ⟨by decide +kernel, rfl⟩
theorem dd_X5_swap_79 : jd cX5_swap 79 (.ireturn) 1 80 := ⟨by decide +kernel, rfl⟩
theorem dd_X5_swap_18 : jd cX5_swap 18 (.if_icmp .ne 5) 3 21 := ⟨by decide +kernel, rfl⟩
theorem dd_X5_swap_13 : jd cX5_swap 13 (.ifCond .eq 8) 3 16 := ⟨by decide +kernel, rfl⟩
theorem dd_X5_swap_5 : jd cX5_swap 5 (.ifCond .eq 16) 3 8 := ⟨by decide +kernel, rfl⟩
theorem m_X5_swap : jmV yX5_swap cX5_swap 4 (some .int) 2 := ⟨⟨(jj_m (w := Cond.code yX5_swap cX5_swap 4 (some .int)) (List.mem_of_getElem? (i := 1059) (by decide +kernel)) rfl), (jj_m (w := Cond.initialized yX5_swap.cls) (List.mem_of_getElem? (i := 69) (by decide +kernel)) rfl), ⟨by decide, by decide⟩, by decide +kernel⟩, (jj_m (w := Cond.instanceMethod yX5_swap) (List.mem_of_getElem? (i := 1057) (by decide +kernel)) rfl), (jj_m (w := Cond.selects yX5_swap.cls yX5_swap yX5_swap) (List.mem_of_getElem? (i := 1058) (by decide +kernel)) rfl)⟩
def fX5_swap_L25 (i1 : Int32) (i2 : Int32) (k68 : M2 → Option (Int32 × M2)) : Nat → Int32 → M2 → Option (Int32 × M2)
  | 0, _, _ => none
  | n_ + 1, v3, S4 =>
    if (5 : Int32) < v3 then
      k68 S4
    else
      bnd (((6 : Int32) * i2) + v3) 186 <|
      (fX5_becomes (((6 : Int32) * i1) + v3) (S4 0 (((6 : Int32) * i2) + v3).toNatClampNeg) S4).bind fun q5 =>
      lt (q5.2) fun S6 =>
      bnd (((6 : Int32) * i2) + v3) 186 <|
      lt (va_up S6 0 (upd (S6 0) (((6 : Int32) * i2) + v3).toNatClampNeg q5.1)) fun S7 =>
      lt (v3 + (1 : Int32)) fun x8 =>
      fX5_swap_L25 i1 i2 k68 n_ x8 S7

def fX5_swap (i1 : Int32) (i2 : Int32) (S : M2) : Option (Int32 × M2) :=
  (fX5_isBolt i1 S).bind fun r1 =>
  if r1 = 0 then
    some ((-1 : Int32), S)
  else
    (fX5_isBolt i2 S).bind fun r2 =>
    if r2 = 0 then
      some ((-1 : Int32), S)
    else
      if i1 = i2 then
        some ((-1 : Int32), S)
      else
        fX5_swap_L25 i1 i2
          (fun p10 =>
            bnd (((6 : Int32) * i1) + (4 : Int32)) 186 <|
            some ((p10 0 (((6 : Int32) * i1) + (4 : Int32)).toNatClampNeg), p10))
          400 (4 : Int32) S

set_option maxHeartbeats 4000000 in
set_option maxRecDepth 100000 in
theorem tX5_swap_L25 {V : JV M2} {b : Nat} {a : Nat → Nat} (hv : vX5 V b a) (i1 : Int32) (i2 : Int32) {E : JE (M2) Int32} (hE : JOk V E cX5_swap yX5_swap.cls 4 2 (some .int) jj_i) {k68 : M2 → Option (Int32 × M2)} (hk68 : ∀ p, J V E (fun q => (q.1, q.2)) (k68 p) 68 [(0, .ref b), (1, .int i1)] [] p) : ∀ (n_ : Nat) (v3 : Int32) (S4 : M2), J V E (fun q => (q.1, q.2)) (fX5_swap_L25 i1 i2 k68 n_ v3 S4) 25 [(0, .ref b), (1, .int i1), (2, .int i2), (3, .int v3)] [] S4 := by
  intro n_
  induction n_ with
  | zero =>
    intros
    exact J_none
  | succ n_ ih =>
    intros v3 S4
    rw [fX5_swap_L25]
    refine J_iload_n hE dd_X5_swap_25 3 rfl rfl ?_
    refine J_iconst hE (v := (5 : Int32)) dd_X5_swap_26 (by decide) ?_
    refine J_icmp_gt hE (tgt := 68) dd_X5_swap_27 (by decide) (fun c9 => ?_) (fun c9 => ?_)
    · refine J_sub [0, 1] rfl ?_
      exact hk68 S4
    · refine J_aload_n hE dd_X5_swap_30 0 rfl rfl ?_
      refine J_get hE (hv.ob _) jc_X5 0 (by decide) fl_RX5_7 (v := .ref (a 0)) rfl dd_X5_swap_31 ?_
      refine J_bipush hE (v := (6 : Int32)) dd_X5_swap_34 (by decide) ?_
      refine J_iload_n hE dd_X5_swap_36 2 rfl rfl ?_
      refine J_imul hE dd_X5_swap_37 ?_
      refine J_iload_n hE dd_X5_swap_38 3 rfl rfl ?_
      refine J_iadd hE dd_X5_swap_39 ?_
      refine J_aload_n hE dd_X5_swap_40 0 rfl rfl ?_
      refine J_bipush hE (v := (6 : Int32)) dd_X5_swap_41 (by decide) ?_
      refine J_iload_n hE dd_X5_swap_43 1 rfl rfl ?_
      refine J_imul hE dd_X5_swap_44 ?_
      refine J_iload_n hE dd_X5_swap_45 3 rfl rfl ?_
      refine J_iadd hE dd_X5_swap_46 ?_
      refine J_aload_n hE dd_X5_swap_47 0 rfl rfl ?_
      refine J_get hE (hv.ob _) jc_X5 0 (by decide) fl_RX5_7 (v := .ref (a 0)) rfl dd_X5_swap_48 ?_
      refine J_bipush hE (v := (6 : Int32)) dd_X5_swap_51 (by decide) ?_
      refine J_iload_n hE dd_X5_swap_53 2 rfl rfl ?_
      refine J_imul hE dd_X5_swap_54 ?_
      refine J_iload_n hE dd_X5_swap_55 3 rfl rfl ?_
      refine J_iadd hE dd_X5_swap_56 ?_
      refine J_ald hE (hv.arr 0 (n := 186) (ty := .int) (by decide) _) dd_X5_swap_57 ?_
      refine J_invVwi hE (e := fun x => x) (As := [.int (((6 : Int32) * i1) + v3), .int (S4 0 (((6 : Int32) * i2) + v3).toNatClampNeg)]) (st := [.int (((6 : Int32) * i2) + v3), .ref (a 0)]) (tX5_becomes E.2.1 hv S4 (((6 : Int32) * i1) + v3) (S4 0 (((6 : Int32) * i2) + v3).toNatClampNeg)) (hv.ob _) m_X5_becomes rfl ml_RX5_229 (Nat.le_of_ble_eq_true rfl) (Nat.le_of_ble_eq_true rfl) rfl (Nat.le_of_ble_eq_true rfl) dd_X5_swap_58 (fun q5 => ?_)
      refine J_letS (fun S6 => ?_)
      refine J_ast hE hv 0 (N := 186) (by decide) dd_X5_swap_61 ?_
      refine J_letS (fun S7 => ?_)
      refine J_iincL hE (v := (v3 + (1 : Int32))) (Lf := fun x8 => [(3, .int x8), (0, .ref b), (1, .int i1), (2, .int i2)]) dd_X5_swap_62 (j := 3) rfl (congrArg (v3 + ·) (by decide)) (Nat.le_of_ble_eq_true rfl) (fun _ => rfl) (fun x8 => ?_)
      refine J_goto hE (tgt := 25) dd_X5_swap_65 (by decide) ?_
      refine J_sub [1, 2, 3, 0] rfl ?_
      exact ih x8 S7
set_option maxHeartbeats 4000000 in
set_option maxRecDepth 100000 in
theorem tX5_swap (l : Launch) {V : JV M2} {b : Nat} {a : Nat → Nat} (hv : vX5 V b a) (S : M2) (i1 : Int32) (i2 : Int32) : JC l V yX5_swap cX5_swap 4 (some .int) jj_i 2 [.ref b, .int i1, .int i2] S ((fX5_swap i1 i2 S).map (fun q => (q.1, q.2))) := by
  refine jj_of (by decide) (Nat.le_of_ble_eq_true rfl) (fun E hlE hE => ?_)
  unfold fX5_swap
  refine J_sub (L' := [(0, .ref b), (1, .int i1), (2, .int i2)]) [0, 1, 2] rfl ?_
  refine J_aload_n hE dd_X5_swap_0 0 rfl rfl ?_
  refine J_iload_n hE dd_X5_swap_1 1 rfl rfl ?_
  refine J_invVri hE (As := [.int i1]) (st := []) (tX5_isBolt E.2.1 hv S i1) (hv.ob _) m_X5_isBolt rfl ml_RX5_205 (Nat.le_of_ble_eq_true rfl) (Nat.le_of_ble_eq_true rfl) rfl (Nat.le_of_ble_eq_true rfl) dd_X5_swap_2 (fun r1 => ?_)
  refine J_if_eq hE (tgt := 21) dd_X5_swap_5 (by decide) (fun c13 => ?_) (fun c13 => ?_)
  · refine J_iconst hE (v := (-1 : Int32)) dd_X5_swap_21 (by decide) ?_
    exact J_iret hE dd_X5_swap_22 rfl rfl
  · refine J_aload_n hE dd_X5_swap_8 0 rfl rfl ?_
    refine J_iload_n hE dd_X5_swap_9 2 rfl rfl ?_
    refine J_invVri hE (As := [.int i2]) (st := []) (tX5_isBolt E.2.1 hv S i2) (hv.ob _) m_X5_isBolt rfl ml_RX5_205 (Nat.le_of_ble_eq_true rfl) (Nat.le_of_ble_eq_true rfl) rfl (Nat.le_of_ble_eq_true rfl) dd_X5_swap_10 (fun r2 => ?_)
    refine J_if_eq hE (tgt := 21) dd_X5_swap_13 (by decide) (fun c12 => ?_) (fun c12 => ?_)
    · refine J_iconst hE (v := (-1 : Int32)) dd_X5_swap_21 (by decide) ?_
      exact J_iret hE dd_X5_swap_22 rfl rfl
    · refine J_iload_n hE dd_X5_swap_16 1 rfl rfl ?_
      refine J_iload_n hE dd_X5_swap_17 2 rfl rfl ?_
      refine J_icmp_ne hE (tgt := 23) dd_X5_swap_18 (by decide) (fun c11 => ?_) (fun c11 => ?_)
      · refine J_iconst hE (v := (4 : Int32)) dd_X5_swap_23 (by decide) ?_
        refine J_istore_n hE (L' := [(3, .int (4 : Int32)), (0, .ref b), (1, .int i1), (2, .int i2)]) dd_X5_swap_24 (Nat.le_of_ble_eq_true rfl) rfl rfl ?_
        refine J_sub [1, 2, 3, 0] rfl ?_
        refine tX5_swap_L25 hv i1 i2 hE (fun p10 => ?_) 400 (4 : Int32) S
        show J V E _ _ 68 [(0, .ref b), (1, .int i1)] [] p10
        refine J_aload_n hE dd_X5_swap_68 0 rfl rfl ?_
        refine J_get hE (hv.ob _) jc_X5 0 (by decide) fl_RX5_7 (v := .ref (a 0)) rfl dd_X5_swap_69 ?_
        refine J_bipush hE (v := (6 : Int32)) dd_X5_swap_72 (by decide) ?_
        refine J_iload_n hE dd_X5_swap_74 1 rfl rfl ?_
        refine J_imul hE dd_X5_swap_75 ?_
        refine J_iconst hE (v := (4 : Int32)) dd_X5_swap_76 (by decide) ?_
        refine J_iadd hE dd_X5_swap_77 ?_
        refine J_ald hE (hv.arr 0 (n := 186) (ty := .int) (by decide) _) dd_X5_swap_78 ?_
        exact J_iret hE dd_X5_swap_79 rfl rfl
      · refine J_iconst hE (v := (-1 : Int32)) dd_X5_swap_21 (by decide) ?_
        exact J_iret hE dd_X5_swap_22 rfl rfl
theorem dd_X5_camphor_0 : jd cX5_camphor 0 (.aload_n 0) 1 1 := ⟨by decide +kernel, rfl⟩
theorem dd_X5_camphor_1 : jd cX5_camphor 1 (.iload_n 1) 1 2 := ⟨by decide +kernel, rfl⟩
theorem dd_X5_camphor_2 : jd cX5_camphor 2 (.invokevirtual 205) 3 5 := ⟨by decide +kernel, rfl⟩
theorem dd_X5_camphor_25 : jd cX5_camphor 25 (.iconst (-1)) 1 26 := ⟨by decide +kernel, rfl⟩
theorem dd_X5_camphor_26 : jd cX5_camphor 26 (.ireturn) 1 27 := ⟨by decide +kernel, rfl⟩
theorem dd_X5_camphor_8 : jd cX5_camphor 8 (.aload_n 0) 1 9 := ⟨by decide +kernel, rfl⟩
theorem dd_X5_camphor_9 : jd cX5_camphor 9 (.bipush 6) 2 11 := ⟨by decide +kernel, rfl⟩
theorem dd_X5_camphor_11 : jd cX5_camphor 11 (.iload_n 1) 1 12 := ⟨by decide +kernel, rfl⟩
theorem dd_X5_camphor_12 : jd cX5_camphor 12 (.imul) 1 13 := ⟨by decide +kernel, rfl⟩
theorem dd_X5_camphor_13 : jd cX5_camphor 13 (.iconst 3) 1 14 := ⟨by decide +kernel, rfl⟩
theorem dd_X5_camphor_14 : jd cX5_camphor 14 (.iadd) 1 15 := ⟨by decide +kernel, rfl⟩
theorem dd_X5_camphor_15 : jd cX5_camphor 15 (.iload_n 2) 1 16 := ⟨by decide +kernel, rfl⟩
theorem dd_X5_camphor_16 : jd cX5_camphor 16 (.invokestatic 129) 3 19 := ⟨by decide +kernel, rfl⟩
theorem dd_X5_camphor_19 : jd cX5_camphor 19 (.invokevirtual 229) 3 22 := ⟨by decide +kernel, rfl⟩
theorem dd_X5_camphor_22 : jd cX5_camphor 22 (.goto 4) 3 25 := ⟨by decide +kernel, rfl⟩
theorem dd_X5_camphor_5 : jd cX5_camphor 5 (.ifCond .eq 20) 3 8 := ⟨by decide +kernel, rfl⟩
theorem m_X5_camphor : jmV yX5_camphor cX5_camphor 3 (some .int) 2 := ⟨⟨(jj_m (w := Cond.code yX5_camphor cX5_camphor 3 (some .int)) (List.mem_of_getElem? (i := 1067) (by decide +kernel)) rfl), (jj_m (w := Cond.initialized yX5_camphor.cls) (List.mem_of_getElem? (i := 69) (by decide +kernel)) rfl), ⟨by decide, by decide⟩, by decide +kernel⟩, (jj_m (w := Cond.instanceMethod yX5_camphor) (List.mem_of_getElem? (i := 1065) (by decide +kernel)) rfl), (jj_m (w := Cond.selects yX5_camphor.cls yX5_camphor yX5_camphor) (List.mem_of_getElem? (i := 1066) (by decide +kernel)) rfl)⟩
def fX5_camphor (i1 : Int32) (i2 : Int32) (S : M2) : Option (Int32 × M2) :=
  (fX5_isBolt i1 S).bind fun r1 =>
  if r1 = 0 then
    some ((-1 : Int32), S)
  else
    (fX5_flag i2).bind fun r2 =>
    (fX5_becomes (((6 : Int32) * i1) + (3 : Int32)) r2 S).bind fun q3 =>
    lt (q3.2) fun S4 =>
    some (q3.1, S4)

set_option maxHeartbeats 4000000 in
set_option maxRecDepth 100000 in
theorem tX5_camphor (l : Launch) {V : JV M2} {b : Nat} {a : Nat → Nat} (hv : vX5 V b a) (S : M2) (i1 : Int32) (i2 : Int32) : JC l V yX5_camphor cX5_camphor 3 (some .int) jj_i 2 [.ref b, .int i1, .int i2] S ((fX5_camphor i1 i2 S).map (fun q => (q.1, q.2))) := by
  refine jj_of (by decide) (Nat.le_of_ble_eq_true rfl) (fun E hlE hE => ?_)
  unfold fX5_camphor
  refine J_sub (L' := [(0, .ref b), (1, .int i1), (2, .int i2)]) [0, 1, 2] rfl ?_
  refine J_aload_n hE dd_X5_camphor_0 0 rfl rfl ?_
  refine J_iload_n hE dd_X5_camphor_1 1 rfl rfl ?_
  refine J_invVri hE (As := [.int i1]) (st := []) (tX5_isBolt E.2.1 hv S i1) (hv.ob _) m_X5_isBolt rfl ml_RX5_205 (Nat.le_of_ble_eq_true rfl) (Nat.le_of_ble_eq_true rfl) rfl (Nat.le_of_ble_eq_true rfl) dd_X5_camphor_2 (fun r1 => ?_)
  refine J_if_eq hE (tgt := 25) dd_X5_camphor_5 (by decide) (fun c5 => ?_) (fun c5 => ?_)
  · refine J_iconst hE (v := (-1 : Int32)) dd_X5_camphor_25 (by decide) ?_
    exact J_iret hE dd_X5_camphor_26 rfl rfl
  · refine J_aload_n hE dd_X5_camphor_8 0 rfl rfl ?_
    refine J_bipush hE (v := (6 : Int32)) dd_X5_camphor_9 (by decide) ?_
    refine J_iload_n hE dd_X5_camphor_11 1 rfl rfl ?_
    refine J_imul hE dd_X5_camphor_12 ?_
    refine J_iconst hE (v := (3 : Int32)) dd_X5_camphor_13 (by decide) ?_
    refine J_iadd hE dd_X5_camphor_14 ?_
    refine J_iload_n hE dd_X5_camphor_15 2 rfl rfl ?_
    refine J_invSri hE (As := [.int i2]) (st := [.int (((6 : Int32) * i1) + (3 : Int32)), .ref b]) (tX5_flag E.2.1 V S i2) m_X5_flag s_X5_flag rfl ml_RX5_129 (Nat.le_of_ble_eq_true rfl) (Nat.le_of_ble_eq_true rfl) rfl (Nat.le_of_ble_eq_true rfl) dd_X5_camphor_16 (fun r2 => ?_)
    refine J_invVwi hE (e := fun x => x) (As := [.int (((6 : Int32) * i1) + (3 : Int32)), .int r2]) (st := []) (tX5_becomes E.2.1 hv S (((6 : Int32) * i1) + (3 : Int32)) r2) (hv.ob _) m_X5_becomes rfl ml_RX5_229 (Nat.le_of_ble_eq_true rfl) (Nat.le_of_ble_eq_true rfl) rfl (Nat.le_of_ble_eq_true rfl) dd_X5_camphor_19 (fun q3 => ?_)
    refine J_letS (fun S4 => ?_)
    refine J_goto hE (tgt := 26) dd_X5_camphor_22 (by decide) ?_
    exact J_iret hE dd_X5_camphor_26 rfl rfl
theorem dd_X5_patch_0 : jd cX5_patch 0 (.aload_n 0) 1 1 := ⟨by decide +kernel, rfl⟩
theorem dd_X5_patch_1 : jd cX5_patch 1 (.iload_n 1) 1 2 := ⟨by decide +kernel, rfl⟩
theorem dd_X5_patch_2 : jd cX5_patch 2 (.invokevirtual 205) 3 5 := ⟨by decide +kernel, rfl⟩
theorem dd_X5_patch_20 : jd cX5_patch 20 (.iconst (-1)) 1 21 := ⟨by decide +kernel, rfl⟩
theorem dd_X5_patch_21 : jd cX5_patch 21 (.ireturn) 1 22 := ⟨by decide +kernel, rfl⟩
theorem dd_X5_patch_8 : jd cX5_patch 8 (.iload_n 2) 1 9 := ⟨by decide +kernel, rfl⟩
theorem dd_X5_patch_9 : jd cX5_patch 9 (.i2l) 1 10 := ⟨by decide +kernel, rfl⟩
theorem dd_X5_patch_10 : jd cX5_patch 10 (.lconst 0) 1 11 := ⟨by decide +kernel, rfl⟩
theorem cl_RX5_232 : (Cond.constantLong "MothCustomsModel" 232 (9 : Int64) : Cond) ∈ jj_tb := jj_m (List.mem_of_getElem? (i := 1072) (by decide +kernel)) rfl
theorem dd_X5_patch_11 : jd cX5_patch 11 (.ldc2_w 232) 3 14 := ⟨by decide +kernel, rfl⟩
theorem dd_X5_patch_14 : jd cX5_patch 14 (.invokestatic 71) 3 17 := ⟨by decide +kernel, rfl⟩
theorem dd_X5_patch_22 : jd cX5_patch 22 (.bipush 6) 2 24 := ⟨by decide +kernel, rfl⟩
theorem dd_X5_patch_24 : jd cX5_patch 24 (.iload_n 1) 1 25 := ⟨by decide +kernel, rfl⟩
theorem dd_X5_patch_25 : jd cX5_patch 25 (.imul) 1 26 := ⟨by decide +kernel, rfl⟩
theorem dd_X5_patch_26 : jd cX5_patch 26 (.iconst 2) 1 27 := ⟨by decide +kernel, rfl⟩
theorem dd_X5_patch_27 : jd cX5_patch 27 (.iadd) 1 28 := ⟨by decide +kernel, rfl⟩
theorem dd_X5_patch_28 : jd cX5_patch 28 (.istore_n 3) 1 29 := ⟨by decide +kernel, rfl⟩
theorem dd_X5_patch_29 : jd cX5_patch 29 (.aload_n 0) 1 30 := ⟨by decide +kernel, rfl⟩
theorem dd_X5_patch_30 : jd cX5_patch 30 (.getfield 7) 3 33 := ⟨by decide +kernel, rfl⟩
theorem dd_X5_patch_33 : jd cX5_patch 33 (.iload_n 3) 1 34 := ⟨by decide +kernel, rfl⟩
theorem dd_X5_patch_34 : jd cX5_patch 34 (.iaload) 1 35 := ⟨by decide +kernel, rfl⟩
theorem dd_X5_patch_35 : jd cX5_patch 35 (.iload_n 2) 1 36 := ⟨by decide +kernel, rfl⟩
theorem dd_X5_patch_42 : jd cX5_patch 42 (.aload_n 0) 1 43 := ⟨by decide +kernel, rfl⟩
theorem dd_X5_patch_43 : jd cX5_patch 43 (.getfield 7) 3 46 := ⟨by decide +kernel, rfl⟩
theorem dd_X5_patch_46 : jd cX5_patch 46 (.iload_n 3) 1 47 := ⟨by decide +kernel, rfl⟩
theorem dd_X5_patch_47 : jd cX5_patch 47 (.dup2) 1 48 := ⟨by decide +kernel, rfl⟩
theorem dd_X5_patch_48 : jd cX5_patch 48 (.iaload) 1 49 := ⟨by decide +kernel, rfl⟩
theorem dd_X5_patch_49 : jd cX5_patch 49 (.iload_n 2) 1 50 := ⟨by decide +kernel, rfl⟩
theorem dd_X5_patch_50 : jd cX5_patch 50 (.isub) 1 51 := ⟨by decide +kernel, rfl⟩
theorem dd_X5_patch_51 : jd cX5_patch 51 (.iastore) 1 52 := ⟨by decide +kernel, rfl⟩
theorem dd_X5_patch_52 : jd cX5_patch 52 (.aload_n 0) 1 53 := ⟨by decide +kernel, rfl⟩
theorem dd_X5_patch_53 : jd cX5_patch 53 (.getfield 7) 3 56 := ⟨by decide +kernel, rfl⟩
theorem dd_X5_patch_56 : jd cX5_patch 56 (.iload_n 3) 1 57 := ⟨by decide +kernel, rfl⟩
theorem dd_X5_patch_57 : jd cX5_patch 57 (.iaload) 1 58 := ⟨by decide +kernel, rfl⟩
theorem dd_X5_patch_58 : jd cX5_patch 58 (.ireturn) 1 59 := ⟨by decide +kernel, rfl⟩
theorem dd_X5_patch_39 : jd cX5_patch 39 (.bipush (-2)) 2 41 := ⟨by decide +kernel, rfl⟩
theorem dd_X5_patch_41 : jd cX5_patch 41 (.ireturn) 1 42 := ⟨by decide +kernel, rfl⟩
theorem dd_X5_patch_36 : jd cX5_patch 36 (.if_icmp .ge 6) 3 39 := ⟨by decide +kernel, rfl⟩
theorem dd_X5_patch_17 : jd cX5_patch 17 (.ifCond .ne 5) 3 20 := ⟨by decide +kernel, rfl⟩
theorem dd_X5_patch_5 : jd cX5_patch 5 (.ifCond .eq 15) 3 8 := ⟨by decide +kernel, rfl⟩
theorem m_X5_patch : jmV yX5_patch cX5_patch 4 (some .int) 2 := ⟨⟨(jj_m (w := Cond.code yX5_patch cX5_patch 4 (some .int)) (List.mem_of_getElem? (i := 1071) (by decide +kernel)) rfl), (jj_m (w := Cond.initialized yX5_patch.cls) (List.mem_of_getElem? (i := 69) (by decide +kernel)) rfl), ⟨by decide, by decide⟩, by decide +kernel⟩, (jj_m (w := Cond.instanceMethod yX5_patch) (List.mem_of_getElem? (i := 1069) (by decide +kernel)) rfl), (jj_m (w := Cond.selects yX5_patch.cls yX5_patch yX5_patch) (List.mem_of_getElem? (i := 1070) (by decide +kernel)) rfl)⟩
def fX5_patch (i1 : Int32) (i2 : Int32) (S : M2) : Option (Int32 × M2) :=
  (fX5_isBolt i1 S).bind fun r1 =>
  if r1 = 0 then
    some ((-1 : Int32), S)
  else
    (fX5_in (i2.toInt64) (0 : Int64) (9 : Int64)).bind fun r2 =>
    if r2 = 0 then
      some ((-1 : Int32), S)
    else
      lt ((((6 : Int32) * i1) + (2 : Int32))) fun x3 =>
      bnd x3 186 <|
      if i2 ≤ (S 0 x3.toNatClampNeg) then
        bnd x3 186 <|
        bnd x3 186 <|
        lt (va_up S 0 (upd (S 0) x3.toNatClampNeg ((S 0 x3.toNatClampNeg) - i2))) fun S4 =>
        bnd x3 186 <|
        some ((S4 0 x3.toNatClampNeg), S4)
      else
        some ((-2 : Int32), S)

set_option maxHeartbeats 4000000 in
set_option maxRecDepth 100000 in
theorem tX5_patch (l : Launch) {V : JV M2} {b : Nat} {a : Nat → Nat} (hv : vX5 V b a) (S : M2) (i1 : Int32) (i2 : Int32) : JC l V yX5_patch cX5_patch 4 (some .int) jj_i 2 [.ref b, .int i1, .int i2] S ((fX5_patch i1 i2 S).map (fun q => (q.1, q.2))) := by
  refine jj_of (by decide) (Nat.le_of_ble_eq_true rfl) (fun E hlE hE => ?_)
  unfold fX5_patch
  refine J_sub (L' := [(0, .ref b), (1, .int i1), (2, .int i2)]) [0, 1, 2] rfl ?_
  refine J_aload_n hE dd_X5_patch_0 0 rfl rfl ?_
  refine J_iload_n hE dd_X5_patch_1 1 rfl rfl ?_
  refine J_invVri hE (As := [.int i1]) (st := []) (tX5_isBolt E.2.1 hv S i1) (hv.ob _) m_X5_isBolt rfl ml_RX5_205 (Nat.le_of_ble_eq_true rfl) (Nat.le_of_ble_eq_true rfl) rfl (Nat.le_of_ble_eq_true rfl) dd_X5_patch_2 (fun r1 => ?_)
  refine J_if_eq hE (tgt := 20) dd_X5_patch_5 (by decide) (fun c7 => ?_) (fun c7 => ?_)
  · refine J_iconst hE (v := (-1 : Int32)) dd_X5_patch_20 (by decide) ?_
    exact J_iret hE dd_X5_patch_21 rfl rfl
  · refine J_iload_n hE dd_X5_patch_8 2 rfl rfl ?_
    refine J_i2l hE dd_X5_patch_9 ?_
    refine J_lconst hE (v := (0 : Int64)) dd_X5_patch_10 (by decide) ?_
    refine J_ldc2 hE (v := (9 : Int64)) dd_X5_patch_11 cl_RX5_232 ?_
    refine J_invSri hE (As := [.long (i2.toInt64), .long (0 : Int64), .long (9 : Int64)]) (st := []) (tX5_in E.2.1 V S (i2.toInt64) (0 : Int64) (9 : Int64)) m_X5_in s_X5_in rfl ml_RX5_71 (Nat.le_of_ble_eq_true rfl) (Nat.le_of_ble_eq_true rfl) rfl (Nat.le_of_ble_eq_true rfl) dd_X5_patch_14 (fun r2 => ?_)
    refine J_if_ne hE (tgt := 22) dd_X5_patch_17 (by decide) (fun c6 => ?_) (fun c6 => ?_)
    · refine J_bipush hE (v := (6 : Int32)) dd_X5_patch_22 (by decide) ?_
      refine J_iload_n hE dd_X5_patch_24 1 rfl rfl ?_
      refine J_imul hE dd_X5_patch_25 ?_
      refine J_iconst hE (v := (2 : Int32)) dd_X5_patch_26 (by decide) ?_
      refine J_iadd hE dd_X5_patch_27 ?_
      refine J_leti (fun x3 => ?_)
      refine J_istore_n hE (L' := [(3, .int x3), (0, .ref b), (1, .int i1), (2, .int i2)]) dd_X5_patch_28 (Nat.le_of_ble_eq_true rfl) rfl rfl ?_
      refine J_aload_n hE dd_X5_patch_29 1 rfl rfl ?_
      refine J_get hE (hv.ob _) jc_X5 0 (by decide) fl_RX5_7 (v := .ref (a 0)) rfl dd_X5_patch_30 ?_
      refine J_iload_n hE dd_X5_patch_33 0 rfl rfl ?_
      refine J_ald hE (hv.arr 0 (n := 186) (ty := .int) (by decide) _) dd_X5_patch_34 ?_
      refine J_iload_n hE dd_X5_patch_35 3 rfl rfl ?_
      refine J_icmp_ge hE (tgt := 42) dd_X5_patch_36 (by decide) (fun c5 => ?_) (fun c5 => ?_)
      · refine J_aload_n hE dd_X5_patch_42 1 rfl rfl ?_
        refine J_get hE (hv.ob _) jc_X5 0 (by decide) fl_RX5_7 (v := .ref (a 0)) rfl dd_X5_patch_43 ?_
        refine J_iload_n hE dd_X5_patch_46 0 rfl rfl ?_
        refine J_dup2 hE dd_X5_patch_47 rfl rfl ?_
        refine J_ald hE (hv.arr 0 (n := 186) (ty := .int) (by decide) _) dd_X5_patch_48 ?_
        refine J_iload_n hE dd_X5_patch_49 3 rfl rfl ?_
        refine J_isub hE dd_X5_patch_50 ?_
        refine J_ast hE hv 0 (N := 186) (by decide) dd_X5_patch_51 ?_
        refine J_letS (fun S4 => ?_)
        refine J_aload_n hE dd_X5_patch_52 1 rfl rfl ?_
        refine J_get hE (hv.ob _) jc_X5 0 (by decide) fl_RX5_7 (v := .ref (a 0)) rfl dd_X5_patch_53 ?_
        refine J_iload_n hE dd_X5_patch_56 0 rfl rfl ?_
        refine J_ald hE (hv.arr 0 (n := 186) (ty := .int) (by decide) _) dd_X5_patch_57 ?_
        exact J_iret hE dd_X5_patch_58 rfl rfl
      · refine J_bipush hE (v := (-2 : Int32)) dd_X5_patch_39 (by decide) ?_
        exact J_iret hE dd_X5_patch_41 rfl rfl
    · refine J_iconst hE (v := (-1 : Int32)) dd_X5_patch_20 (by decide) ?_
      exact J_iret hE dd_X5_patch_21 rfl rfl
theorem dd_X5_prick_0 : jd cX5_prick 0 (.aload_n 0) 1 1 := ⟨by decide +kernel, rfl⟩
theorem dd_X5_prick_1 : jd cX5_prick 1 (.iload_n 1) 1 2 := ⟨by decide +kernel, rfl⟩
theorem dd_X5_prick_2 : jd cX5_prick 2 (.invokevirtual 205) 3 5 := ⟨by decide +kernel, rfl⟩
theorem dd_X5_prick_10 : jd cX5_prick 10 (.bipush 6) 2 12 := ⟨by decide +kernel, rfl⟩
theorem dd_X5_prick_12 : jd cX5_prick 12 (.iload_n 1) 1 13 := ⟨by decide +kernel, rfl⟩
theorem dd_X5_prick_13 : jd cX5_prick 13 (.imul) 1 14 := ⟨by decide +kernel, rfl⟩
theorem dd_X5_prick_14 : jd cX5_prick 14 (.iconst 2) 1 15 := ⟨by decide +kernel, rfl⟩
theorem dd_X5_prick_15 : jd cX5_prick 15 (.iadd) 1 16 := ⟨by decide +kernel, rfl⟩
theorem dd_X5_prick_16 : jd cX5_prick 16 (.istore_n 2) 1 17 := ⟨by decide +kernel, rfl⟩
theorem dd_X5_prick_17 : jd cX5_prick 17 (.aload_n 0) 1 18 := ⟨by decide +kernel, rfl⟩
theorem dd_X5_prick_18 : jd cX5_prick 18 (.getfield 7) 3 21 := ⟨by decide +kernel, rfl⟩
theorem dd_X5_prick_21 : jd cX5_prick 21 (.iload_n 2) 1 22 := ⟨by decide +kernel, rfl⟩
theorem dd_X5_prick_22 : jd cX5_prick 22 (.iaload) 1 23 := ⟨by decide +kernel, rfl⟩
theorem dd_X5_prick_23 : jd cX5_prick 23 (.aload_n 0) 1 24 := ⟨by decide +kernel, rfl⟩
theorem dd_X5_prick_24 : jd cX5_prick 24 (.getfield 7) 3 27 := ⟨by decide +kernel, rfl⟩
theorem dd_X5_prick_27 : jd cX5_prick 27 (.bipush 6) 2 29 := ⟨by decide +kernel, rfl⟩
theorem dd_X5_prick_29 : jd cX5_prick 29 (.iload_n 1) 1 30 := ⟨by decide +kernel, rfl⟩
theorem dd_X5_prick_30 : jd cX5_prick 30 (.imul) 1 31 := ⟨by decide +kernel, rfl⟩
theorem dd_X5_prick_31 : jd cX5_prick 31 (.iconst 1) 1 32 := ⟨by decide +kernel, rfl⟩
theorem dd_X5_prick_32 : jd cX5_prick 32 (.iadd) 1 33 := ⟨by decide +kernel, rfl⟩
theorem dd_X5_prick_33 : jd cX5_prick 33 (.iaload) 1 34 := ⟨by decide +kernel, rfl⟩
theorem dd_X5_prick_40 : jd cX5_prick 40 (.aload_n 0) 1 41 := ⟨by decide +kernel, rfl⟩
theorem dd_X5_prick_41 : jd cX5_prick 41 (.getfield 7) 3 44 := ⟨by decide +kernel, rfl⟩
theorem dd_X5_prick_44 : jd cX5_prick 44 (.iload_n 2) 1 45 := ⟨by decide +kernel, rfl⟩
theorem dd_X5_prick_45 : jd cX5_prick 45 (.dup2) 1 46 := ⟨by decide +kernel, rfl⟩
theorem dd_X5_prick_46 : jd cX5_prick 46 (.iaload) 1 47 := ⟨by decide +kernel, rfl⟩
theorem dd_X5_prick_47 : jd cX5_prick 47 (.iconst 1) 1 48 := ⟨by decide +kernel, rfl⟩
theorem dd_X5_prick_48 : jd cX5_prick 48 (.iadd) 1 49 := ⟨by decide +kernel, rfl⟩
theorem dd_X5_prick_49 : jd cX5_prick 49 (.iastore) 1 50 := ⟨by decide +kernel, rfl⟩
theorem dd_X5_prick_50 : jd cX5_prick 50 (.aload_n 0) 1 51 := ⟨by decide +kernel, rfl⟩
theorem dd_X5_prick_51 : jd cX5_prick 51 (.getfield 7) 3 54 := ⟨by decide +kernel, rfl⟩
theorem dd_X5_prick_54 : jd cX5_prick 54 (.iload_n 2) 1 55 := ⟨by decide +kernel, rfl⟩
theorem dd_X5_prick_55 : jd cX5_prick 55 (.iaload) 1 56 := ⟨by decide +kernel, rfl⟩
theorem dd_X5_prick_56 : jd cX5_prick 56 (.ireturn) 1 57 := ⟨by decide +kernel, rfl⟩
theorem dd_X5_prick_37 : jd cX5_prick 37 (.bipush (-3)) 2 39 := ⟨by decide +kernel, rfl⟩
theorem dd_X5_prick_39 : jd cX5_prick 39 (.ireturn) 1 40 := ⟨by decide +kernel, rfl⟩
theorem dd_X5_prick_34 : jd cX5_prick 34 (.if_icmp .ne 6) 3 37 := ⟨by decide +kernel, rfl⟩
theorem dd_X5_prick_8 : jd cX5_prick 8 (.iconst (-1)) 1 9 := ⟨by decide +kernel, rfl⟩
theorem dd_X5_prick_9 : jd cX5_prick 9 (.ireturn) 1 10 := ⟨by decide +kernel, rfl⟩
theorem dd_X5_prick_5 : jd cX5_prick 5 (.ifCond .ne 5) 3 8 := ⟨by decide +kernel, rfl⟩
theorem m_X5_prick : jmV yX5_prick cX5_prick 3 (some .int) 1 := ⟨⟨(jj_m (w := Cond.code yX5_prick cX5_prick 3 (some .int)) (List.mem_of_getElem? (i := 1076) (by decide +kernel)) rfl), (jj_m (w := Cond.initialized yX5_prick.cls) (List.mem_of_getElem? (i := 69) (by decide +kernel)) rfl), ⟨by decide, by decide⟩, by decide +kernel⟩, (jj_m (w := Cond.instanceMethod yX5_prick) (List.mem_of_getElem? (i := 1074) (by decide +kernel)) rfl), (jj_m (w := Cond.selects yX5_prick.cls yX5_prick yX5_prick) (List.mem_of_getElem? (i := 1075) (by decide +kernel)) rfl)⟩
def fX5_prick (i1 : Int32) (S : M2) : Option (Int32 × M2) :=
  (fX5_isBolt i1 S).bind fun r1 =>
  if r1 = 0 then
    some ((-1 : Int32), S)
  else
    lt ((((6 : Int32) * i1) + (2 : Int32))) fun x2 =>
    bnd x2 186 <|
    bnd (((6 : Int32) * i1) + (1 : Int32)) 186 <|
    if (S 0 x2.toNatClampNeg) = (S 0 (((6 : Int32) * i1) + (1 : Int32)).toNatClampNeg) then
      some ((-3 : Int32), S)
    else
      bnd x2 186 <|
      bnd x2 186 <|
      lt (va_up S 0 (upd (S 0) x2.toNatClampNeg ((S 0 x2.toNatClampNeg) + (1 : Int32)))) fun S3 =>
      bnd x2 186 <|
      some ((S3 0 x2.toNatClampNeg), S3)

set_option maxHeartbeats 4000000 in
set_option maxRecDepth 100000 in
theorem tX5_prick (l : Launch) {V : JV M2} {b : Nat} {a : Nat → Nat} (hv : vX5 V b a) (S : M2) (i1 : Int32) : JC l V yX5_prick cX5_prick 3 (some .int) jj_i 2 [.ref b, .int i1] S ((fX5_prick i1 S).map (fun q => (q.1, q.2))) := by
  refine jj_of (by decide) (Nat.le_of_ble_eq_true rfl) (fun E hlE hE => ?_)
  unfold fX5_prick
  refine J_sub (L' := [(0, .ref b), (1, .int i1)]) [0, 1] rfl ?_
  refine J_aload_n hE dd_X5_prick_0 0 rfl rfl ?_
  refine J_iload_n hE dd_X5_prick_1 1 rfl rfl ?_
  refine J_invVri hE (As := [.int i1]) (st := []) (tX5_isBolt E.2.1 hv S i1) (hv.ob _) m_X5_isBolt rfl ml_RX5_205 (Nat.le_of_ble_eq_true rfl) (Nat.le_of_ble_eq_true rfl) rfl (Nat.le_of_ble_eq_true rfl) dd_X5_prick_2 (fun r1 => ?_)
  refine J_if_ne hE (tgt := 10) dd_X5_prick_5 (by decide) (fun c5 => ?_) (fun c5 => ?_)
  · refine J_bipush hE (v := (6 : Int32)) dd_X5_prick_10 (by decide) ?_
    refine J_iload_n hE dd_X5_prick_12 1 rfl rfl ?_
    refine J_imul hE dd_X5_prick_13 ?_
    refine J_iconst hE (v := (2 : Int32)) dd_X5_prick_14 (by decide) ?_
    refine J_iadd hE dd_X5_prick_15 ?_
    refine J_leti (fun x2 => ?_)
    refine J_istore_n hE (L' := [(2, .int x2), (0, .ref b), (1, .int i1)]) dd_X5_prick_16 (Nat.le_of_ble_eq_true rfl) rfl rfl ?_
    refine J_aload_n hE dd_X5_prick_17 1 rfl rfl ?_
    refine J_get hE (hv.ob _) jc_X5 0 (by decide) fl_RX5_7 (v := .ref (a 0)) rfl dd_X5_prick_18 ?_
    refine J_iload_n hE dd_X5_prick_21 0 rfl rfl ?_
    refine J_ald hE (hv.arr 0 (n := 186) (ty := .int) (by decide) _) dd_X5_prick_22 ?_
    refine J_aload_n hE dd_X5_prick_23 1 rfl rfl ?_
    refine J_get hE (hv.ob _) jc_X5 0 (by decide) fl_RX5_7 (v := .ref (a 0)) rfl dd_X5_prick_24 ?_
    refine J_bipush hE (v := (6 : Int32)) dd_X5_prick_27 (by decide) ?_
    refine J_iload_n hE dd_X5_prick_29 2 rfl rfl ?_
    refine J_imul hE dd_X5_prick_30 ?_
    refine J_iconst hE (v := (1 : Int32)) dd_X5_prick_31 (by decide) ?_
    refine J_iadd hE dd_X5_prick_32 ?_
    refine J_ald hE (hv.arr 0 (n := 186) (ty := .int) (by decide) _) dd_X5_prick_33 ?_
    refine J_icmp_ne hE (tgt := 40) dd_X5_prick_34 (by decide) (fun c4 => ?_) (fun c4 => ?_)
    · refine J_aload_n hE dd_X5_prick_40 1 rfl rfl ?_
      refine J_get hE (hv.ob _) jc_X5 0 (by decide) fl_RX5_7 (v := .ref (a 0)) rfl dd_X5_prick_41 ?_
      refine J_iload_n hE dd_X5_prick_44 0 rfl rfl ?_
      refine J_dup2 hE dd_X5_prick_45 rfl rfl ?_
      refine J_ald hE (hv.arr 0 (n := 186) (ty := .int) (by decide) _) dd_X5_prick_46 ?_
      refine J_iconst hE (v := (1 : Int32)) dd_X5_prick_47 (by decide) ?_
      refine J_iadd hE dd_X5_prick_48 ?_
      refine J_ast hE hv 0 (N := 186) (by decide) dd_X5_prick_49 ?_
      refine J_letS (fun S3 => ?_)
      refine J_aload_n hE dd_X5_prick_50 1 rfl rfl ?_
      refine J_get hE (hv.ob _) jc_X5 0 (by decide) fl_RX5_7 (v := .ref (a 0)) rfl dd_X5_prick_51 ?_
      refine J_iload_n hE dd_X5_prick_54 0 rfl rfl ?_
      refine J_ald hE (hv.arr 0 (n := 186) (ty := .int) (by decide) _) dd_X5_prick_55 ?_
      exact J_iret hE dd_X5_prick_56 rfl rfl
    · refine J_bipush hE (v := (-3 : Int32)) dd_X5_prick_37 (by decide) ?_
      exact J_iret hE dd_X5_prick_39 rfl rfl
  · refine J_iconst hE (v := (-1 : Int32)) dd_X5_prick_8 (by decide) ?_
    exact J_iret hE dd_X5_prick_9 rfl rfl
theorem dd_X5_alter_0 : jd cX5_alter 0 (.aload_n 0) 1 1 := ⟨by decide +kernel, rfl⟩
theorem dd_X5_alter_1 : jd cX5_alter 1 (.iload_n 1) 1 2 := ⟨by decide +kernel, rfl⟩
theorem dd_X5_alter_2 : jd cX5_alter 2 (.invokevirtual 210) 3 5 := ⟨by decide +kernel, rfl⟩
theorem dd_X5_alter_50 : jd cX5_alter 50 (.iconst (-1)) 1 51 := ⟨by decide +kernel, rfl⟩
theorem dd_X5_alter_51 : jd cX5_alter 51 (.ireturn) 1 52 := ⟨by decide +kernel, rfl⟩
theorem dd_X5_alter_8 : jd cX5_alter 8 (.iload_n 2) 1 9 := ⟨by decide +kernel, rfl⟩
theorem dd_X5_alter_9 : jd cX5_alter 9 (.i2l) 1 10 := ⟨by decide +kernel, rfl⟩
theorem dd_X5_alter_10 : jd cX5_alter 10 (.lconst 0) 1 11 := ⟨by decide +kernel, rfl⟩
theorem dd_X5_alter_11 : jd cX5_alter 11 (.ldc2_w 234) 3 14 := ⟨by decide +kernel, rfl⟩
theorem dd_X5_alter_14 : jd cX5_alter 14 (.invokestatic 71) 3 17 := ⟨by decide +kernel, rfl⟩
theorem dd_X5_alter_20 : jd cX5_alter 20 (.iload_n 3) 1 21 := ⟨by decide +kernel, rfl⟩
theorem dd_X5_alter_21 : jd cX5_alter 21 (.i2l) 1 22 := ⟨by decide +kernel, rfl⟩
theorem dd_X5_alter_22 : jd cX5_alter 22 (.lconst 0) 1 23 := ⟨by decide +kernel, rfl⟩
theorem dd_X5_alter_23 : jd cX5_alter 23 (.iload_n 2) 1 24 := ⟨by decide +kernel, rfl⟩
theorem ml_RX5_236 : (Cond.methodLink "MothCustomsModel" 236 yX5_mostOf : Cond) ∈ jj_tb := jj_m (List.mem_of_getElem? (i := 1082) (by decide +kernel)) rfl
theorem dd_X5_alter_24 : jd cX5_alter 24 (.invokestatic 236) 3 27 := ⟨by decide +kernel, rfl⟩
theorem dd_X5_alter_27 : jd cX5_alter 27 (.i2l) 1 28 := ⟨by decide +kernel, rfl⟩
theorem dd_X5_alter_28 : jd cX5_alter 28 (.invokestatic 71) 3 31 := ⟨by decide +kernel, rfl⟩
theorem dd_X5_alter_34 : jd cX5_alter 34 (.aload_n 0) 1 35 := ⟨by decide +kernel, rfl⟩
theorem dd_X5_alter_35 : jd cX5_alter 35 (.bipush 30) 2 37 := ⟨by decide +kernel, rfl⟩
theorem dd_X5_alter_37 : jd cX5_alter 37 (.iconst 4) 1 38 := ⟨by decide +kernel, rfl⟩
theorem dd_X5_alter_38 : jd cX5_alter 38 (.iload_n 1) 1 39 := ⟨by decide +kernel, rfl⟩
theorem dd_X5_alter_39 : jd cX5_alter 39 (.imul) 1 40 := ⟨by decide +kernel, rfl⟩
theorem dd_X5_alter_40 : jd cX5_alter 40 (.iadd) 1 41 := ⟨by decide +kernel, rfl⟩
theorem dd_X5_alter_41 : jd cX5_alter 41 (.iload_n 2) 1 42 := ⟨by decide +kernel, rfl⟩
theorem dd_X5_alter_42 : jd cX5_alter 42 (.iadd) 1 43 := ⟨by decide +kernel, rfl⟩
theorem dd_X5_alter_43 : jd cX5_alter 43 (.iload_n 3) 1 44 := ⟨by decide +kernel, rfl⟩
theorem dd_X5_alter_44 : jd cX5_alter 44 (.invokevirtual 229) 3 47 := ⟨by decide +kernel, rfl⟩
theorem dd_X5_alter_47 : jd cX5_alter 47 (.goto 4) 3 50 := ⟨by decide +kernel, rfl⟩
theorem dd_X5_alter_31 : jd cX5_alter 31 (.ifCond .eq 19) 3 34 := ⟨by decide +kernel, rfl⟩
theorem dd_X5_alter_17 : jd cX5_alter 17 (.ifCond .eq 33) 3 20 := ⟨by decide +kernel, rfl⟩
theorem dd_X5_alter_5 : jd cX5_alter 5 (.ifCond .eq 45) 3 8 := ⟨by decide +kernel, rfl⟩
theorem m_X5_alter : jmV yX5_alter cX5_alter 4 (some .int) 3 := ⟨⟨(jj_m (w := Cond.code yX5_alter cX5_alter 4 (some .int)) (List.mem_of_getElem? (i := 1080) (by decide +kernel)) rfl), (jj_m (w := Cond.initialized yX5_alter.cls) (List.mem_of_getElem? (i := 69) (by decide +kernel)) rfl), ⟨by decide, by decide⟩, by decide +kernel⟩, (jj_m (w := Cond.instanceMethod yX5_alter) (List.mem_of_getElem? (i := 1078) (by decide +kernel)) rfl), (jj_m (w := Cond.selects yX5_alter.cls yX5_alter yX5_alter) (List.mem_of_getElem? (i := 1079) (by decide +kernel)) rfl)⟩
def fX5_alter (i1 : Int32) (i2 : Int32) (i3 : Int32) (S : M2) : Option (Int32 × M2) :=
  (fX5_isMoth i1 S).bind fun r1 =>
  if r1 = 0 then
    some ((-1 : Int32), S)
  else
    (fX5_in (i2.toInt64) (0 : Int64) (3 : Int64)).bind fun r2 =>
    if r2 = 0 then
      some ((-1 : Int32), S)
    else
      (fX5_mostOf i2).bind fun r3 =>
      (fX5_in (i3.toInt64) (0 : Int64) (r3.toInt64)).bind fun r4 =>
      if r4 = 0 then
        some ((-1 : Int32), S)
      else
        (fX5_becomes (((30 : Int32) + ((4 : Int32) * i1)) + i2) i3 S).bind fun q5 =>
        lt (q5.2) fun S6 =>
        some (q5.1, S6)

set_option maxHeartbeats 4000000 in
set_option maxRecDepth 100000 in
theorem tX5_alter (l : Launch) {V : JV M2} {b : Nat} {a : Nat → Nat} (hv : vX5 V b a) (S : M2) (i1 : Int32) (i2 : Int32) (i3 : Int32) : JC l V yX5_alter cX5_alter 4 (some .int) jj_i 2 [.ref b, .int i1, .int i2, .int i3] S ((fX5_alter i1 i2 i3 S).map (fun q => (q.1, q.2))) := by
  refine jj_of (by decide) (Nat.le_of_ble_eq_true rfl) (fun E hlE hE => ?_)
  unfold fX5_alter
  refine J_sub (L' := [(0, .ref b), (1, .int i1), (2, .int i2), (3, .int i3)]) [0, 1, 2, 3] rfl ?_
  refine J_aload_n hE dd_X5_alter_0 0 rfl rfl ?_
  refine J_iload_n hE dd_X5_alter_1 1 rfl rfl ?_
  refine J_invVri hE (As := [.int i1]) (st := []) (tX5_isMoth E.2.1 hv S i1) (hv.ob _) m_X5_isMoth rfl ml_RX5_210 (Nat.le_of_ble_eq_true rfl) (Nat.le_of_ble_eq_true rfl) rfl (Nat.le_of_ble_eq_true rfl) dd_X5_alter_2 (fun r1 => ?_)
  refine J_if_eq hE (tgt := 50) dd_X5_alter_5 (by decide) (fun c9 => ?_) (fun c9 => ?_)
  · refine J_iconst hE (v := (-1 : Int32)) dd_X5_alter_50 (by decide) ?_
    exact J_iret hE dd_X5_alter_51 rfl rfl
  · refine J_iload_n hE dd_X5_alter_8 2 rfl rfl ?_
    refine J_i2l hE dd_X5_alter_9 ?_
    refine J_lconst hE (v := (0 : Int64)) dd_X5_alter_10 (by decide) ?_
    refine J_ldc2 hE (v := (3 : Int64)) dd_X5_alter_11 cl_RX5_234 ?_
    refine J_invSri hE (As := [.long (i2.toInt64), .long (0 : Int64), .long (3 : Int64)]) (st := []) (tX5_in E.2.1 V S (i2.toInt64) (0 : Int64) (3 : Int64)) m_X5_in s_X5_in rfl ml_RX5_71 (Nat.le_of_ble_eq_true rfl) (Nat.le_of_ble_eq_true rfl) rfl (Nat.le_of_ble_eq_true rfl) dd_X5_alter_14 (fun r2 => ?_)
    refine J_if_eq hE (tgt := 50) dd_X5_alter_17 (by decide) (fun c8 => ?_) (fun c8 => ?_)
    · refine J_iconst hE (v := (-1 : Int32)) dd_X5_alter_50 (by decide) ?_
      exact J_iret hE dd_X5_alter_51 rfl rfl
    · refine J_iload_n hE dd_X5_alter_20 3 rfl rfl ?_
      refine J_i2l hE dd_X5_alter_21 ?_
      refine J_lconst hE (v := (0 : Int64)) dd_X5_alter_22 (by decide) ?_
      refine J_iload_n hE dd_X5_alter_23 2 rfl rfl ?_
      refine J_invSri hE (As := [.int i2]) (st := [.long (0 : Int64), .long (i3.toInt64)]) (tX5_mostOf E.2.1 V S i2) m_X5_mostOf s_X5_mostOf rfl ml_RX5_236 (Nat.le_of_ble_eq_true rfl) (Nat.le_of_ble_eq_true rfl) rfl (Nat.le_of_ble_eq_true rfl) dd_X5_alter_24 (fun r3 => ?_)
      refine J_i2l hE dd_X5_alter_27 ?_
      refine J_invSri hE (As := [.long (i3.toInt64), .long (0 : Int64), .long (r3.toInt64)]) (st := []) (tX5_in E.2.1 V S (i3.toInt64) (0 : Int64) (r3.toInt64)) m_X5_in s_X5_in rfl ml_RX5_71 (Nat.le_of_ble_eq_true rfl) (Nat.le_of_ble_eq_true rfl) rfl (Nat.le_of_ble_eq_true rfl) dd_X5_alter_28 (fun r4 => ?_)
      refine J_if_eq hE (tgt := 50) dd_X5_alter_31 (by decide) (fun c7 => ?_) (fun c7 => ?_)
      · refine J_iconst hE (v := (-1 : Int32)) dd_X5_alter_50 (by decide) ?_
        exact J_iret hE dd_X5_alter_51 rfl rfl
      · refine J_aload_n hE dd_X5_alter_34 0 rfl rfl ?_
        refine J_bipush hE (v := (30 : Int32)) dd_X5_alter_35 (by decide) ?_
        refine J_iconst hE (v := (4 : Int32)) dd_X5_alter_37 (by decide) ?_
        refine J_iload_n hE dd_X5_alter_38 1 rfl rfl ?_
        refine J_imul hE dd_X5_alter_39 ?_
        refine J_iadd hE dd_X5_alter_40 ?_
        refine J_iload_n hE dd_X5_alter_41 2 rfl rfl ?_
        refine J_iadd hE dd_X5_alter_42 ?_
        refine J_iload_n hE dd_X5_alter_43 3 rfl rfl ?_
        refine J_invVwi hE (e := fun x => x) (As := [.int (((30 : Int32) + ((4 : Int32) * i1)) + i2), .int i3]) (st := []) (tX5_becomes E.2.1 hv S (((30 : Int32) + ((4 : Int32) * i1)) + i2) i3) (hv.ob _) m_X5_becomes rfl ml_RX5_229 (Nat.le_of_ble_eq_true rfl) (Nat.le_of_ble_eq_true rfl) rfl (Nat.le_of_ble_eq_true rfl) dd_X5_alter_44 (fun q5 => ?_)
        refine J_letS (fun S6 => ?_)
        refine J_goto hE (tgt := 51) dd_X5_alter_47 (by decide) ?_
        exact J_iret hE dd_X5_alter_51 rfl rfl
theorem dd_X5_set_0 : jd cX5_set 0 (.iload_n 1) 1 1 := ⟨by decide +kernel, rfl⟩
theorem ml_RX5_239 : (Cond.methodLink "MothCustomsModel" 239 yX5_isPart : Cond) ∈ jj_tb := jj_m (List.mem_of_getElem? (i := 1089) (by decide +kernel)) rfl
theorem dd_X5_set_1 : jd cX5_set 1 (.invokestatic 239) 3 4 := ⟨by decide +kernel, rfl⟩
theorem dd_X5_set_56 : jd cX5_set 56 (.iconst (-1)) 1 57 := ⟨by decide +kernel, rfl⟩
theorem dd_X5_set_57 : jd cX5_set 57 (.ireturn) 1 58 := ⟨by decide +kernel, rfl⟩
theorem dd_X5_set_7 : jd cX5_set 7 (.iload_n 2) 1 8 := ⟨by decide +kernel, rfl⟩
theorem dd_X5_set_8 : jd cX5_set 8 (.i2l) 1 9 := ⟨by decide +kernel, rfl⟩
theorem dd_X5_set_9 : jd cX5_set 9 (.iload_n 1) 1 10 := ⟨by decide +kernel, rfl⟩
theorem dd_X5_set_17 : jd cX5_set 17 (.lconst 1) 1 18 := ⟨by decide +kernel, rfl⟩
theorem dd_X5_set_13 : jd cX5_set 13 (.lconst 0) 1 14 := ⟨by decide +kernel, rfl⟩
theorem dd_X5_set_14 : jd cX5_set 14 (.goto 4) 3 17 := ⟨by decide +kernel, rfl⟩
theorem dd_X5_set_10 : jd cX5_set 10 (.ifCond .ne 7) 3 13 := ⟨by decide +kernel, rfl⟩
theorem dd_X5_set_18 : jd cX5_set 18 (.iload_n 1) 1 19 := ⟨by decide +kernel, rfl⟩
theorem dd_X5_set_28 : jd cX5_set 28 (.ldc2_w 232) 3 31 := ⟨by decide +kernel, rfl⟩
theorem dd_X5_set_22 : jd cX5_set 22 (.ldc2_w 234) 3 25 := ⟨by decide +kernel, rfl⟩
theorem dd_X5_set_25 : jd cX5_set 25 (.goto 6) 3 28 := ⟨by decide +kernel, rfl⟩
theorem dd_X5_set_19 : jd cX5_set 19 (.ifCond .ne 9) 3 22 := ⟨by decide +kernel, rfl⟩
theorem dd_X5_set_31 : jd cX5_set 31 (.invokestatic 71) 3 34 := ⟨by decide +kernel, rfl⟩
theorem dd_X5_set_37 : jd cX5_set 37 (.aload_n 0) 1 38 := ⟨by decide +kernel, rfl⟩
theorem dd_X5_set_38 : jd cX5_set 38 (.iload_n 1) 1 39 := ⟨by decide +kernel, rfl⟩
theorem dd_X5_set_47 : jd cX5_set 47 (.bipush 47) 2 49 := ⟨by decide +kernel, rfl⟩
theorem dd_X5_set_49 : jd cX5_set 49 (.iload_n 2) 1 50 := ⟨by decide +kernel, rfl⟩
theorem dd_X5_set_50 : jd cX5_set 50 (.invokevirtual 229) 3 53 := ⟨by decide +kernel, rfl⟩
theorem dd_X5_set_53 : jd cX5_set 53 (.goto 4) 3 56 := ⟨by decide +kernel, rfl⟩
theorem dd_X5_set_42 : jd cX5_set 42 (.bipush 46) 2 44 := ⟨by decide +kernel, rfl⟩
theorem dd_X5_set_44 : jd cX5_set 44 (.goto 5) 3 47 := ⟨by decide +kernel, rfl⟩
theorem dd_X5_set_39 : jd cX5_set 39 (.ifCond .ne 8) 3 42 := ⟨by decide +kernel, rfl⟩
theorem dd_X5_set_34 : jd cX5_set 34 (.ifCond .eq 22) 3 37 := ⟨by decide +kernel, rfl⟩
theorem dd_X5_set_4 : jd cX5_set 4 (.ifCond .eq 52) 3 7 := ⟨by decide +kernel, rfl⟩
theorem m_X5_set : jmV yX5_set cX5_set 3 (some .int) 2 := ⟨⟨(jj_m (w := Cond.code yX5_set cX5_set 3 (some .int)) (List.mem_of_getElem? (i := 1088) (by decide +kernel)) rfl), (jj_m (w := Cond.initialized yX5_set.cls) (List.mem_of_getElem? (i := 69) (by decide +kernel)) rfl), ⟨by decide, by decide⟩, by decide +kernel⟩, (jj_m (w := Cond.instanceMethod yX5_set) (List.mem_of_getElem? (i := 1086) (by decide +kernel)) rfl), (jj_m (w := Cond.selects yX5_set.cls yX5_set yX5_set) (List.mem_of_getElem? (i := 1087) (by decide +kernel)) rfl)⟩
def fX5_set (i1 : Int32) (i2 : Int32) (S : M2) : Option (Int32 × M2) :=
  (fX5_isPart i1).bind fun r1 =>
  if r1 = 0 then
    some ((-1 : Int32), S)
  else
    jn (α := Option (Int32 × M2)) (β := Int64) (fun j2 =>
      if i1 = 0 then
        j2 (0 : Int64)
      else
        j2 (1 : Int64)) (fun p4 => 
      jn (α := Option (Int32 × M2)) (β := Int64) (fun j5 =>
        if i1 = 0 then
          j5 (3 : Int64)
        else
          j5 (9 : Int64)) (fun p7 => 
        (fX5_in (i2.toInt64) p4 p7).bind fun r8 =>
        if r8 = 0 then
          some ((-1 : Int32), S)
        else
          if i1 = 0 then
            (fX5_becomes (46 : Int32) i2 S).bind fun q11 =>
            lt (q11.2) fun S12 =>
            some (q11.1, S12)
          else
            (fX5_becomes (47 : Int32) i2 S).bind fun q9 =>
            lt (q9.2) fun S10 =>
            some (q9.1, S10)))

set_option maxHeartbeats 4000000 in
set_option maxRecDepth 100000 in
theorem tX5_set (l : Launch) {V : JV M2} {b : Nat} {a : Nat → Nat} (hv : vX5 V b a) (S : M2) (i1 : Int32) (i2 : Int32) : JC l V yX5_set cX5_set 3 (some .int) jj_i 2 [.ref b, .int i1, .int i2] S ((fX5_set i1 i2 S).map (fun q => (q.1, q.2))) := by
  refine jj_of (by decide) (Nat.le_of_ble_eq_true rfl) (fun E hlE hE => ?_)
  unfold fX5_set
  refine J_sub (L' := [(0, .ref b), (1, .int i1), (2, .int i2)]) [0, 1, 2] rfl ?_
  refine J_iload_n hE dd_X5_set_0 1 rfl rfl ?_
  refine J_invSri hE (As := [.int i1]) (st := []) (tX5_isPart E.2.1 V S i1) m_X5_isPart s_X5_isPart rfl ml_RX5_239 (Nat.le_of_ble_eq_true rfl) (Nat.le_of_ble_eq_true rfl) rfl (Nat.le_of_ble_eq_true rfl) dd_X5_set_1 (fun r1 => ?_)
  refine J_if_eq hE (tgt := 56) dd_X5_set_4 (by decide) (fun c15 => ?_) (fun c15 => ?_)
  · refine J_iconst hE (v := (-1 : Int32)) dd_X5_set_56 (by decide) ?_
    exact J_iret hE dd_X5_set_57 rfl rfl
  · refine J_iload_n hE dd_X5_set_7 2 rfl rfl ?_
    refine J_i2l hE dd_X5_set_8 ?_
    refine J_iload_n hE dd_X5_set_9 1 rfl rfl ?_
    refine J_jn (m := 18) (Lf := fun p4 => [(0, .ref b), (1, .int i1), (2, .int i2)]) (sf := fun p4 => [.long p4, .long (i2.toInt64)]) (Xf := fun p4 => S) (fun p4 => ?_) (fun hj2 => ?_)
    · show J V E _ _ 18 [(0, .ref b), (1, .int i1), (2, .int i2)] [.long p4, .long (i2.toInt64)] S
      refine J_iload_n hE dd_X5_set_18 1 rfl rfl ?_
      refine J_jn (m := 31) (Lf := fun p7 => [(0, .ref b), (1, .int i1), (2, .int i2)]) (sf := fun p7 => [.long p7, .long p4, .long (i2.toInt64)]) (Xf := fun p7 => S) (fun p7 => ?_) (fun hj5 => ?_)
      · show J V E _ _ 31 [(0, .ref b), (1, .int i1), (2, .int i2)] [.long p7, .long p4, .long (i2.toInt64)] S
        refine J_invSri hE (As := [.long (i2.toInt64), .long p4, .long p7]) (st := []) (tX5_in E.2.1 V S (i2.toInt64) p4 p7) m_X5_in s_X5_in rfl ml_RX5_71 (Nat.le_of_ble_eq_true rfl) (Nat.le_of_ble_eq_true rfl) rfl (Nat.le_of_ble_eq_true rfl) dd_X5_set_31 (fun r8 => ?_)
        refine J_if_eq hE (tgt := 56) dd_X5_set_34 (by decide) (fun c14 => ?_) (fun c14 => ?_)
        · refine J_iconst hE (v := (-1 : Int32)) dd_X5_set_56 (by decide) ?_
          exact J_iret hE dd_X5_set_57 rfl rfl
        · refine J_aload_n hE dd_X5_set_37 0 rfl rfl ?_
          refine J_iload_n hE dd_X5_set_38 1 rfl rfl ?_
          refine J_if_ne hE (tgt := 47) dd_X5_set_39 (by decide) (fun c13 => ?_) (fun c13 => ?_)
          · refine J_bipush hE (v := (47 : Int32)) dd_X5_set_47 (by decide) ?_
            refine J_iload_n hE dd_X5_set_49 2 rfl rfl ?_
            refine J_invVwi hE (e := fun x => x) (As := [.int (47 : Int32), .int i2]) (st := []) (tX5_becomes E.2.1 hv S (47 : Int32) i2) (hv.ob _) m_X5_becomes rfl ml_RX5_229 (Nat.le_of_ble_eq_true rfl) (Nat.le_of_ble_eq_true rfl) rfl (Nat.le_of_ble_eq_true rfl) dd_X5_set_50 (fun q9 => ?_)
            refine J_letS (fun S10 => ?_)
            refine J_goto hE (tgt := 57) dd_X5_set_53 (by decide) ?_
            exact J_iret hE dd_X5_set_57 rfl rfl
          · refine J_bipush hE (v := (46 : Int32)) dd_X5_set_42 (by decide) ?_
            refine J_goto hE (tgt := 49) dd_X5_set_44 (by decide) ?_
            refine J_iload_n hE dd_X5_set_49 2 rfl rfl ?_
            refine J_invVwi hE (e := fun x => x) (As := [.int (46 : Int32), .int i2]) (st := []) (tX5_becomes E.2.1 hv S (46 : Int32) i2) (hv.ob _) m_X5_becomes rfl ml_RX5_229 (Nat.le_of_ble_eq_true rfl) (Nat.le_of_ble_eq_true rfl) rfl (Nat.le_of_ble_eq_true rfl) dd_X5_set_50 (fun q11 => ?_)
            refine J_letS (fun S12 => ?_)
            refine J_goto hE (tgt := 57) dd_X5_set_53 (by decide) ?_
            exact J_iret hE dd_X5_set_57 rfl rfl
      · refine J_if_ne hE (tgt := 28) dd_X5_set_19 (by decide) (fun c6 => ?_) (fun c6 => ?_)
        · refine J_ldc2 hE (v := (9 : Int64)) dd_X5_set_28 cl_RX5_232 ?_
          refine J_sub [0, 1, 2] rfl ?_
          exact hj5 (9 : Int64)
        · refine J_ldc2 hE (v := (3 : Int64)) dd_X5_set_22 cl_RX5_234 ?_
          refine J_goto hE (tgt := 31) dd_X5_set_25 (by decide) ?_
          refine J_sub [0, 1, 2] rfl ?_
          exact hj5 (3 : Int64)
    · refine J_if_ne hE (tgt := 17) dd_X5_set_10 (by decide) (fun c3 => ?_) (fun c3 => ?_)
      · refine J_lconst hE (v := (1 : Int64)) dd_X5_set_17 (by decide) ?_
        refine J_sub [0, 1, 2] rfl ?_
        exact hj2 (1 : Int64)
      · refine J_lconst hE (v := (0 : Int64)) dd_X5_set_13 (by decide) ?_
        refine J_goto hE (tgt := 18) dd_X5_set_14 (by decide) ?_
        refine J_sub [0, 1, 2] rfl ?_
        exact hj2 (0 : Int64)
theorem dd_X5_go_0 : jd cX5_go 0 (.iload_n 1) 1 1 := ⟨by decide +kernel, rfl⟩
theorem dd_X5_go_1 : jd cX5_go 1 (.i2l) 1 2 := ⟨by decide +kernel, rfl⟩
theorem dd_X5_go_2 : jd cX5_go 2 (.lconst 0) 1 3 := ⟨by decide +kernel, rfl⟩
theorem cl_RX5_242 : (Cond.constantLong "MothCustomsModel" 242 (20 : Int64) : Cond) ∈ jj_tb := jj_m (List.mem_of_getElem? (i := 1096) (by decide +kernel)) rfl
theorem dd_X5_go_3 : jd cX5_go 3 (.ldc2_w 242) 3 6 := ⟨by decide +kernel, rfl⟩
theorem dd_X5_go_6 : jd cX5_go 6 (.invokestatic 71) 3 9 := ⟨by decide +kernel, rfl⟩
theorem dd_X5_go_14 : jd cX5_go 14 (.aload_n 0) 1 15 := ⟨by decide +kernel, rfl⟩
theorem dd_X5_go_15 : jd cX5_go 15 (.getfield 7) 3 18 := ⟨by decide +kernel, rfl⟩
theorem dd_X5_go_18 : jd cX5_go 18 (.bipush 48) 2 20 := ⟨by decide +kernel, rfl⟩
theorem dd_X5_go_20 : jd cX5_go 20 (.iaload) 1 21 := ⟨by decide +kernel, rfl⟩
theorem dd_X5_go_21 : jd cX5_go 21 (.iload_n 1) 1 22 := ⟨by decide +kernel, rfl⟩
theorem dd_X5_go_22 : jd cX5_go 22 (.iadd) 1 23 := ⟨by decide +kernel, rfl⟩
theorem dd_X5_go_23 : jd cX5_go 23 (.sipush 999) 3 26 := ⟨by decide +kernel, rfl⟩
theorem dd_X5_go_32 : jd cX5_go 32 (.aload_n 0) 1 33 := ⟨by decide +kernel, rfl⟩
theorem dd_X5_go_33 : jd cX5_go 33 (.invokevirtual 199) 3 36 := ⟨by decide +kernel, rfl⟩
theorem dd_X5_go_36 : jd cX5_go 36 (.aload_n 0) 1 37 := ⟨by decide +kernel, rfl⟩
theorem dd_X5_go_37 : jd cX5_go 37 (.iload_n 1) 1 38 := ⟨by decide +kernel, rfl⟩
theorem ml_RX5_244 : (Cond.methodLink "MothCustomsModel" 244 yX5_nightsGo : Cond) ∈ jj_tb := jj_m (List.mem_of_getElem? (i := 1097) (by decide +kernel)) rfl
theorem dd_X5_go_38 : jd cX5_go 38 (.invokevirtual 244) 3 41 := ⟨by decide +kernel, rfl⟩
theorem dd_X5_go_41 : jd cX5_go 41 (.aload_n 0) 1 42 := ⟨by decide +kernel, rfl⟩
theorem dd_X5_go_42 : jd cX5_go 42 (.invokevirtual 222) 3 45 := ⟨by decide +kernel, rfl⟩
theorem dd_X5_go_45 : jd cX5_go 45 (.aload_n 0) 1 46 := ⟨by decide +kernel, rfl⟩
theorem dd_X5_go_46 : jd cX5_go 46 (.invokevirtual 192) 3 49 := ⟨by decide +kernel, rfl⟩
theorem dd_X5_go_49 : jd cX5_go 49 (.ireturn) 1 50 := ⟨by decide +kernel, rfl⟩
theorem dd_X5_go_29 : jd cX5_go 29 (.bipush (-3)) 2 31 := ⟨by decide +kernel, rfl⟩
theorem dd_X5_go_31 : jd cX5_go 31 (.ireturn) 1 32 := ⟨by decide +kernel, rfl⟩
theorem dd_X5_go_26 : jd cX5_go 26 (.if_icmp .le 6) 3 29 := ⟨by decide +kernel, rfl⟩
theorem dd_X5_go_12 : jd cX5_go 12 (.iconst (-1)) 1 13 := ⟨by decide +kernel, rfl⟩
theorem dd_X5_go_13 : jd cX5_go 13 (.ireturn) 1 14 := ⟨by decide +kernel, rfl⟩
theorem dd_X5_go_9 : jd cX5_go 9 (.ifCond .ne 5) 3 12 := ⟨by decide +kernel, rfl⟩
theorem m_X5_go : jmV yX5_go cX5_go 2 (some .int) 1 := ⟨⟨(jj_m (w := Cond.code yX5_go cX5_go 2 (some .int)) (List.mem_of_getElem? (i := 1095) (by decide +kernel)) rfl), (jj_m (w := Cond.initialized yX5_go.cls) (List.mem_of_getElem? (i := 69) (by decide +kernel)) rfl), ⟨by decide, by decide⟩, by decide +kernel⟩, (jj_m (w := Cond.instanceMethod yX5_go) (List.mem_of_getElem? (i := 1093) (by decide +kernel)) rfl), (jj_m (w := Cond.selects yX5_go.cls yX5_go yX5_go) (List.mem_of_getElem? (i := 1094) (by decide +kernel)) rfl)⟩
def fX5_go (i1 : Int32) (S : M2) : Option (Int32 × M2) :=
  (fX5_in (i1.toInt64) (0 : Int64) (20 : Int64)).bind fun r1 =>
  if r1 = 0 then
    some ((-1 : Int32), S)
  else
    bnd (48 : Int32) 186 <|
    if ((S 0 (48 : Int32).toNatClampNeg) + i1) ≤ (999 : Int32) then
      (fX5_starts  S).bind fun q2 =>
      lt (q2) fun S3 =>
      (fX5_nightsGo i1 S3).bind fun q4 =>
      lt (q4) fun S5 =>
      (fX5_settles  S5).bind fun q6 =>
      lt (q6) fun S7 =>
      (fX5_dutyAll  S7).bind fun r8 =>
      some (r8, S7)
    else
      some ((-3 : Int32), S)

set_option maxHeartbeats 4000000 in
set_option maxRecDepth 100000 in
theorem tX5_go (l : Launch) {V : JV M2} {b : Nat} {a : Nat → Nat} (hv : vX5 V b a) (S : M2) (i1 : Int32) : JC l V yX5_go cX5_go 2 (some .int) jj_i 5 [.ref b, .int i1] S ((fX5_go i1 S).map (fun q => (q.1, q.2))) := by
  refine jj_of (by decide) (Nat.le_of_ble_eq_true rfl) (fun E hlE hE => ?_)
  unfold fX5_go
  refine J_sub (L' := [(0, .ref b), (1, .int i1)]) [0, 1] rfl ?_
  refine J_iload_n hE dd_X5_go_0 1 rfl rfl ?_
  refine J_i2l hE dd_X5_go_1 ?_
  refine J_lconst hE (v := (0 : Int64)) dd_X5_go_2 (by decide) ?_
  refine J_ldc2 hE (v := (20 : Int64)) dd_X5_go_3 cl_RX5_242 ?_
  refine J_invSri hE (As := [.long (i1.toInt64), .long (0 : Int64), .long (20 : Int64)]) (st := []) (tX5_in E.2.1 V S (i1.toInt64) (0 : Int64) (20 : Int64)) m_X5_in s_X5_in rfl ml_RX5_71 (Nat.le_of_ble_eq_true rfl) (Nat.le_of_ble_eq_true rfl) rfl (Nat.le_of_ble_eq_true rfl) dd_X5_go_6 (fun r1 => ?_)
  refine J_if_ne hE (tgt := 14) dd_X5_go_9 (by decide) (fun c10 => ?_) (fun c10 => ?_)
  · refine J_aload_n hE dd_X5_go_14 0 rfl rfl ?_
    refine J_get hE (hv.ob _) jc_X5 0 (by decide) fl_RX5_7 (v := .ref (a 0)) rfl dd_X5_go_15 ?_
    refine J_bipush hE (v := (48 : Int32)) dd_X5_go_18 (by decide) ?_
    refine J_ald hE (hv.arr 0 (n := 186) (ty := .int) (by decide) _) dd_X5_go_20 ?_
    refine J_iload_n hE dd_X5_go_21 1 rfl rfl ?_
    refine J_iadd hE dd_X5_go_22 ?_
    refine J_sipush hE (v := (999 : Int32)) dd_X5_go_23 (by decide) ?_
    refine J_icmp_le hE (tgt := 32) dd_X5_go_26 (by decide) (fun c9 => ?_) (fun c9 => ?_)
    · refine J_aload_n hE dd_X5_go_32 0 rfl rfl ?_
      refine J_invVwv hE (e := fun x => x) (As := []) (st := []) (tX5_starts E.2.1 hv S ) (hv.ob _) m_X5_starts rfl ml_RX5_199 (Nat.le_of_ble_eq_true rfl) (Nat.le_of_ble_eq_true rfl) rfl (Nat.le_of_ble_eq_true rfl) dd_X5_go_33 (fun q2 => ?_)
      refine J_letS (fun S3 => ?_)
      refine J_aload_n hE dd_X5_go_36 0 rfl rfl ?_
      refine J_iload_n hE dd_X5_go_37 1 rfl rfl ?_
      refine J_invVwv hE (e := fun x => x) (As := [.int i1]) (st := []) (tX5_nightsGo E.2.1 hv S3 i1) (hv.ob _) m_X5_nightsGo rfl ml_RX5_244 (Nat.le_of_ble_eq_true rfl) (Nat.le_of_ble_eq_true rfl) rfl (Nat.le_of_ble_eq_true rfl) dd_X5_go_38 (fun q4 => ?_)
      refine J_letS (fun S5 => ?_)
      refine J_aload_n hE dd_X5_go_41 0 rfl rfl ?_
      refine J_invVwv hE (e := fun x => x) (As := []) (st := []) (tX5_settles E.2.1 hv S5 ) (hv.ob _) m_X5_settles rfl ml_RX5_222 (Nat.le_of_ble_eq_true rfl) (Nat.le_of_ble_eq_true rfl) rfl (Nat.le_of_ble_eq_true rfl) dd_X5_go_42 (fun q6 => ?_)
      refine J_letS (fun S7 => ?_)
      refine J_aload_n hE dd_X5_go_45 0 rfl rfl ?_
      refine J_invVri hE (As := []) (st := []) (tX5_dutyAll E.2.1 hv S7 ) (hv.ob _) m_X5_dutyAll rfl ml_RX5_192 (Nat.le_of_ble_eq_true rfl) (Nat.le_of_ble_eq_true rfl) rfl (Nat.le_of_ble_eq_true rfl) dd_X5_go_46 (fun r8 => ?_)
      exact J_iret hE dd_X5_go_49 rfl rfl
    · refine J_bipush hE (v := (-3 : Int32)) dd_X5_go_29 (by decide) ?_
      exact J_iret hE dd_X5_go_31 rfl rfl
  · refine J_iconst hE (v := (-1 : Int32)) dd_X5_go_12 (by decide) ?_
    exact J_iret hE dd_X5_go_13 rfl rfl
theorem dd_X5_ahead_0 : jd cX5_ahead 0 (.iload_n 1) 1 1 := ⟨by decide +kernel, rfl⟩
theorem dd_X5_ahead_1 : jd cX5_ahead 1 (.i2l) 1 2 := ⟨by decide +kernel, rfl⟩
theorem dd_X5_ahead_2 : jd cX5_ahead 2 (.lconst 0) 1 3 := ⟨by decide +kernel, rfl⟩
theorem dd_X5_ahead_3 : jd cX5_ahead 3 (.ldc2_w 242) 3 6 := ⟨by decide +kernel, rfl⟩
theorem dd_X5_ahead_6 : jd cX5_ahead 6 (.invokestatic 71) 3 9 := ⟨by decide +kernel, rfl⟩
theorem dd_X5_ahead_24 : jd cX5_ahead 24 (.iconst (-1)) 1 25 := ⟨by decide +kernel, rfl⟩
theorem dd_X5_ahead_25 : jd cX5_ahead 25 (.ireturn) 1 26 := ⟨by decide +kernel, rfl⟩
theorem dd_X5_ahead_12 : jd cX5_ahead 12 (.iload_n 2) 1 13 := ⟨by decide +kernel, rfl⟩
theorem dd_X5_ahead_13 : jd cX5_ahead 13 (.i2l) 1 14 := ⟨by decide +kernel, rfl⟩
theorem dd_X5_ahead_14 : jd cX5_ahead 14 (.lconst 0) 1 15 := ⟨by decide +kernel, rfl⟩
theorem dd_X5_ahead_15 : jd cX5_ahead 15 (.ldc2_w 153) 3 18 := ⟨by decide +kernel, rfl⟩
theorem dd_X5_ahead_18 : jd cX5_ahead 18 (.invokestatic 71) 3 21 := ⟨by decide +kernel, rfl⟩
theorem dd_X5_ahead_26 : jd cX5_ahead 26 (.aload_n 0) 1 27 := ⟨by decide +kernel, rfl⟩
theorem dd_X5_ahead_27 : jd cX5_ahead 27 (.invokevirtual 199) 3 30 := ⟨by decide +kernel, rfl⟩
theorem dd_X5_ahead_30 : jd cX5_ahead 30 (.aload_n 0) 1 31 := ⟨by decide +kernel, rfl⟩
theorem dd_X5_ahead_31 : jd cX5_ahead 31 (.iload_n 1) 1 32 := ⟨by decide +kernel, rfl⟩
theorem dd_X5_ahead_32 : jd cX5_ahead 32 (.invokevirtual 244) 3 35 := ⟨by decide +kernel, rfl⟩
theorem dd_X5_ahead_35 : jd cX5_ahead 35 (.iload_n 2) 1 36 := ⟨by decide +kernel, rfl⟩
theorem dd_X5_ahead_46 : jd cX5_ahead 46 (.iload_n 2) 1 47 := ⟨by decide +kernel, rfl⟩
theorem dd_X5_ahead_47 : jd cX5_ahead 47 (.iconst 1) 1 48 := ⟨by decide +kernel, rfl⟩
theorem dd_X5_ahead_58 : jd cX5_ahead 58 (.aload_n 0) 1 59 := ⟨by decide +kernel, rfl⟩
theorem dd_X5_ahead_59 : jd cX5_ahead 59 (.invokevirtual 202) 3 62 := ⟨by decide +kernel, rfl⟩
theorem dd_X5_ahead_62 : jd cX5_ahead 62 (.ireturn) 1 63 := ⟨by decide +kernel, rfl⟩
theorem dd_X5_ahead_51 : jd cX5_ahead 51 (.aload_n 0) 1 52 := ⟨by decide +kernel, rfl⟩
theorem ml_RX5_247 : (Cond.methodLink "MothCustomsModel" 247 yX5_allHoles : Cond) ∈ jj_tb := jj_m (List.mem_of_getElem? (i := 1121) (by decide +kernel)) rfl
theorem dd_X5_ahead_52 : jd cX5_ahead 52 (.invokevirtual 247) 3 55 := ⟨by decide +kernel, rfl⟩
theorem dd_X5_ahead_55 : jd cX5_ahead 55 (.goto 7) 3 58 := ⟨by decide +kernel, rfl⟩
theorem dd_X5_ahead_48 : jd cX5_ahead 48 (.if_icmp .ne 10) 3 51 := ⟨by decide +kernel, rfl⟩
theorem dd_X5_ahead_39 : jd cX5_ahead 39 (.aload_n 0) 1 40 := ⟨by decide +kernel, rfl⟩
theorem dd_X5_ahead_40 : jd cX5_ahead 40 (.invokevirtual 192) 3 43 := ⟨by decide +kernel, rfl⟩
theorem dd_X5_ahead_43 : jd cX5_ahead 43 (.goto 19) 3 46 := ⟨by decide +kernel, rfl⟩
theorem dd_X5_ahead_36 : jd cX5_ahead 36 (.ifCond .ne 10) 3 39 := ⟨by decide +kernel, rfl⟩
theorem dd_X5_ahead_21 : jd cX5_ahead 21 (.ifCond .ne 5) 3 24 := ⟨by decide +kernel, rfl⟩
theorem dd_X5_ahead_9 : jd cX5_ahead 9 (.ifCond .eq 15) 3 12 := ⟨by decide +kernel, rfl⟩
theorem m_X5_ahead : jmV yX5_ahead cX5_ahead 3 (some .int) 2 := ⟨⟨(jj_m (w := Cond.code yX5_ahead cX5_ahead 3 (some .int)) (List.mem_of_getElem? (i := 1120) (by decide +kernel)) rfl), (jj_m (w := Cond.initialized yX5_ahead.cls) (List.mem_of_getElem? (i := 69) (by decide +kernel)) rfl), ⟨by decide, by decide⟩, by decide +kernel⟩, (jj_m (w := Cond.instanceMethod yX5_ahead) (List.mem_of_getElem? (i := 1118) (by decide +kernel)) rfl), (jj_m (w := Cond.selects yX5_ahead.cls yX5_ahead yX5_ahead) (List.mem_of_getElem? (i := 1119) (by decide +kernel)) rfl)⟩
def fX5_ahead (i1 : Int32) (i2 : Int32) (S : M2) : Option (Int32 × M2) :=
  (fX5_in (i1.toInt64) (0 : Int64) (20 : Int64)).bind fun r1 =>
  if r1 = 0 then
    some ((-1 : Int32), S)
  else
    (fX5_in (i2.toInt64) (0 : Int64) (2 : Int64)).bind fun r2 =>
    if r2 = 0 then
      some ((-1 : Int32), S)
    else
      (fX5_starts  S).bind fun q3 =>
      lt (q3) fun S4 =>
      (fX5_nightsGo i1 S4).bind fun q5 =>
      lt (q5) fun S6 =>
      if i2 = 0 then
        (fX5_dutyAll  S6).bind fun r10 =>
        some (r10, S6)
      else
        if i2 = (1 : Int32) then
          (fX5_allHoles  S6).bind fun r8 =>
          some (r8, S6)
        else
          (fX5_eaten  S6).bind fun r7 =>
          some (r7, S6)

set_option maxHeartbeats 4000000 in
set_option maxRecDepth 100000 in
theorem tX5_ahead (l : Launch) {V : JV M2} {b : Nat} {a : Nat → Nat} (hv : vX5 V b a) (S : M2) (i1 : Int32) (i2 : Int32) : JC l V yX5_ahead cX5_ahead 3 (some .int) jj_i 5 [.ref b, .int i1, .int i2] S ((fX5_ahead i1 i2 S).map (fun q => (q.1, q.2))) := by
  refine jj_of (by decide) (Nat.le_of_ble_eq_true rfl) (fun E hlE hE => ?_)
  unfold fX5_ahead
  refine J_sub (L' := [(0, .ref b), (1, .int i1), (2, .int i2)]) [0, 1, 2] rfl ?_
  refine J_iload_n hE dd_X5_ahead_0 1 rfl rfl ?_
  refine J_i2l hE dd_X5_ahead_1 ?_
  refine J_lconst hE (v := (0 : Int64)) dd_X5_ahead_2 (by decide) ?_
  refine J_ldc2 hE (v := (20 : Int64)) dd_X5_ahead_3 cl_RX5_242 ?_
  refine J_invSri hE (As := [.long (i1.toInt64), .long (0 : Int64), .long (20 : Int64)]) (st := []) (tX5_in E.2.1 V S (i1.toInt64) (0 : Int64) (20 : Int64)) m_X5_in s_X5_in rfl ml_RX5_71 (Nat.le_of_ble_eq_true rfl) (Nat.le_of_ble_eq_true rfl) rfl (Nat.le_of_ble_eq_true rfl) dd_X5_ahead_6 (fun r1 => ?_)
  refine J_if_eq hE (tgt := 24) dd_X5_ahead_9 (by decide) (fun c13 => ?_) (fun c13 => ?_)
  · refine J_iconst hE (v := (-1 : Int32)) dd_X5_ahead_24 (by decide) ?_
    exact J_iret hE dd_X5_ahead_25 rfl rfl
  · refine J_iload_n hE dd_X5_ahead_12 2 rfl rfl ?_
    refine J_i2l hE dd_X5_ahead_13 ?_
    refine J_lconst hE (v := (0 : Int64)) dd_X5_ahead_14 (by decide) ?_
    refine J_ldc2 hE (v := (2 : Int64)) dd_X5_ahead_15 cl_RX5_153 ?_
    refine J_invSri hE (As := [.long (i2.toInt64), .long (0 : Int64), .long (2 : Int64)]) (st := []) (tX5_in E.2.1 V S (i2.toInt64) (0 : Int64) (2 : Int64)) m_X5_in s_X5_in rfl ml_RX5_71 (Nat.le_of_ble_eq_true rfl) (Nat.le_of_ble_eq_true rfl) rfl (Nat.le_of_ble_eq_true rfl) dd_X5_ahead_18 (fun r2 => ?_)
    refine J_if_ne hE (tgt := 26) dd_X5_ahead_21 (by decide) (fun c12 => ?_) (fun c12 => ?_)
    · refine J_aload_n hE dd_X5_ahead_26 0 rfl rfl ?_
      refine J_invVwv hE (e := fun x => x) (As := []) (st := []) (tX5_starts E.2.1 hv S ) (hv.ob _) m_X5_starts rfl ml_RX5_199 (Nat.le_of_ble_eq_true rfl) (Nat.le_of_ble_eq_true rfl) rfl (Nat.le_of_ble_eq_true rfl) dd_X5_ahead_27 (fun q3 => ?_)
      refine J_letS (fun S4 => ?_)
      refine J_aload_n hE dd_X5_ahead_30 0 rfl rfl ?_
      refine J_iload_n hE dd_X5_ahead_31 1 rfl rfl ?_
      refine J_invVwv hE (e := fun x => x) (As := [.int i1]) (st := []) (tX5_nightsGo E.2.1 hv S4 i1) (hv.ob _) m_X5_nightsGo rfl ml_RX5_244 (Nat.le_of_ble_eq_true rfl) (Nat.le_of_ble_eq_true rfl) rfl (Nat.le_of_ble_eq_true rfl) dd_X5_ahead_32 (fun q5 => ?_)
      refine J_letS (fun S6 => ?_)
      refine J_iload_n hE dd_X5_ahead_35 2 rfl rfl ?_
      refine J_if_ne hE (tgt := 46) dd_X5_ahead_36 (by decide) (fun c11 => ?_) (fun c11 => ?_)
      · refine J_iload_n hE dd_X5_ahead_46 2 rfl rfl ?_
        refine J_iconst hE (v := (1 : Int32)) dd_X5_ahead_47 (by decide) ?_
        refine J_icmp_ne hE (tgt := 58) dd_X5_ahead_48 (by decide) (fun c9 => ?_) (fun c9 => ?_)
        · refine J_aload_n hE dd_X5_ahead_58 0 rfl rfl ?_
          refine J_invVri hE (As := []) (st := []) (tX5_eaten E.2.1 hv S6 ) (hv.ob _) m_X5_eaten rfl ml_RX5_202 (Nat.le_of_ble_eq_true rfl) (Nat.le_of_ble_eq_true rfl) rfl (Nat.le_of_ble_eq_true rfl) dd_X5_ahead_59 (fun r7 => ?_)
          exact J_iret hE dd_X5_ahead_62 rfl rfl
        · refine J_aload_n hE dd_X5_ahead_51 0 rfl rfl ?_
          refine J_invVri hE (As := []) (st := []) (tX5_allHoles E.2.1 hv S6 ) (hv.ob _) m_X5_allHoles rfl ml_RX5_247 (Nat.le_of_ble_eq_true rfl) (Nat.le_of_ble_eq_true rfl) rfl (Nat.le_of_ble_eq_true rfl) dd_X5_ahead_52 (fun r8 => ?_)
          refine J_goto hE (tgt := 62) dd_X5_ahead_55 (by decide) ?_
          exact J_iret hE dd_X5_ahead_62 rfl rfl
      · refine J_aload_n hE dd_X5_ahead_39 0 rfl rfl ?_
        refine J_invVri hE (As := []) (st := []) (tX5_dutyAll E.2.1 hv S6 ) (hv.ob _) m_X5_dutyAll rfl ml_RX5_192 (Nat.le_of_ble_eq_true rfl) (Nat.le_of_ble_eq_true rfl) rfl (Nat.le_of_ble_eq_true rfl) dd_X5_ahead_40 (fun r10 => ?_)
        refine J_goto hE (tgt := 62) dd_X5_ahead_43 (by decide) ?_
        exact J_iret hE dd_X5_ahead_62 rfl rfl
    · refine J_iconst hE (v := (-1 : Int32)) dd_X5_ahead_24 (by decide) ?_
      exact J_iret hE dd_X5_ahead_25 rfl rfl
theorem dd_X5_when_0 : jd cX5_when 0 (.aload_n 0) 1 1 := ⟨by decide +kernel, rfl⟩
theorem dd_X5_when_1 : jd cX5_when 1 (.iload_n 1) 1 2 := ⟨by decide +kernel, rfl⟩
theorem dd_X5_when_2 : jd cX5_when 2 (.invokevirtual 205) 3 5 := ⟨by decide +kernel, rfl⟩
theorem dd_X5_when_10 : jd cX5_when 10 (.aload_n 0) 1 11 := ⟨by decide +kernel, rfl⟩
theorem dd_X5_when_11 : jd cX5_when 11 (.invokevirtual 199) 3 14 := ⟨by decide +kernel, rfl⟩
theorem dd_X5_when_14 : jd cX5_when 14 (.iconst 0) 1 15 := ⟨by decide +kernel, rfl⟩
theorem dd_X5_when_15 : jd cX5_when 15 (.istore_n 2) 1 16 := ⟨by decide +kernel, rfl⟩
theorem dd_X5_when_16 : jd cX5_when 16 (.iload_n 2) 1 17 := ⟨by decide +kernel, rfl⟩
theorem dd_X5_when_17 : jd cX5_when 17 (.bipush 40) 2 19 := ⟨by decide +kernel, rfl⟩
theorem dd_X5_when_22 : jd cX5_when 22 (.aload_n 0) 1 23 := ⟨by decide +kernel, rfl⟩
theorem dd_X5_when_23 : jd cX5_when 23 (.iload_n 1) 1 24 := ⟨by decide +kernel, rfl⟩
theorem dd_X5_when_24 : jd cX5_when 24 (.invokevirtual 195) 3 27 := ⟨by decide +kernel, rfl⟩
theorem dd_X5_when_32 : jd cX5_when 32 (.aload_n 0) 1 33 := ⟨by decide +kernel, rfl⟩
theorem dd_X5_when_33 : jd cX5_when 33 (.iconst 1) 1 34 := ⟨by decide +kernel, rfl⟩
theorem dd_X5_when_34 : jd cX5_when 34 (.invokevirtual 244) 3 37 := ⟨by decide +kernel, rfl⟩
theorem dd_X5_when_37 : jd cX5_when 37 (.iinc 2 1) 3 40 := ⟨by decide +kernel, rfl⟩
theorem dd_X5_when_40 : jd cX5_when 40 (.goto (-24)) 3 43 := ⟨by decide +kernel, rfl⟩
theorem dd_X5_when_30 : jd cX5_when 30 (.iload_n 2) 1 31 := ⟨by decide +kernel, rfl⟩
theorem dd_X5_when_31 : jd cX5_when 31 (.ireturn) 1 32 := ⟨by decide +kernel, rfl⟩
theorem dd_X5_when_27 : jd cX5_when 27 (.ifCond .eq 5) 3 30 := ⟨by decide +kernel, rfl⟩
theorem dd_X5_when_19 : jd cX5_when 19 (.if_icmp .gt 24) 3 22 := ⟨by decide +kernel, rfl⟩
theorem dd_X5_when_43 : jd cX5_when 43 (.bipush (-4)) 2 45 := ⟨by decide +kernel, rfl⟩
theorem dd_X5_when_45 : jd cX5_when 45 (.ireturn) 1 46 := ⟨by decide +kernel, rfl⟩
theorem dd_X5_when_8 : jd cX5_when 8 (.iconst (-1)) 1 9 := ⟨by decide +kernel, rfl⟩
theorem dd_X5_when_9 : jd cX5_when 9 (.ireturn) 1 10 := ⟨by decide +kernel, rfl⟩
theorem dd_X5_when_5 : jd cX5_when 5 (.ifCond .ne 5) 3 8 := ⟨by decide +kernel, rfl⟩
theorem m_X5_when : jmV yX5_when cX5_when 3 (some .int) 1 := ⟨⟨(jj_m (w := Cond.code yX5_when cX5_when 3 (some .int)) (List.mem_of_getElem? (i := 1128) (by decide +kernel)) rfl), (jj_m (w := Cond.initialized yX5_when.cls) (List.mem_of_getElem? (i := 69) (by decide +kernel)) rfl), ⟨by decide, by decide⟩, by decide +kernel⟩, (jj_m (w := Cond.instanceMethod yX5_when) (List.mem_of_getElem? (i := 1126) (by decide +kernel)) rfl), (jj_m (w := Cond.selects yX5_when.cls yX5_when yX5_when) (List.mem_of_getElem? (i := 1127) (by decide +kernel)) rfl)⟩
def fX5_when_L16 (i1 : Int32) (k43 : M2 → Option (Int32 × M2)) : Nat → Int32 → M2 → Option (Int32 × M2)
  | 0, _, _ => none
  | n_ + 1, v4, S5 =>
    if (40 : Int32) < v4 then
      k43 S5
    else
      (fX5_isEaten i1 S5).bind fun r6 =>
      if r6 = 0 then
        (fX5_nightsGo (1 : Int32) S5).bind fun q7 =>
        lt (q7) fun S8 =>
        lt (v4 + (1 : Int32)) fun x9 =>
        fX5_when_L16 i1 k43 n_ x9 S8
      else
        some (v4, S5)

def fX5_when (i1 : Int32) (S : M2) : Option (Int32 × M2) :=
  (fX5_isBolt i1 S).bind fun r1 =>
  if r1 = 0 then
    some ((-1 : Int32), S)
  else
    (fX5_starts  S).bind fun q2 =>
    lt (q2) fun S3 =>
    fX5_when_L16 i1
      (fun p12 =>
        some ((-4 : Int32), p12))
      400 (0 : Int32) S3

set_option maxHeartbeats 4000000 in
set_option maxRecDepth 100000 in
theorem tX5_when_L16 {V : JV M2} {b : Nat} {a : Nat → Nat} (hv : vX5 V b a) (i1 : Int32) {E : JE (M2) Int32} (hE : JOk V E cX5_when yX5_when.cls 3 5 (some .int) jj_i) {k43 : M2 → Option (Int32 × M2)} (hk43 : ∀ p, J V E (fun q => (q.1, q.2)) (k43 p) 43 [] [] p) : ∀ (n_ : Nat) (v4 : Int32) (S5 : M2), J V E (fun q => (q.1, q.2)) (fX5_when_L16 i1 k43 n_ v4 S5) 16 [(0, .ref b), (1, .int i1), (2, .int v4)] [] S5 := by
  intro n_
  induction n_ with
  | zero =>
    intros
    exact J_none
  | succ n_ ih =>
    intros v4 S5
    rw [fX5_when_L16]
    refine J_iload_n hE dd_X5_when_16 2 rfl rfl ?_
    refine J_bipush hE (v := (40 : Int32)) dd_X5_when_17 (by decide) ?_
    refine J_icmp_gt hE (tgt := 43) dd_X5_when_19 (by decide) (fun c11 => ?_) (fun c11 => ?_)
    · refine J_sub [] rfl ?_
      exact hk43 S5
    · refine J_aload_n hE dd_X5_when_22 0 rfl rfl ?_
      refine J_iload_n hE dd_X5_when_23 1 rfl rfl ?_
      refine J_invVri hE (As := [.int i1]) (st := []) (tX5_isEaten E.2.1 hv S5 i1) (hv.ob _) m_X5_isEaten rfl ml_RX5_195 (Nat.le_of_ble_eq_true rfl) (Nat.le_of_ble_eq_true rfl) rfl (Nat.le_of_ble_eq_true rfl) dd_X5_when_24 (fun r6 => ?_)
      refine J_if_eq hE (tgt := 32) dd_X5_when_27 (by decide) (fun c10 => ?_) (fun c10 => ?_)
      · refine J_aload_n hE dd_X5_when_32 0 rfl rfl ?_
        refine J_iconst hE (v := (1 : Int32)) dd_X5_when_33 (by decide) ?_
        refine J_invVwv hE (e := fun x => x) (As := [.int (1 : Int32)]) (st := []) (tX5_nightsGo E.2.1 hv S5 (1 : Int32)) (hv.ob _) m_X5_nightsGo rfl ml_RX5_244 (Nat.le_of_ble_eq_true rfl) (Nat.le_of_ble_eq_true rfl) rfl (Nat.le_of_ble_eq_true rfl) dd_X5_when_34 (fun q7 => ?_)
        refine J_letS (fun S8 => ?_)
        refine J_iincL hE (v := (v4 + (1 : Int32))) (Lf := fun x9 => [(2, .int x9), (0, .ref b), (1, .int i1)]) dd_X5_when_37 (j := 2) rfl (congrArg (v4 + ·) (by decide)) (Nat.le_of_ble_eq_true rfl) (fun _ => rfl) (fun x9 => ?_)
        refine J_goto hE (tgt := 16) dd_X5_when_40 (by decide) ?_
        refine J_sub [1, 2, 0] rfl ?_
        exact ih x9 S8
      · refine J_iload_n hE dd_X5_when_30 2 rfl rfl ?_
        exact J_iret hE dd_X5_when_31 rfl rfl
set_option maxHeartbeats 4000000 in
set_option maxRecDepth 100000 in
theorem tX5_when (l : Launch) {V : JV M2} {b : Nat} {a : Nat → Nat} (hv : vX5 V b a) (S : M2) (i1 : Int32) : JC l V yX5_when cX5_when 3 (some .int) jj_i 5 [.ref b, .int i1] S ((fX5_when i1 S).map (fun q => (q.1, q.2))) := by
  refine jj_of (by decide) (Nat.le_of_ble_eq_true rfl) (fun E hlE hE => ?_)
  unfold fX5_when
  refine J_sub (L' := [(0, .ref b), (1, .int i1)]) [0, 1] rfl ?_
  refine J_aload_n hE dd_X5_when_0 0 rfl rfl ?_
  refine J_iload_n hE dd_X5_when_1 1 rfl rfl ?_
  refine J_invVri hE (As := [.int i1]) (st := []) (tX5_isBolt E.2.1 hv S i1) (hv.ob _) m_X5_isBolt rfl ml_RX5_205 (Nat.le_of_ble_eq_true rfl) (Nat.le_of_ble_eq_true rfl) rfl (Nat.le_of_ble_eq_true rfl) dd_X5_when_2 (fun r1 => ?_)
  refine J_if_ne hE (tgt := 10) dd_X5_when_5 (by decide) (fun c13 => ?_) (fun c13 => ?_)
  · refine J_aload_n hE dd_X5_when_10 0 rfl rfl ?_
    refine J_invVwv hE (e := fun x => x) (As := []) (st := []) (tX5_starts E.2.1 hv S ) (hv.ob _) m_X5_starts rfl ml_RX5_199 (Nat.le_of_ble_eq_true rfl) (Nat.le_of_ble_eq_true rfl) rfl (Nat.le_of_ble_eq_true rfl) dd_X5_when_11 (fun q2 => ?_)
    refine J_letS (fun S3 => ?_)
    refine J_iconst hE (v := (0 : Int32)) dd_X5_when_14 (by decide) ?_
    refine J_istore_n hE (L' := [(2, .int (0 : Int32)), (0, .ref b), (1, .int i1)]) dd_X5_when_15 (Nat.le_of_ble_eq_true rfl) rfl rfl ?_
    refine J_sub [1, 2, 0] rfl ?_
    refine tX5_when_L16 hv i1 hE (fun p12 => ?_) 400 (0 : Int32) S3
    show J V E _ _ 43 [] [] p12
    refine J_bipush hE (v := (-4 : Int32)) dd_X5_when_43 (by decide) ?_
    exact J_iret hE dd_X5_when_45 rfl rfl
  · refine J_iconst hE (v := (-1 : Int32)) dd_X5_when_8 (by decide) ?_
    exact J_iret hE dd_X5_when_9 rfl rfl
theorem dd_X5_eats_0 : jd cX5_eats 0 (.aload_n 0) 1 1 := ⟨by decide +kernel, rfl⟩
theorem dd_X5_eats_1 : jd cX5_eats 1 (.iload_n 1) 1 2 := ⟨by decide +kernel, rfl⟩
theorem dd_X5_eats_2 : jd cX5_eats 2 (.invokevirtual 210) 3 5 := ⟨by decide +kernel, rfl⟩
theorem dd_X5_eats_10 : jd cX5_eats 10 (.aload_n 0) 1 11 := ⟨by decide +kernel, rfl⟩
theorem dd_X5_eats_11 : jd cX5_eats 11 (.invokevirtual 199) 3 14 := ⟨by decide +kernel, rfl⟩
theorem dd_X5_eats_14 : jd cX5_eats 14 (.aload_n 0) 1 15 := ⟨by decide +kernel, rfl⟩
theorem dd_X5_eats_15 : jd cX5_eats 15 (.iload_n 1) 1 16 := ⟨by decide +kernel, rfl⟩
theorem dd_X5_eats_16 : jd cX5_eats 16 (.invokevirtual 180) 3 19 := ⟨by decide +kernel, rfl⟩
theorem dd_X5_eats_19 : jd cX5_eats 19 (.ireturn) 1 20 := ⟨by decide +kernel, rfl⟩
theorem dd_X5_eats_8 : jd cX5_eats 8 (.iconst (-1)) 1 9 := ⟨by decide +kernel, rfl⟩
theorem dd_X5_eats_9 : jd cX5_eats 9 (.ireturn) 1 10 := ⟨by decide +kernel, rfl⟩
theorem dd_X5_eats_5 : jd cX5_eats 5 (.ifCond .ne 5) 3 8 := ⟨by decide +kernel, rfl⟩
theorem m_X5_eats : jmV yX5_eats cX5_eats 2 (some .int) 1 := ⟨⟨(jj_m (w := Cond.code yX5_eats cX5_eats 2 (some .int)) (List.mem_of_getElem? (i := 1132) (by decide +kernel)) rfl), (jj_m (w := Cond.initialized yX5_eats.cls) (List.mem_of_getElem? (i := 69) (by decide +kernel)) rfl), ⟨by decide, by decide⟩, by decide +kernel⟩, (jj_m (w := Cond.instanceMethod yX5_eats) (List.mem_of_getElem? (i := 1130) (by decide +kernel)) rfl), (jj_m (w := Cond.selects yX5_eats.cls yX5_eats yX5_eats) (List.mem_of_getElem? (i := 1131) (by decide +kernel)) rfl)⟩
def fX5_eats (i1 : Int32) (S : M2) : Option (Int32 × M2) :=
  (fX5_isMoth i1 S).bind fun r1 =>
  if r1 = 0 then
    some ((-1 : Int32), S)
  else
    (fX5_starts  S).bind fun q2 =>
    lt (q2) fun S3 =>
    (fX5_eatsNow i1 S3).bind fun q4 =>
    lt (q4.2) fun S5 =>
    some (q4.1, S5)

set_option maxHeartbeats 4000000 in
set_option maxRecDepth 100000 in
theorem tX5_eats (l : Launch) {V : JV M2} {b : Nat} {a : Nat → Nat} (hv : vX5 V b a) (S : M2) (i1 : Int32) : JC l V yX5_eats cX5_eats 2 (some .int) jj_i 3 [.ref b, .int i1] S ((fX5_eats i1 S).map (fun q => (q.1, q.2))) := by
  refine jj_of (by decide) (Nat.le_of_ble_eq_true rfl) (fun E hlE hE => ?_)
  unfold fX5_eats
  refine J_sub (L' := [(0, .ref b), (1, .int i1)]) [0, 1] rfl ?_
  refine J_aload_n hE dd_X5_eats_0 0 rfl rfl ?_
  refine J_iload_n hE dd_X5_eats_1 1 rfl rfl ?_
  refine J_invVri hE (As := [.int i1]) (st := []) (tX5_isMoth E.2.1 hv S i1) (hv.ob _) m_X5_isMoth rfl ml_RX5_210 (Nat.le_of_ble_eq_true rfl) (Nat.le_of_ble_eq_true rfl) rfl (Nat.le_of_ble_eq_true rfl) dd_X5_eats_2 (fun r1 => ?_)
  refine J_if_ne hE (tgt := 10) dd_X5_eats_5 (by decide) (fun c6 => ?_) (fun c6 => ?_)
  · refine J_aload_n hE dd_X5_eats_10 0 rfl rfl ?_
    refine J_invVwv hE (e := fun x => x) (As := []) (st := []) (tX5_starts E.2.1 hv S ) (hv.ob _) m_X5_starts rfl ml_RX5_199 (Nat.le_of_ble_eq_true rfl) (Nat.le_of_ble_eq_true rfl) rfl (Nat.le_of_ble_eq_true rfl) dd_X5_eats_11 (fun q2 => ?_)
    refine J_letS (fun S3 => ?_)
    refine J_aload_n hE dd_X5_eats_14 0 rfl rfl ?_
    refine J_iload_n hE dd_X5_eats_15 1 rfl rfl ?_
    refine J_invVwi hE (e := fun x => x) (As := [.int i1]) (st := []) (tX5_eatsNow E.2.1 hv S3 i1) (hv.ob _) m_X5_eatsNow rfl ml_RX5_180 (Nat.le_of_ble_eq_true rfl) (Nat.le_of_ble_eq_true rfl) rfl (Nat.le_of_ble_eq_true rfl) dd_X5_eats_16 (fun q4 => ?_)
    refine J_letS (fun S5 => ?_)
    exact J_iret hE dd_X5_eats_19 rfl rfl
  · refine J_iconst hE (v := (-1 : Int32)) dd_X5_eats_8 (by decide) ?_
    exact J_iret hE dd_X5_eats_9 rfl rfl
theorem dd_X5_duty_0 : jd cX5_duty 0 (.iload_n 1) 1 1 := ⟨by decide +kernel, rfl⟩
theorem dd_X5_duty_1 : jd cX5_duty 1 (.invokestatic 239) 3 4 := ⟨by decide +kernel, rfl⟩
theorem dd_X5_duty_9 : jd cX5_duty 9 (.aload_n 0) 1 10 := ⟨by decide +kernel, rfl⟩
theorem dd_X5_duty_10 : jd cX5_duty 10 (.invokevirtual 199) 3 13 := ⟨by decide +kernel, rfl⟩
theorem dd_X5_duty_13 : jd cX5_duty 13 (.iload_n 1) 1 14 := ⟨by decide +kernel, rfl⟩
theorem dd_X5_duty_22 : jd cX5_duty 22 (.aload_n 0) 1 23 := ⟨by decide +kernel, rfl⟩
theorem dd_X5_duty_23 : jd cX5_duty 23 (.iconst 1) 1 24 := ⟨by decide +kernel, rfl⟩
theorem dd_X5_duty_24 : jd cX5_duty 24 (.invokevirtual 244) 3 27 := ⟨by decide +kernel, rfl⟩
theorem dd_X5_duty_27 : jd cX5_duty 27 (.aload_n 0) 1 28 := ⟨by decide +kernel, rfl⟩
theorem dd_X5_duty_28 : jd cX5_duty 28 (.invokevirtual 247) 3 31 := ⟨by decide +kernel, rfl⟩
theorem dd_X5_duty_31 : jd cX5_duty 31 (.aload_n 0) 1 32 := ⟨by decide +kernel, rfl⟩
theorem dd_X5_duty_32 : jd cX5_duty 32 (.getfield 13) 3 35 := ⟨by decide +kernel, rfl⟩
theorem dd_X5_duty_35 : jd cX5_duty 35 (.bipush 47) 2 37 := ⟨by decide +kernel, rfl⟩
theorem dd_X5_duty_37 : jd cX5_duty 37 (.iaload) 1 38 := ⟨by decide +kernel, rfl⟩
theorem dd_X5_duty_38 : jd cX5_duty 38 (.imul) 1 39 := ⟨by decide +kernel, rfl⟩
theorem dd_X5_duty_39 : jd cX5_duty 39 (.ireturn) 1 40 := ⟨by decide +kernel, rfl⟩
theorem dd_X5_duty_17 : jd cX5_duty 17 (.aload_n 0) 1 18 := ⟨by decide +kernel, rfl⟩
theorem dd_X5_duty_18 : jd cX5_duty 18 (.invokevirtual 192) 3 21 := ⟨by decide +kernel, rfl⟩
theorem dd_X5_duty_21 : jd cX5_duty 21 (.ireturn) 1 22 := ⟨by decide +kernel, rfl⟩
theorem dd_X5_duty_14 : jd cX5_duty 14 (.ifCond .ne 8) 3 17 := ⟨by decide +kernel, rfl⟩
theorem dd_X5_duty_7 : jd cX5_duty 7 (.iconst (-1)) 1 8 := ⟨by decide +kernel, rfl⟩
theorem dd_X5_duty_8 : jd cX5_duty 8 (.ireturn) 1 9 := ⟨by decide +kernel, rfl⟩
theorem dd_X5_duty_4 : jd cX5_duty 4 (.ifCond .ne 5) 3 7 := ⟨by decide +kernel, rfl⟩
theorem m_X5_duty : jmV yX5_duty cX5_duty 2 (some .int) 1 := ⟨⟨(jj_m (w := Cond.code yX5_duty cX5_duty 2 (some .int)) (List.mem_of_getElem? (i := 1136) (by decide +kernel)) rfl), (jj_m (w := Cond.initialized yX5_duty.cls) (List.mem_of_getElem? (i := 69) (by decide +kernel)) rfl), ⟨by decide, by decide⟩, by decide +kernel⟩, (jj_m (w := Cond.instanceMethod yX5_duty) (List.mem_of_getElem? (i := 1134) (by decide +kernel)) rfl), (jj_m (w := Cond.selects yX5_duty.cls yX5_duty yX5_duty) (List.mem_of_getElem? (i := 1135) (by decide +kernel)) rfl)⟩
def fX5_duty (i1 : Int32) (S : M2) : Option (Int32 × M2) :=
  (fX5_isPart i1).bind fun r1 =>
  if r1 = 0 then
    some ((-1 : Int32), S)
  else
    (fX5_starts  S).bind fun q2 =>
    lt (q2) fun S3 =>
    if i1 = 0 then
      (fX5_dutyAll  S3).bind fun r7 =>
      some (r7, S3)
    else
      (fX5_nightsGo (1 : Int32) S3).bind fun q4 =>
      lt (q4) fun S5 =>
      (fX5_allHoles  S5).bind fun r6 =>
      bnd (47 : Int32) 62 <|
      some ((r6 * (S5 1 (47 : Int32).toNatClampNeg)), S5)

set_option maxHeartbeats 4000000 in
set_option maxRecDepth 100000 in
theorem tX5_duty (l : Launch) {V : JV M2} {b : Nat} {a : Nat → Nat} (hv : vX5 V b a) (S : M2) (i1 : Int32) : JC l V yX5_duty cX5_duty 2 (some .int) jj_i 5 [.ref b, .int i1] S ((fX5_duty i1 S).map (fun q => (q.1, q.2))) := by
  refine jj_of (by decide) (Nat.le_of_ble_eq_true rfl) (fun E hlE hE => ?_)
  unfold fX5_duty
  refine J_sub (L' := [(0, .ref b), (1, .int i1)]) [0, 1] rfl ?_
  refine J_iload_n hE dd_X5_duty_0 1 rfl rfl ?_
  refine J_invSri hE (As := [.int i1]) (st := []) (tX5_isPart E.2.1 V S i1) m_X5_isPart s_X5_isPart rfl ml_RX5_239 (Nat.le_of_ble_eq_true rfl) (Nat.le_of_ble_eq_true rfl) rfl (Nat.le_of_ble_eq_true rfl) dd_X5_duty_1 (fun r1 => ?_)
  refine J_if_ne hE (tgt := 9) dd_X5_duty_4 (by decide) (fun c9 => ?_) (fun c9 => ?_)
  · refine J_aload_n hE dd_X5_duty_9 0 rfl rfl ?_
    refine J_invVwv hE (e := fun x => x) (As := []) (st := []) (tX5_starts E.2.1 hv S ) (hv.ob _) m_X5_starts rfl ml_RX5_199 (Nat.le_of_ble_eq_true rfl) (Nat.le_of_ble_eq_true rfl) rfl (Nat.le_of_ble_eq_true rfl) dd_X5_duty_10 (fun q2 => ?_)
    refine J_letS (fun S3 => ?_)
    refine J_iload_n hE dd_X5_duty_13 1 rfl rfl ?_
    refine J_if_ne hE (tgt := 22) dd_X5_duty_14 (by decide) (fun c8 => ?_) (fun c8 => ?_)
    · refine J_aload_n hE dd_X5_duty_22 0 rfl rfl ?_
      refine J_iconst hE (v := (1 : Int32)) dd_X5_duty_23 (by decide) ?_
      refine J_invVwv hE (e := fun x => x) (As := [.int (1 : Int32)]) (st := []) (tX5_nightsGo E.2.1 hv S3 (1 : Int32)) (hv.ob _) m_X5_nightsGo rfl ml_RX5_244 (Nat.le_of_ble_eq_true rfl) (Nat.le_of_ble_eq_true rfl) rfl (Nat.le_of_ble_eq_true rfl) dd_X5_duty_24 (fun q4 => ?_)
      refine J_letS (fun S5 => ?_)
      refine J_aload_n hE dd_X5_duty_27 0 rfl rfl ?_
      refine J_invVri hE (As := []) (st := []) (tX5_allHoles E.2.1 hv S5 ) (hv.ob _) m_X5_allHoles rfl ml_RX5_247 (Nat.le_of_ble_eq_true rfl) (Nat.le_of_ble_eq_true rfl) rfl (Nat.le_of_ble_eq_true rfl) dd_X5_duty_28 (fun r6 => ?_)
      refine J_aload_n hE dd_X5_duty_31 0 rfl rfl ?_
      refine J_get hE (hv.ob _) jc_X5 1 (by decide) fl_RX5_13 (v := .ref (a 1)) rfl dd_X5_duty_32 ?_
      refine J_bipush hE (v := (47 : Int32)) dd_X5_duty_35 (by decide) ?_
      refine J_ald hE (hv.arr 1 (n := 62) (ty := .int) (by decide) _) dd_X5_duty_37 ?_
      refine J_imul hE dd_X5_duty_38 ?_
      exact J_iret hE dd_X5_duty_39 rfl rfl
    · refine J_aload_n hE dd_X5_duty_17 0 rfl rfl ?_
      refine J_invVri hE (As := []) (st := []) (tX5_dutyAll E.2.1 hv S3 ) (hv.ob _) m_X5_dutyAll rfl ml_RX5_192 (Nat.le_of_ble_eq_true rfl) (Nat.le_of_ble_eq_true rfl) rfl (Nat.le_of_ble_eq_true rfl) dd_X5_duty_18 (fun r7 => ?_)
      exact J_iret hE dd_X5_duty_21 rfl rfl
  · refine J_iconst hE (v := (-1 : Int32)) dd_X5_duty_7 (by decide) ?_
    exact J_iret hE dd_X5_duty_8 rfl rfl
theorem dd_X5_isRow_0 : jd cX5_isRow 0 (.iload_n 1) 1 1 := ⟨by decide +kernel, rfl⟩
theorem dd_X5_isRow_1 : jd cX5_isRow 1 (.istore_n 2) 1 2 := ⟨by decide +kernel, rfl⟩
theorem dd_X5_isRow_2 : jd cX5_isRow 2 (.iconst 0) 1 3 := ⟨by decide +kernel, rfl⟩
theorem dd_X5_isRow_3 : jd cX5_isRow 3 (.istore_n 3) 1 4 := ⟨by decide +kernel, rfl⟩
theorem dd_X5_isRow_4 : jd cX5_isRow 4 (.aload_n 0) 1 5 := ⟨by decide +kernel, rfl⟩
theorem dd_X5_isRow_5 : jd cX5_isRow 5 (.getfield 63) 3 8 := ⟨by decide +kernel, rfl⟩
theorem dd_X5_isRow_8 : jd cX5_isRow 8 (.iconst 1) 1 9 := ⟨by decide +kernel, rfl⟩
theorem dd_X5_isRow_9 : jd cX5_isRow 9 (.isub) 1 10 := ⟨by decide +kernel, rfl⟩
theorem dd_X5_isRow_10 : jd cX5_isRow 10 (.istore 4) 2 12 := ⟨by decide +kernel, rfl⟩
theorem dd_X5_isRow_12 : jd cX5_isRow 12 (.iload 4) 2 14 := ⟨by decide +kernel, rfl⟩
theorem dd_X5_isRow_17 : jd cX5_isRow 17 (.aload_n 0) 1 18 := ⟨by decide +kernel, rfl⟩
theorem fl_RX5_26 : (Cond.fieldLink "MothCustomsModel" 26 "MothCustomsModel" "row" "[I" : Cond) ∈ jj_tb := jj_m (List.mem_of_getElem? (i := 824) (by decide +kernel)) rfl
theorem dd_X5_isRow_18 : jd cX5_isRow 18 (.getfield 26) 3 21 := ⟨by decide +kernel, rfl⟩
theorem dd_X5_isRow_21 : jd cX5_isRow 21 (.iload 4) 2 23 := ⟨by decide +kernel, rfl⟩
theorem dd_X5_isRow_23 : jd cX5_isRow 23 (.iload_n 2) 1 24 := ⟨by decide +kernel, rfl⟩
theorem dd_X5_isRow_24 : jd cX5_isRow 24 (.aload_n 0) 1 25 := ⟨by decide +kernel, rfl⟩
theorem dd_X5_isRow_25 : jd cX5_isRow 25 (.getfield 63) 3 28 := ⟨by decide +kernel, rfl⟩
theorem dd_X5_isRow_28 : jd cX5_isRow 28 (.irem) 1 29 := ⟨by decide +kernel, rfl⟩
theorem dd_X5_isRow_29 : jd cX5_isRow 29 (.iastore) 1 30 := ⟨by decide +kernel, rfl⟩
theorem dd_X5_isRow_30 : jd cX5_isRow 30 (.iload_n 2) 1 31 := ⟨by decide +kernel, rfl⟩
theorem dd_X5_isRow_31 : jd cX5_isRow 31 (.aload_n 0) 1 32 := ⟨by decide +kernel, rfl⟩
theorem dd_X5_isRow_32 : jd cX5_isRow 32 (.getfield 63) 3 35 := ⟨by decide +kernel, rfl⟩
theorem dd_X5_isRow_35 : jd cX5_isRow 35 (.idiv) 1 36 := ⟨by decide +kernel, rfl⟩
theorem dd_X5_isRow_36 : jd cX5_isRow 36 (.istore_n 2) 1 37 := ⟨by decide +kernel, rfl⟩
theorem dd_X5_isRow_37 : jd cX5_isRow 37 (.iload_n 3) 1 38 := ⟨by decide +kernel, rfl⟩
theorem dd_X5_isRow_38 : jd cX5_isRow 38 (.iconst 1) 1 39 := ⟨by decide +kernel, rfl⟩
theorem dd_X5_isRow_39 : jd cX5_isRow 39 (.aload_n 0) 1 40 := ⟨by decide +kernel, rfl⟩
theorem dd_X5_isRow_40 : jd cX5_isRow 40 (.getfield 26) 3 43 := ⟨by decide +kernel, rfl⟩
theorem dd_X5_isRow_43 : jd cX5_isRow 43 (.iload 4) 2 45 := ⟨by decide +kernel, rfl⟩
theorem dd_X5_isRow_45 : jd cX5_isRow 45 (.iaload) 1 46 := ⟨by decide +kernel, rfl⟩
theorem dd_X5_isRow_46 : jd cX5_isRow 46 (.ishl) 1 47 := ⟨by decide +kernel, rfl⟩
theorem dd_X5_isRow_47 : jd cX5_isRow 47 (.ior) 1 48 := ⟨by decide +kernel, rfl⟩
theorem dd_X5_isRow_48 : jd cX5_isRow 48 (.istore_n 3) 1 49 := ⟨by decide +kernel, rfl⟩
theorem dd_X5_isRow_49 : jd cX5_isRow 49 (.iinc 4 (-1)) 3 52 := ⟨by decide +kernel, rfl⟩
theorem dd_X5_isRow_52 : jd cX5_isRow 52 (.goto (-40)) 3 55 := ⟨by decide +kernel, rfl⟩
theorem dd_X5_isRow_14 : jd cX5_isRow 14 (.ifCond .lt 41) 3 17 := ⟨by decide +kernel, rfl⟩
theorem dd_X5_isRow_55 : jd cX5_isRow 55 (.iload_n 3) 1 56 := ⟨by decide +kernel, rfl⟩
theorem dd_X5_isRow_56 : jd cX5_isRow 56 (.iconst 1) 1 57 := ⟨by decide +kernel, rfl⟩
theorem dd_X5_isRow_57 : jd cX5_isRow 57 (.aload_n 0) 1 58 := ⟨by decide +kernel, rfl⟩
theorem dd_X5_isRow_58 : jd cX5_isRow 58 (.getfield 63) 3 61 := ⟨by decide +kernel, rfl⟩
theorem dd_X5_isRow_61 : jd cX5_isRow 61 (.ishl) 1 62 := ⟨by decide +kernel, rfl⟩
theorem dd_X5_isRow_62 : jd cX5_isRow 62 (.iconst 1) 1 63 := ⟨by decide +kernel, rfl⟩
theorem dd_X5_isRow_63 : jd cX5_isRow 63 (.isub) 1 64 := ⟨by decide +kernel, rfl⟩
theorem dd_X5_isRow_71 : jd cX5_isRow 71 (.iconst 0) 1 72 := ⟨by decide +kernel, rfl⟩
theorem dd_X5_isRow_72 : jd cX5_isRow 72 (.ireturn) 1 73 := ⟨by decide +kernel, rfl⟩
theorem dd_X5_isRow_67 : jd cX5_isRow 67 (.iconst 1) 1 68 := ⟨by decide +kernel, rfl⟩
theorem dd_X5_isRow_68 : jd cX5_isRow 68 (.goto 4) 3 71 := ⟨by decide +kernel, rfl⟩
theorem dd_X5_isRow_64 : jd cX5_isRow 64 (.if_icmp .ne 7) 3 67 := ⟨by decide +kernel, rfl⟩
theorem m_X5_isRow : jmV yX5_isRow cX5_isRow 5 (some .boolean) 1 := ⟨⟨(jj_m (w := Cond.code yX5_isRow cX5_isRow 5 (some .boolean)) (List.mem_of_getElem? (i := 1149) (by decide +kernel)) rfl), (jj_m (w := Cond.initialized yX5_isRow.cls) (List.mem_of_getElem? (i := 69) (by decide +kernel)) rfl), ⟨by decide, by decide⟩, by decide +kernel⟩, (jj_m (w := Cond.instanceMethod yX5_isRow) (List.mem_of_getElem? (i := 1148) (by decide +kernel)) rfl), (jj_m (w := Cond.selects yX5_isRow.cls yX5_isRow yX5_isRow) (List.mem_of_getElem? (i := 53) (by decide +kernel)) rfl)⟩
def fX5_isRow_L12  (k55 : (Int32 × M2) → Option (Int32 × M2)) : Nat → Int32 → Int32 → Int32 → M2 → Option (Int32 × M2)
  | 0, _, _, _, _ => none
  | n_ + 1, v2, v3, v4, S5 =>
    if v4 < 0 then
      k55 (v3, S5)
    else
      if (S5 3 0) = 0 then none else
      bnd v4 5 <|
      lt (va_up S5 19 (upd (S5 19) v4.toNatClampNeg (v2 - v2 / (S5 3 0) * (S5 3 0)))) fun S6 =>
      if (S6 3 0) = 0 then none else
      lt ((v2 / (S6 3 0))) fun x7 =>
      bnd v4 5 <|
      lt ((v3 ||| ((1 : Int32) <<< ((S6 19 v4.toNatClampNeg) &&& 31)))) fun x8 =>
      lt (v4 + (-1 : Int32)) fun x9 =>
      fX5_isRow_L12 k55 n_ x7 x8 x9 S6

def fX5_isRow (i1 : Int32) (S : M2) : Option (Int32 × M2) :=
  lt (((S 3 0) - (1 : Int32))) fun x1 =>
  fX5_isRow_L12 
    (fun p11 =>
      if p11.1 = (((1 : Int32) <<< ((p11.2 3 0) &&& 31)) - (1 : Int32)) then
        some ((1 : Int32), p11.2)
      else
        some ((0 : Int32), p11.2))
    400 i1 (0 : Int32) x1 S

set_option maxHeartbeats 4000000 in
set_option maxRecDepth 100000 in
theorem tX5_isRow_L12 {V : JV M2} {b : Nat} {a : Nat → Nat} (hv : vX5 V b a)  {E : JE (M2) Int32} (hE : JOk V E cX5_isRow yX5_isRow.cls 5 0 (some .boolean) jj_i) {k55 : (Int32 × M2) → Option (Int32 × M2)} (hk55 : ∀ p, J V E (fun q => (q.1, q.2)) (k55 p) 55 [(0, .ref b), (3, .int p.1)] [] p.2) : ∀ (n_ : Nat) (v2 : Int32) (v3 : Int32) (v4 : Int32) (S5 : M2), J V E (fun q => (q.1, q.2)) (fX5_isRow_L12 k55 n_ v2 v3 v4 S5) 12 [(0, .ref b), (2, .int v2), (3, .int v3), (4, .int v4)] [] S5 := by
  intro n_
  induction n_ with
  | zero =>
    intros
    exact J_none
  | succ n_ ih =>
    intros v2 v3 v4 S5
    rw [fX5_isRow_L12]
    refine J_iload hE dd_X5_isRow_12 3 rfl ?_
    refine J_if_lt hE (tgt := 55) dd_X5_isRow_14 (by decide) (fun c10 => ?_) (fun c10 => ?_)
    · refine J_sub [0, 2] rfl ?_
      exact hk55 (v3, S5)
    · refine J_aload_n hE dd_X5_isRow_17 0 rfl rfl ?_
      refine J_get hE (hv.ob _) jc_X5 19 (by decide) fl_RX5_26 (v := .ref (a 19)) rfl dd_X5_isRow_18 ?_
      refine J_iload hE dd_X5_isRow_21 3 rfl ?_
      refine J_iload_n hE dd_X5_isRow_23 1 rfl rfl ?_
      refine J_aload_n hE dd_X5_isRow_24 0 rfl rfl ?_
      refine J_get hE (hv.ob _) jc_X5 3 (by decide) fl_RX5_63 (v := .int (S5 3 0)) rfl dd_X5_isRow_25 ?_
      refine J_irem hE dd_X5_isRow_28 (fun _ => ?_)
      refine J_ast hE hv 19 (N := 5) (by decide) dd_X5_isRow_29 ?_
      refine J_letS (fun S6 => ?_)
      refine J_iload_n hE dd_X5_isRow_30 1 rfl rfl ?_
      refine J_aload_n hE dd_X5_isRow_31 0 rfl rfl ?_
      refine J_get hE (hv.ob _) jc_X5 3 (by decide) fl_RX5_63 (v := .int (S6 3 0)) rfl dd_X5_isRow_32 ?_
      refine J_idiv hE dd_X5_isRow_35 (fun _ => ?_)
      refine J_leti (fun x7 => ?_)
      refine J_istore_n hE (L' := [(2, .int x7), (0, .ref b), (3, .int v3), (4, .int v4)]) dd_X5_isRow_36 (Nat.le_of_ble_eq_true rfl) rfl rfl ?_
      refine J_iload_n hE dd_X5_isRow_37 2 rfl rfl ?_
      refine J_iconst hE (v := (1 : Int32)) dd_X5_isRow_38 (by decide) ?_
      refine J_aload_n hE dd_X5_isRow_39 1 rfl rfl ?_
      refine J_get hE (hv.ob _) jc_X5 19 (by decide) fl_RX5_26 (v := .ref (a 19)) rfl dd_X5_isRow_40 ?_
      refine J_iload hE dd_X5_isRow_43 3 rfl ?_
      refine J_ald hE (hv.arr 19 (n := 5) (ty := .int) (by decide) _) dd_X5_isRow_45 ?_
      refine J_ishl hE dd_X5_isRow_46 ?_
      refine J_ior hE dd_X5_isRow_47 ?_
      refine J_leti (fun x8 => ?_)
      refine J_istore_n hE (L' := [(3, .int x8), (2, .int x7), (0, .ref b), (4, .int v4)]) dd_X5_isRow_48 (Nat.le_of_ble_eq_true rfl) rfl rfl ?_
      refine J_iincL hE (v := (v4 + (-1 : Int32))) (Lf := fun x9 => [(4, .int x9), (3, .int x8), (2, .int x7), (0, .ref b)]) dd_X5_isRow_49 (j := 3) rfl (congrArg (v4 + ·) (by decide)) (Nat.le_of_ble_eq_true rfl) (fun _ => rfl) (fun x9 => ?_)
      refine J_goto hE (tgt := 12) dd_X5_isRow_52 (by decide) ?_
      refine J_sub [3, 2, 1, 0] rfl ?_
      exact ih x7 x8 x9 S6
set_option maxHeartbeats 4000000 in
set_option maxRecDepth 100000 in
theorem tX5_isRow (l : Launch) {V : JV M2} {b : Nat} {a : Nat → Nat} (hv : vX5 V b a) (S : M2) (i1 : Int32) : JC l V yX5_isRow cX5_isRow 5 (some .boolean) jj_i 0 [.ref b, .int i1] S ((fX5_isRow i1 S).map (fun q => (q.1, q.2))) := by
  refine jj_of (by decide) (Nat.le_of_ble_eq_true rfl) (fun E hlE hE => ?_)
  unfold fX5_isRow
  refine J_sub (L' := [(0, .ref b), (1, .int i1)]) [0, 1] rfl ?_
  refine J_iload_n hE dd_X5_isRow_0 1 rfl rfl ?_
  refine J_istore_n hE (L' := [(2, .int i1), (0, .ref b), (1, .int i1)]) dd_X5_isRow_1 (Nat.le_of_ble_eq_true rfl) rfl rfl ?_
  refine J_iconst hE (v := (0 : Int32)) dd_X5_isRow_2 (by decide) ?_
  refine J_istore_n hE (L' := [(3, .int (0 : Int32)), (2, .int i1), (0, .ref b), (1, .int i1)]) dd_X5_isRow_3 (Nat.le_of_ble_eq_true rfl) rfl rfl ?_
  refine J_aload_n hE dd_X5_isRow_4 2 rfl rfl ?_
  refine J_get hE (hv.ob _) jc_X5 3 (by decide) fl_RX5_63 (v := .int (S 3 0)) rfl dd_X5_isRow_5 ?_
  refine J_iconst hE (v := (1 : Int32)) dd_X5_isRow_8 (by decide) ?_
  refine J_isub hE dd_X5_isRow_9 ?_
  refine J_leti (fun x1 => ?_)
  refine J_istore hE (L' := [(4, .int x1), (3, .int (0 : Int32)), (2, .int i1), (0, .ref b), (1, .int i1)]) dd_X5_isRow_10 (Nat.le_of_ble_eq_true rfl) rfl ?_
  refine J_sub [3, 2, 1, 0] rfl ?_
  refine tX5_isRow_L12 hv  hE (fun p11 => ?_) 400 i1 (0 : Int32) x1 S
  show J V E _ _ 55 [(0, .ref b), (3, .int p11.1)] [] p11.2
  refine J_iload_n hE dd_X5_isRow_55 1 rfl rfl ?_
  refine J_iconst hE (v := (1 : Int32)) dd_X5_isRow_56 (by decide) ?_
  refine J_aload_n hE dd_X5_isRow_57 0 rfl rfl ?_
  refine J_get hE (hv.ob _) jc_X5 3 (by decide) fl_RX5_63 (v := .int (p11.2 3 0)) rfl dd_X5_isRow_58 ?_
  refine J_ishl hE dd_X5_isRow_61 ?_
  refine J_iconst hE (v := (1 : Int32)) dd_X5_isRow_62 (by decide) ?_
  refine J_isub hE dd_X5_isRow_63 ?_
  refine J_icmp_ne hE (tgt := 71) dd_X5_isRow_64 (by decide) (fun c12 => ?_) (fun c12 => ?_)
  · refine J_iconst hE (v := (0 : Int32)) dd_X5_isRow_71 (by decide) ?_
    exact J_zret hE (Or.inl rfl) dd_X5_isRow_72 rfl rfl
  · refine J_iconst hE (v := (1 : Int32)) dd_X5_isRow_67 (by decide) ?_
    refine J_goto hE (tgt := 72) dd_X5_isRow_68 (by decide) ?_
    exact J_zret hE (Or.inr rfl) dd_X5_isRow_72 rfl rfl
theorem dd_X5_rows_0 : jd cX5_rows 0 (.iconst 1) 1 1 := ⟨by decide +kernel, rfl⟩
theorem dd_X5_rows_1 : jd cX5_rows 1 (.istore_n 1) 1 2 := ⟨by decide +kernel, rfl⟩
theorem dd_X5_rows_2 : jd cX5_rows 2 (.iconst 0) 1 3 := ⟨by decide +kernel, rfl⟩
theorem dd_X5_rows_3 : jd cX5_rows 3 (.istore_n 2) 1 4 := ⟨by decide +kernel, rfl⟩
theorem dd_X5_rows_4 : jd cX5_rows 4 (.iload_n 2) 1 5 := ⟨by decide +kernel, rfl⟩
theorem dd_X5_rows_5 : jd cX5_rows 5 (.aload_n 0) 1 6 := ⟨by decide +kernel, rfl⟩
theorem dd_X5_rows_6 : jd cX5_rows 6 (.getfield 63) 3 9 := ⟨by decide +kernel, rfl⟩
theorem dd_X5_rows_12 : jd cX5_rows 12 (.iload_n 1) 1 13 := ⟨by decide +kernel, rfl⟩
theorem dd_X5_rows_13 : jd cX5_rows 13 (.aload_n 0) 1 14 := ⟨by decide +kernel, rfl⟩
theorem dd_X5_rows_14 : jd cX5_rows 14 (.getfield 63) 3 17 := ⟨by decide +kernel, rfl⟩
theorem dd_X5_rows_17 : jd cX5_rows 17 (.imul) 1 18 := ⟨by decide +kernel, rfl⟩
theorem dd_X5_rows_18 : jd cX5_rows 18 (.istore_n 1) 1 19 := ⟨by decide +kernel, rfl⟩
theorem dd_X5_rows_19 : jd cX5_rows 19 (.iinc 2 1) 3 22 := ⟨by decide +kernel, rfl⟩
theorem dd_X5_rows_22 : jd cX5_rows 22 (.goto (-18)) 3 25 := ⟨by decide +kernel, rfl⟩
theorem dd_X5_rows_9 : jd cX5_rows 9 (.if_icmp .ge 16) 3 12 := ⟨by decide +kernel, rfl⟩
theorem dd_X5_rows_25 : jd cX5_rows 25 (.iload_n 1) 1 26 := ⟨by decide +kernel, rfl⟩
theorem dd_X5_rows_26 : jd cX5_rows 26 (.ireturn) 1 27 := ⟨by decide +kernel, rfl⟩
theorem m_X5_rows : jmV yX5_rows cX5_rows 3 (some .int) 0 := ⟨⟨(jj_m (w := Cond.code yX5_rows cX5_rows 3 (some .int)) (List.mem_of_getElem? (i := 1145) (by decide +kernel)) rfl), (jj_m (w := Cond.initialized yX5_rows.cls) (List.mem_of_getElem? (i := 69) (by decide +kernel)) rfl), ⟨by decide, by decide⟩, by decide +kernel⟩, (jj_m (w := Cond.instanceMethod yX5_rows) (List.mem_of_getElem? (i := 1144) (by decide +kernel)) rfl), (jj_m (w := Cond.selects yX5_rows.cls yX5_rows yX5_rows) (List.mem_of_getElem? (i := 52) (by decide +kernel)) rfl)⟩
def fX5_rows_L4 (S : M2) (k25 : Int32 → Option (Int32)) : Nat → Int32 → Int32 → Option (Int32)
  | 0, _, _ => none
  | n_ + 1, v1, v2 =>
    if (S 3 0) ≤ v2 then
      k25 v1
    else
      lt ((v1 * (S 3 0))) fun x3 =>
      lt (v2 + (1 : Int32)) fun x4 =>
      fX5_rows_L4 S k25 n_ x3 x4

def fX5_rows  (S : M2) : Option (Int32) :=
  fX5_rows_L4 S
    (fun p6 =>
      some p6)
    400 (1 : Int32) (0 : Int32)

set_option maxHeartbeats 4000000 in
set_option maxRecDepth 100000 in
theorem tX5_rows_L4 {V : JV M2} {b : Nat} {a : Nat → Nat} (hv : vX5 V b a) (S : M2) {E : JE (M2) Int32} (hE : JOk V E cX5_rows yX5_rows.cls 3 0 (some .int) jj_i) {k25 : Int32 → Option (Int32)} (hk25 : ∀ p, J V E (fun r => (r, S)) (k25 p) 25 [(1, .int p)] [] S) : ∀ (n_ : Nat) (v1 : Int32) (v2 : Int32), J V E (fun r => (r, S)) (fX5_rows_L4 S k25 n_ v1 v2) 4 [(0, .ref b), (1, .int v1), (2, .int v2)] [] S := by
  intro n_
  induction n_ with
  | zero =>
    intros
    exact J_none
  | succ n_ ih =>
    intros v1 v2
    rw [fX5_rows_L4]
    refine J_iload_n hE dd_X5_rows_4 2 rfl rfl ?_
    refine J_aload_n hE dd_X5_rows_5 0 rfl rfl ?_
    refine J_get hE (hv.ob _) jc_X5 3 (by decide) fl_RX5_63 (v := .int (S 3 0)) rfl dd_X5_rows_6 ?_
    refine J_icmp_ge hE (tgt := 25) dd_X5_rows_9 (by decide) (fun c5 => ?_) (fun c5 => ?_)
    · refine J_sub [1] rfl ?_
      exact hk25 v1
    · refine J_iload_n hE dd_X5_rows_12 1 rfl rfl ?_
      refine J_aload_n hE dd_X5_rows_13 0 rfl rfl ?_
      refine J_get hE (hv.ob _) jc_X5 3 (by decide) fl_RX5_63 (v := .int (S 3 0)) rfl dd_X5_rows_14 ?_
      refine J_imul hE dd_X5_rows_17 ?_
      refine J_leti (fun x3 => ?_)
      refine J_istore_n hE (L' := [(1, .int x3), (0, .ref b), (2, .int v2)]) dd_X5_rows_18 (Nat.le_of_ble_eq_true rfl) rfl rfl ?_
      refine J_iincL hE (v := (v2 + (1 : Int32))) (Lf := fun x4 => [(2, .int x4), (1, .int x3), (0, .ref b)]) dd_X5_rows_19 (j := 2) rfl (congrArg (v2 + ·) (by decide)) (Nat.le_of_ble_eq_true rfl) (fun _ => rfl) (fun x4 => ?_)
      refine J_goto hE (tgt := 4) dd_X5_rows_22 (by decide) ?_
      refine J_sub [2, 1, 0] rfl ?_
      exact ih x3 x4
set_option maxHeartbeats 4000000 in
set_option maxRecDepth 100000 in
theorem tX5_rows (l : Launch) {V : JV M2} {b : Nat} {a : Nat → Nat} (hv : vX5 V b a) (S : M2)  : JC l V yX5_rows cX5_rows 3 (some .int) jj_i 0 [.ref b] S ((fX5_rows  S).map (fun r => (r, S))) := by
  refine jj_of (by decide) (Nat.le_of_ble_eq_true rfl) (fun E hlE hE => ?_)
  unfold fX5_rows
  refine J_sub (L' := [(0, .ref b)]) [0] rfl ?_
  refine J_iconst hE (v := (1 : Int32)) dd_X5_rows_0 (by decide) ?_
  refine J_istore_n hE (L' := [(1, .int (1 : Int32)), (0, .ref b)]) dd_X5_rows_1 (Nat.le_of_ble_eq_true rfl) rfl rfl ?_
  refine J_iconst hE (v := (0 : Int32)) dd_X5_rows_2 (by decide) ?_
  refine J_istore_n hE (L' := [(2, .int (0 : Int32)), (1, .int (1 : Int32)), (0, .ref b)]) dd_X5_rows_3 (Nat.le_of_ble_eq_true rfl) rfl rfl ?_
  refine J_sub [2, 1, 0] rfl ?_
  refine tX5_rows_L4 hv S hE (fun p6 => ?_) 400 (1 : Int32) (0 : Int32)
  show J V E _ _ 25 [(1, .int p6)] [] S
  refine J_iload_n hE dd_X5_rows_25 0 rfl rfl ?_
  exact J_iret hE dd_X5_rows_26 rfl rfl
theorem dd_X5_cutsAt_0 : jd cX5_cutsAt 0 (.iconst 0) 1 1 := ⟨by decide +kernel, rfl⟩
theorem dd_X5_cutsAt_1 : jd cX5_cutsAt 1 (.istore_n 3) 1 2 := ⟨by decide +kernel, rfl⟩
theorem dd_X5_cutsAt_2 : jd cX5_cutsAt 2 (.iload_n 3) 1 3 := ⟨by decide +kernel, rfl⟩
theorem dd_X5_cutsAt_3 : jd cX5_cutsAt 3 (.aload_n 0) 1 4 := ⟨by decide +kernel, rfl⟩
theorem dd_X5_cutsAt_4 : jd cX5_cutsAt 4 (.getfield 63) 3 7 := ⟨by decide +kernel, rfl⟩
theorem dd_X5_cutsAt_10 : jd cX5_cutsAt 10 (.aload_n 0) 1 11 := ⟨by decide +kernel, rfl⟩
theorem dd_X5_cutsAt_11 : jd cX5_cutsAt 11 (.aload_n 0) 1 12 := ⟨by decide +kernel, rfl⟩
theorem dd_X5_cutsAt_12 : jd cX5_cutsAt 12 (.getfield 26) 3 15 := ⟨by decide +kernel, rfl⟩
theorem dd_X5_cutsAt_15 : jd cX5_cutsAt 15 (.iload_n 3) 1 16 := ⟨by decide +kernel, rfl⟩
theorem dd_X5_cutsAt_16 : jd cX5_cutsAt 16 (.iaload) 1 17 := ⟨by decide +kernel, rfl⟩
theorem dd_X5_cutsAt_17 : jd cX5_cutsAt 17 (.iconst 4) 1 18 := ⟨by decide +kernel, rfl⟩
theorem dd_X5_cutsAt_18 : jd cX5_cutsAt 18 (.iload_n 3) 1 19 := ⟨by decide +kernel, rfl⟩
theorem dd_X5_cutsAt_19 : jd cX5_cutsAt 19 (.iload_n 1) 1 20 := ⟨by decide +kernel, rfl⟩
theorem dd_X5_cutsAt_27 : jd cX5_cutsAt 27 (.iload_n 3) 1 28 := ⟨by decide +kernel, rfl⟩
theorem dd_X5_cutsAt_28 : jd cX5_cutsAt 28 (.iload_n 2) 1 29 := ⟨by decide +kernel, rfl⟩
theorem dd_X5_cutsAt_36 : jd cX5_cutsAt 36 (.iconst 2) 1 37 := ⟨by decide +kernel, rfl⟩
theorem dd_X5_cutsAt_32 : jd cX5_cutsAt 32 (.iconst 1) 1 33 := ⟨by decide +kernel, rfl⟩
theorem dd_X5_cutsAt_33 : jd cX5_cutsAt 33 (.goto 4) 3 36 := ⟨by decide +kernel, rfl⟩
theorem dd_X5_cutsAt_29 : jd cX5_cutsAt 29 (.if_icmp .ge 7) 3 32 := ⟨by decide +kernel, rfl⟩
theorem dd_X5_cutsAt_23 : jd cX5_cutsAt 23 (.iconst 0) 1 24 := ⟨by decide +kernel, rfl⟩
theorem dd_X5_cutsAt_24 : jd cX5_cutsAt 24 (.goto 13) 3 27 := ⟨by decide +kernel, rfl⟩
theorem dd_X5_cutsAt_20 : jd cX5_cutsAt 20 (.if_icmp .ge 7) 3 23 := ⟨by decide +kernel, rfl⟩
theorem dd_X5_cutsAt_37 : jd cX5_cutsAt 37 (.invokevirtual 176) 3 40 := ⟨by decide +kernel, rfl⟩
theorem dd_X5_cutsAt_40 : jd cX5_cutsAt 40 (.aload_n 0) 1 41 := ⟨by decide +kernel, rfl⟩
theorem dd_X5_cutsAt_41 : jd cX5_cutsAt 41 (.aload_n 0) 1 42 := ⟨by decide +kernel, rfl⟩
theorem dd_X5_cutsAt_42 : jd cX5_cutsAt 42 (.getfield 26) 3 45 := ⟨by decide +kernel, rfl⟩
theorem dd_X5_cutsAt_45 : jd cX5_cutsAt 45 (.iload_n 3) 1 46 := ⟨by decide +kernel, rfl⟩
theorem dd_X5_cutsAt_46 : jd cX5_cutsAt 46 (.iaload) 1 47 := ⟨by decide +kernel, rfl⟩
theorem dd_X5_cutsAt_47 : jd cX5_cutsAt 47 (.iconst 5) 1 48 := ⟨by decide +kernel, rfl⟩
theorem dd_X5_cutsAt_48 : jd cX5_cutsAt 48 (.iload_n 3) 1 49 := ⟨by decide +kernel, rfl⟩
theorem dd_X5_cutsAt_49 : jd cX5_cutsAt 49 (.iload_n 1) 1 50 := ⟨by decide +kernel, rfl⟩
theorem dd_X5_cutsAt_57 : jd cX5_cutsAt 57 (.iload_n 3) 1 58 := ⟨by decide +kernel, rfl⟩
theorem dd_X5_cutsAt_58 : jd cX5_cutsAt 58 (.iload_n 2) 1 59 := ⟨by decide +kernel, rfl⟩
theorem dd_X5_cutsAt_68 : jd cX5_cutsAt 68 (.iload_n 3) 1 69 := ⟨by decide +kernel, rfl⟩
theorem dd_X5_cutsAt_69 : jd cX5_cutsAt 69 (.iload_n 2) 1 70 := ⟨by decide +kernel, rfl⟩
theorem dd_X5_cutsAt_70 : jd cX5_cutsAt 70 (.isub) 1 71 := ⟨by decide +kernel, rfl⟩
theorem dd_X5_cutsAt_62 : jd cX5_cutsAt 62 (.iload_n 3) 1 63 := ⟨by decide +kernel, rfl⟩
theorem dd_X5_cutsAt_63 : jd cX5_cutsAt 63 (.iload_n 1) 1 64 := ⟨by decide +kernel, rfl⟩
theorem dd_X5_cutsAt_64 : jd cX5_cutsAt 64 (.isub) 1 65 := ⟨by decide +kernel, rfl⟩
theorem dd_X5_cutsAt_65 : jd cX5_cutsAt 65 (.goto 6) 3 68 := ⟨by decide +kernel, rfl⟩
theorem dd_X5_cutsAt_59 : jd cX5_cutsAt 59 (.if_icmp .ge 9) 3 62 := ⟨by decide +kernel, rfl⟩
theorem dd_X5_cutsAt_53 : jd cX5_cutsAt 53 (.iload_n 3) 1 54 := ⟨by decide +kernel, rfl⟩
theorem dd_X5_cutsAt_54 : jd cX5_cutsAt 54 (.goto 17) 3 57 := ⟨by decide +kernel, rfl⟩
theorem dd_X5_cutsAt_50 : jd cX5_cutsAt 50 (.if_icmp .ge 7) 3 53 := ⟨by decide +kernel, rfl⟩
theorem dd_X5_cutsAt_71 : jd cX5_cutsAt 71 (.invokevirtual 176) 3 74 := ⟨by decide +kernel, rfl⟩
theorem dd_X5_cutsAt_74 : jd cX5_cutsAt 74 (.iinc 3 1) 3 77 := ⟨by decide +kernel, rfl⟩
theorem dd_X5_cutsAt_77 : jd cX5_cutsAt 77 (.goto (-75)) 3 80 := ⟨by decide +kernel, rfl⟩
theorem dd_X5_cutsAt_7 : jd cX5_cutsAt 7 (.if_icmp .ge 73) 3 10 := ⟨by decide +kernel, rfl⟩
theorem dd_X5_cutsAt_80 : jd cX5_cutsAt 80 (.return_) 1 81 := ⟨by decide +kernel, rfl⟩
theorem m_X5_cutsAt : jmV yX5_cutsAt cX5_cutsAt 4 none 2 := ⟨⟨(jj_m (w := Cond.code yX5_cutsAt cX5_cutsAt 4 none) (List.mem_of_getElem? (i := 1153) (by decide +kernel)) rfl), (jj_m (w := Cond.initialized yX5_cutsAt.cls) (List.mem_of_getElem? (i := 69) (by decide +kernel)) rfl), ⟨by decide, by decide⟩, by decide +kernel⟩, (jj_m (w := Cond.instanceMethod yX5_cutsAt) (List.mem_of_getElem? (i := 1152) (by decide +kernel)) rfl), (jj_m (w := Cond.selects yX5_cutsAt.cls yX5_cutsAt yX5_cutsAt) (List.mem_of_getElem? (i := 54) (by decide +kernel)) rfl)⟩
def fX5_cutsAt_L2 (i1 : Int32) (i2 : Int32) (k80 : M2 → Option (M2)) : Nat → Int32 → M2 → Option (M2)
  | 0, _, _ => none
  | n_ + 1, v1, S2 =>
    if (S2 3 0) ≤ v1 then
      k80 S2
    else
      bnd v1 5 <|
      jn (α := Option (M2)) (β := Int32) (fun j3 =>
        if i1 ≤ v1 then
          if i2 ≤ v1 then
            j3 (2 : Int32)
          else
            j3 (1 : Int32)
        else
          j3 (0 : Int32)) (fun p6 => 
        (fX5_becomesOf (S2 19 v1.toNatClampNeg) (4 : Int32) p6 S2).bind fun q7 =>
        lt (q7) fun S8 =>
        bnd v1 5 <|
        jn (α := Option (M2)) (β := Int32) (fun j9 =>
          if i1 ≤ v1 then
            if i2 ≤ v1 then
              j9 (v1 - i2)
            else
              j9 (v1 - i1)
          else
            j9 v1) (fun p12 => 
          (fX5_becomesOf (S8 19 v1.toNatClampNeg) (5 : Int32) p12 S8).bind fun q13 =>
          lt (q13) fun S14 =>
          lt (v1 + (1 : Int32)) fun x15 =>
          fX5_cutsAt_L2 i1 i2 k80 n_ x15 S14))

def fX5_cutsAt (i1 : Int32) (i2 : Int32) (S : M2) : Option (M2) :=
  fX5_cutsAt_L2 i1 i2
    (fun p17 =>
      some p17)
    400 (0 : Int32) S

set_option maxHeartbeats 4000000 in
set_option maxRecDepth 100000 in
theorem tX5_cutsAt_L2 {V : JV M2} {b : Nat} {a : Nat → Nat} (hv : vX5 V b a) (i1 : Int32) (i2 : Int32) {E : JE (M2) Unit} (hE : JOk V E cX5_cutsAt yX5_cutsAt.cls 4 1 none jj_v) {k80 : M2 → Option (M2)} (hk80 : ∀ p, J V E (fun q => ((), q)) (k80 p) 80 [] [] p) : ∀ (n_ : Nat) (v1 : Int32) (S2 : M2), J V E (fun q => ((), q)) (fX5_cutsAt_L2 i1 i2 k80 n_ v1 S2) 2 [(0, .ref b), (1, .int i1), (2, .int i2), (3, .int v1)] [] S2 := by
  intro n_
  induction n_ with
  | zero =>
    intros
    exact J_none
  | succ n_ ih =>
    intros v1 S2
    rw [fX5_cutsAt_L2]
    refine J_iload_n hE dd_X5_cutsAt_2 3 rfl rfl ?_
    refine J_aload_n hE dd_X5_cutsAt_3 0 rfl rfl ?_
    refine J_get hE (hv.ob _) jc_X5 3 (by decide) fl_RX5_63 (v := .int (S2 3 0)) rfl dd_X5_cutsAt_4 ?_
    refine J_icmp_ge hE (tgt := 80) dd_X5_cutsAt_7 (by decide) (fun c16 => ?_) (fun c16 => ?_)
    · refine J_sub [] rfl ?_
      exact hk80 S2
    · refine J_aload_n hE dd_X5_cutsAt_10 0 rfl rfl ?_
      refine J_aload_n hE dd_X5_cutsAt_11 0 rfl rfl ?_
      refine J_get hE (hv.ob _) jc_X5 19 (by decide) fl_RX5_26 (v := .ref (a 19)) rfl dd_X5_cutsAt_12 ?_
      refine J_iload_n hE dd_X5_cutsAt_15 3 rfl rfl ?_
      refine J_ald hE (hv.arr 19 (n := 5) (ty := .int) (by decide) _) dd_X5_cutsAt_16 ?_
      refine J_iconst hE (v := (4 : Int32)) dd_X5_cutsAt_17 (by decide) ?_
      refine J_iload_n hE dd_X5_cutsAt_18 3 rfl rfl ?_
      refine J_iload_n hE dd_X5_cutsAt_19 1 rfl rfl ?_
      refine J_jn (m := 37) (Lf := fun p6 => [(0, .ref b), (1, .int i1), (2, .int i2), (3, .int v1)]) (sf := fun p6 => [.int p6, .int (4 : Int32), .int (S2 19 v1.toNatClampNeg), .ref b]) (Xf := fun p6 => S2) (fun p6 => ?_) (fun hj3 => ?_)
      · show J V E _ _ 37 [(0, .ref b), (1, .int i1), (2, .int i2), (3, .int v1)] [.int p6, .int (4 : Int32), .int (S2 19 v1.toNatClampNeg), .ref b] S2
        refine J_invVwv hE (e := fun x => x) (As := [.int (S2 19 v1.toNatClampNeg), .int (4 : Int32), .int p6]) (st := []) (tX5_becomesOf E.2.1 hv S2 (S2 19 v1.toNatClampNeg) (4 : Int32) p6) (hv.ob _) m_X5_becomesOf rfl ml_RX5_176 (Nat.le_of_ble_eq_true rfl) (Nat.le_of_ble_eq_true rfl) rfl (Nat.le_of_ble_eq_true rfl) dd_X5_cutsAt_37 (fun q7 => ?_)
        refine J_letS (fun S8 => ?_)
        refine J_aload_n hE dd_X5_cutsAt_40 0 rfl rfl ?_
        refine J_aload_n hE dd_X5_cutsAt_41 0 rfl rfl ?_
        refine J_get hE (hv.ob _) jc_X5 19 (by decide) fl_RX5_26 (v := .ref (a 19)) rfl dd_X5_cutsAt_42 ?_
        refine J_iload_n hE dd_X5_cutsAt_45 3 rfl rfl ?_
        refine J_ald hE (hv.arr 19 (n := 5) (ty := .int) (by decide) _) dd_X5_cutsAt_46 ?_
        refine J_iconst hE (v := (5 : Int32)) dd_X5_cutsAt_47 (by decide) ?_
        refine J_iload_n hE dd_X5_cutsAt_48 3 rfl rfl ?_
        refine J_iload_n hE dd_X5_cutsAt_49 1 rfl rfl ?_
        refine J_jn (m := 71) (Lf := fun p12 => [(0, .ref b), (1, .int i1), (2, .int i2), (3, .int v1)]) (sf := fun p12 => [.int p12, .int (5 : Int32), .int (S8 19 v1.toNatClampNeg), .ref b]) (Xf := fun p12 => S8) (fun p12 => ?_) (fun hj9 => ?_)
        · show J V E _ _ 71 [(0, .ref b), (1, .int i1), (2, .int i2), (3, .int v1)] [.int p12, .int (5 : Int32), .int (S8 19 v1.toNatClampNeg), .ref b] S8
          refine J_invVwv hE (e := fun x => x) (As := [.int (S8 19 v1.toNatClampNeg), .int (5 : Int32), .int p12]) (st := []) (tX5_becomesOf E.2.1 hv S8 (S8 19 v1.toNatClampNeg) (5 : Int32) p12) (hv.ob _) m_X5_becomesOf rfl ml_RX5_176 (Nat.le_of_ble_eq_true rfl) (Nat.le_of_ble_eq_true rfl) rfl (Nat.le_of_ble_eq_true rfl) dd_X5_cutsAt_71 (fun q13 => ?_)
          refine J_letS (fun S14 => ?_)
          refine J_iincL hE (v := (v1 + (1 : Int32))) (Lf := fun x15 => [(3, .int x15), (0, .ref b), (1, .int i1), (2, .int i2)]) dd_X5_cutsAt_74 (j := 3) rfl (congrArg (v1 + ·) (by decide)) (Nat.le_of_ble_eq_true rfl) (fun _ => rfl) (fun x15 => ?_)
          refine J_goto hE (tgt := 2) dd_X5_cutsAt_77 (by decide) ?_
          refine J_sub [1, 2, 3, 0] rfl ?_
          exact ih x15 S14
        · refine J_icmp_ge hE (tgt := 57) dd_X5_cutsAt_50 (by decide) (fun c11 => ?_) (fun c11 => ?_)
          · refine J_iload_n hE dd_X5_cutsAt_57 3 rfl rfl ?_
            refine J_iload_n hE dd_X5_cutsAt_58 2 rfl rfl ?_
            refine J_icmp_ge hE (tgt := 68) dd_X5_cutsAt_59 (by decide) (fun c10 => ?_) (fun c10 => ?_)
            · refine J_iload_n hE dd_X5_cutsAt_68 3 rfl rfl ?_
              refine J_iload_n hE dd_X5_cutsAt_69 2 rfl rfl ?_
              refine J_isub hE dd_X5_cutsAt_70 ?_
              refine J_sub [0, 1, 2, 3] rfl ?_
              exact hj9 (v1 - i2)
            · refine J_iload_n hE dd_X5_cutsAt_62 3 rfl rfl ?_
              refine J_iload_n hE dd_X5_cutsAt_63 1 rfl rfl ?_
              refine J_isub hE dd_X5_cutsAt_64 ?_
              refine J_goto hE (tgt := 71) dd_X5_cutsAt_65 (by decide) ?_
              refine J_sub [0, 1, 2, 3] rfl ?_
              exact hj9 (v1 - i1)
          · refine J_iload_n hE dd_X5_cutsAt_53 3 rfl rfl ?_
            refine J_goto hE (tgt := 71) dd_X5_cutsAt_54 (by decide) ?_
            refine J_sub [0, 1, 2, 3] rfl ?_
            exact hj9 v1
      · refine J_icmp_ge hE (tgt := 27) dd_X5_cutsAt_20 (by decide) (fun c5 => ?_) (fun c5 => ?_)
        · refine J_iload_n hE dd_X5_cutsAt_27 3 rfl rfl ?_
          refine J_iload_n hE dd_X5_cutsAt_28 2 rfl rfl ?_
          refine J_icmp_ge hE (tgt := 36) dd_X5_cutsAt_29 (by decide) (fun c4 => ?_) (fun c4 => ?_)
          · refine J_iconst hE (v := (2 : Int32)) dd_X5_cutsAt_36 (by decide) ?_
            refine J_sub [0, 1, 2, 3] rfl ?_
            exact hj3 (2 : Int32)
          · refine J_iconst hE (v := (1 : Int32)) dd_X5_cutsAt_32 (by decide) ?_
            refine J_goto hE (tgt := 37) dd_X5_cutsAt_33 (by decide) ?_
            refine J_sub [0, 1, 2, 3] rfl ?_
            exact hj3 (1 : Int32)
        · refine J_iconst hE (v := (0 : Int32)) dd_X5_cutsAt_23 (by decide) ?_
          refine J_goto hE (tgt := 37) dd_X5_cutsAt_24 (by decide) ?_
          refine J_sub [0, 1, 2, 3] rfl ?_
          exact hj3 (0 : Int32)
set_option maxHeartbeats 4000000 in
set_option maxRecDepth 100000 in
theorem tX5_cutsAt (l : Launch) {V : JV M2} {b : Nat} {a : Nat → Nat} (hv : vX5 V b a) (S : M2) (i1 : Int32) (i2 : Int32) : JC l V yX5_cutsAt cX5_cutsAt 4 none jj_v 1 [.ref b, .int i1, .int i2] S ((fX5_cutsAt i1 i2 S).map (fun q => ((), q))) := by
  refine jj_of (by decide) (Nat.le_of_ble_eq_true rfl) (fun E hlE hE => ?_)
  unfold fX5_cutsAt
  refine J_sub (L' := [(0, .ref b), (1, .int i1), (2, .int i2)]) [0, 1, 2] rfl ?_
  refine J_iconst hE (v := (0 : Int32)) dd_X5_cutsAt_0 (by decide) ?_
  refine J_istore_n hE (L' := [(3, .int (0 : Int32)), (0, .ref b), (1, .int i1), (2, .int i2)]) dd_X5_cutsAt_1 (Nat.le_of_ble_eq_true rfl) rfl rfl ?_
  refine J_sub [1, 2, 3, 0] rfl ?_
  refine tX5_cutsAt_L2 hv i1 i2 hE (fun p17 => ?_) 400 (0 : Int32) S
  show J V E _ _ 80 [] [] p17
  exact J_vret hE dd_X5_cutsAt_80 rfl rfl
theorem dd_X5_placesNow_0 : jd cX5_placesNow 0 (.iconst 0) 1 1 := ⟨by decide +kernel, rfl⟩
theorem dd_X5_placesNow_1 : jd cX5_placesNow 1 (.istore_n 1) 1 2 := ⟨by decide +kernel, rfl⟩
theorem dd_X5_placesNow_2 : jd cX5_placesNow 2 (.iconst 0) 1 3 := ⟨by decide +kernel, rfl⟩
theorem dd_X5_placesNow_3 : jd cX5_placesNow 3 (.istore_n 2) 1 4 := ⟨by decide +kernel, rfl⟩
theorem dd_X5_placesNow_4 : jd cX5_placesNow 4 (.iload_n 2) 1 5 := ⟨by decide +kernel, rfl⟩
theorem dd_X5_placesNow_5 : jd cX5_placesNow 5 (.aload_n 0) 1 6 := ⟨by decide +kernel, rfl⟩
theorem dd_X5_placesNow_6 : jd cX5_placesNow 6 (.getfield 63) 3 9 := ⟨by decide +kernel, rfl⟩
theorem dd_X5_placesNow_12 : jd cX5_placesNow 12 (.bipush 30) 2 14 := ⟨by decide +kernel, rfl⟩
theorem dd_X5_placesNow_14 : jd cX5_placesNow 14 (.iload_n 1) 1 15 := ⟨by decide +kernel, rfl⟩
theorem dd_X5_placesNow_15 : jd cX5_placesNow 15 (.imul) 1 16 := ⟨by decide +kernel, rfl⟩
theorem dd_X5_placesNow_16 : jd cX5_placesNow 16 (.bipush 10) 2 18 := ⟨by decide +kernel, rfl⟩
theorem dd_X5_placesNow_18 : jd cX5_placesNow 18 (.aload_n 0) 1 19 := ⟨by decide +kernel, rfl⟩
theorem dd_X5_placesNow_19 : jd cX5_placesNow 19 (.iload_n 2) 1 20 := ⟨by decide +kernel, rfl⟩
theorem dd_X5_placesNow_20 : jd cX5_placesNow 20 (.iconst 4) 1 21 := ⟨by decide +kernel, rfl⟩
theorem dd_X5_placesNow_21 : jd cX5_placesNow 21 (.invokevirtual 155) 3 24 := ⟨by decide +kernel, rfl⟩
theorem dd_X5_placesNow_24 : jd cX5_placesNow 24 (.imul) 1 25 := ⟨by decide +kernel, rfl⟩
theorem dd_X5_placesNow_25 : jd cX5_placesNow 25 (.iadd) 1 26 := ⟨by decide +kernel, rfl⟩
theorem dd_X5_placesNow_26 : jd cX5_placesNow 26 (.aload_n 0) 1 27 := ⟨by decide +kernel, rfl⟩
theorem dd_X5_placesNow_27 : jd cX5_placesNow 27 (.iload_n 2) 1 28 := ⟨by decide +kernel, rfl⟩
theorem dd_X5_placesNow_28 : jd cX5_placesNow 28 (.iconst 5) 1 29 := ⟨by decide +kernel, rfl⟩
theorem dd_X5_placesNow_29 : jd cX5_placesNow 29 (.invokevirtual 155) 3 32 := ⟨by decide +kernel, rfl⟩
theorem dd_X5_placesNow_32 : jd cX5_placesNow 32 (.iadd) 1 33 := ⟨by decide +kernel, rfl⟩
theorem dd_X5_placesNow_33 : jd cX5_placesNow 33 (.istore_n 1) 1 34 := ⟨by decide +kernel, rfl⟩
theorem dd_X5_placesNow_34 : jd cX5_placesNow 34 (.iinc 2 1) 3 37 := ⟨by decide +kernel, rfl⟩
theorem dd_X5_placesNow_37 : jd cX5_placesNow 37 (.goto (-33)) 3 40 := ⟨by decide +kernel, rfl⟩
theorem dd_X5_placesNow_9 : jd cX5_placesNow 9 (.if_icmp .ge 31) 3 12 := ⟨by decide +kernel, rfl⟩
theorem dd_X5_placesNow_40 : jd cX5_placesNow 40 (.iload_n 1) 1 41 := ⟨by decide +kernel, rfl⟩
theorem dd_X5_placesNow_41 : jd cX5_placesNow 41 (.ireturn) 1 42 := ⟨by decide +kernel, rfl⟩
theorem m_X5_placesNow : jmV yX5_placesNow cX5_placesNow 3 (some .int) 0 := ⟨⟨(jj_m (w := Cond.code yX5_placesNow cX5_placesNow 3 (some .int)) (List.mem_of_getElem? (i := 1157) (by decide +kernel)) rfl), (jj_m (w := Cond.initialized yX5_placesNow.cls) (List.mem_of_getElem? (i := 69) (by decide +kernel)) rfl), ⟨by decide, by decide⟩, by decide +kernel⟩, (jj_m (w := Cond.instanceMethod yX5_placesNow) (List.mem_of_getElem? (i := 1156) (by decide +kernel)) rfl), (jj_m (w := Cond.selects yX5_placesNow.cls yX5_placesNow yX5_placesNow) (List.mem_of_getElem? (i := 55) (by decide +kernel)) rfl)⟩
def fX5_placesNow_L4 (S : M2) (k40 : Int32 → Option (Int32)) : Nat → Int32 → Int32 → Option (Int32)
  | 0, _, _ => none
  | n_ + 1, v1, v2 =>
    if (S 3 0) ≤ v2 then
      k40 v1
    else
      (fX5_of v2 (4 : Int32) S).bind fun r3 =>
      (fX5_of v2 (5 : Int32) S).bind fun r4 =>
      lt (((((30 : Int32) * v1) + ((10 : Int32) * r3)) + r4)) fun x5 =>
      lt (v2 + (1 : Int32)) fun x6 =>
      fX5_placesNow_L4 S k40 n_ x5 x6

def fX5_placesNow  (S : M2) : Option (Int32) :=
  fX5_placesNow_L4 S
    (fun p8 =>
      some p8)
    400 (0 : Int32) (0 : Int32)

set_option maxHeartbeats 4000000 in
set_option maxRecDepth 100000 in
theorem tX5_placesNow_L4 {V : JV M2} {b : Nat} {a : Nat → Nat} (hv : vX5 V b a) (S : M2) {E : JE (M2) Int32} (hE : JOk V E cX5_placesNow yX5_placesNow.cls 3 1 (some .int) jj_i) {k40 : Int32 → Option (Int32)} (hk40 : ∀ p, J V E (fun r => (r, S)) (k40 p) 40 [(1, .int p)] [] S) : ∀ (n_ : Nat) (v1 : Int32) (v2 : Int32), J V E (fun r => (r, S)) (fX5_placesNow_L4 S k40 n_ v1 v2) 4 [(0, .ref b), (1, .int v1), (2, .int v2)] [] S := by
  intro n_
  induction n_ with
  | zero =>
    intros
    exact J_none
  | succ n_ ih =>
    intros v1 v2
    rw [fX5_placesNow_L4]
    refine J_iload_n hE dd_X5_placesNow_4 2 rfl rfl ?_
    refine J_aload_n hE dd_X5_placesNow_5 0 rfl rfl ?_
    refine J_get hE (hv.ob _) jc_X5 3 (by decide) fl_RX5_63 (v := .int (S 3 0)) rfl dd_X5_placesNow_6 ?_
    refine J_icmp_ge hE (tgt := 40) dd_X5_placesNow_9 (by decide) (fun c7 => ?_) (fun c7 => ?_)
    · refine J_sub [1] rfl ?_
      exact hk40 v1
    · refine J_bipush hE (v := (30 : Int32)) dd_X5_placesNow_12 (by decide) ?_
      refine J_iload_n hE dd_X5_placesNow_14 1 rfl rfl ?_
      refine J_imul hE dd_X5_placesNow_15 ?_
      refine J_bipush hE (v := (10 : Int32)) dd_X5_placesNow_16 (by decide) ?_
      refine J_aload_n hE dd_X5_placesNow_18 0 rfl rfl ?_
      refine J_iload_n hE dd_X5_placesNow_19 2 rfl rfl ?_
      refine J_iconst hE (v := (4 : Int32)) dd_X5_placesNow_20 (by decide) ?_
      refine J_invVri hE (As := [.int v2, .int (4 : Int32)]) (st := [.int (10 : Int32), .int ((30 : Int32) * v1)]) (tX5_of E.2.1 hv S v2 (4 : Int32)) (hv.ob _) m_X5_of rfl ml_RX5_155 (Nat.le_of_ble_eq_true rfl) (Nat.le_of_ble_eq_true rfl) rfl (Nat.le_of_ble_eq_true rfl) dd_X5_placesNow_21 (fun r3 => ?_)
      refine J_imul hE dd_X5_placesNow_24 ?_
      refine J_iadd hE dd_X5_placesNow_25 ?_
      refine J_aload_n hE dd_X5_placesNow_26 0 rfl rfl ?_
      refine J_iload_n hE dd_X5_placesNow_27 2 rfl rfl ?_
      refine J_iconst hE (v := (5 : Int32)) dd_X5_placesNow_28 (by decide) ?_
      refine J_invVri hE (As := [.int v2, .int (5 : Int32)]) (st := [.int (((30 : Int32) * v1) + ((10 : Int32) * r3))]) (tX5_of E.2.1 hv S v2 (5 : Int32)) (hv.ob _) m_X5_of rfl ml_RX5_155 (Nat.le_of_ble_eq_true rfl) (Nat.le_of_ble_eq_true rfl) rfl (Nat.le_of_ble_eq_true rfl) dd_X5_placesNow_29 (fun r4 => ?_)
      refine J_iadd hE dd_X5_placesNow_32 ?_
      refine J_leti (fun x5 => ?_)
      refine J_istore_n hE (L' := [(1, .int x5), (0, .ref b), (2, .int v2)]) dd_X5_placesNow_33 (Nat.le_of_ble_eq_true rfl) rfl rfl ?_
      refine J_iincL hE (v := (v2 + (1 : Int32))) (Lf := fun x6 => [(2, .int x6), (1, .int x5), (0, .ref b)]) dd_X5_placesNow_34 (j := 2) rfl (congrArg (v2 + ·) (by decide)) (Nat.le_of_ble_eq_true rfl) (fun _ => rfl) (fun x6 => ?_)
      refine J_goto hE (tgt := 4) dd_X5_placesNow_37 (by decide) ?_
      refine J_sub [2, 1, 0] rfl ?_
      exact ih x5 x6
set_option maxHeartbeats 4000000 in
set_option maxRecDepth 100000 in
theorem tX5_placesNow (l : Launch) {V : JV M2} {b : Nat} {a : Nat → Nat} (hv : vX5 V b a) (S : M2)  : JC l V yX5_placesNow cX5_placesNow 3 (some .int) jj_i 1 [.ref b] S ((fX5_placesNow  S).map (fun r => (r, S))) := by
  refine jj_of (by decide) (Nat.le_of_ble_eq_true rfl) (fun E hlE hE => ?_)
  unfold fX5_placesNow
  refine J_sub (L' := [(0, .ref b)]) [0] rfl ?_
  refine J_iconst hE (v := (0 : Int32)) dd_X5_placesNow_0 (by decide) ?_
  refine J_istore_n hE (L' := [(1, .int (0 : Int32)), (0, .ref b)]) dd_X5_placesNow_1 (Nat.le_of_ble_eq_true rfl) rfl rfl ?_
  refine J_iconst hE (v := (0 : Int32)) dd_X5_placesNow_2 (by decide) ?_
  refine J_istore_n hE (L' := [(2, .int (0 : Int32)), (1, .int (0 : Int32)), (0, .ref b)]) dd_X5_placesNow_3 (Nat.le_of_ble_eq_true rfl) rfl rfl ?_
  refine J_sub [2, 1, 0] rfl ?_
  refine tX5_placesNow_L4 hv S hE (fun p8 => ?_) 400 (0 : Int32) (0 : Int32)
  show J V E _ _ 40 [(1, .int p8)] [] S
  refine J_iload_n hE dd_X5_placesNow_40 0 rfl rfl ?_
  exact J_iret hE dd_X5_placesNow_41 rfl rfl
theorem dd_X5_placeIn_0 : jd cX5_placeIn 0 (.iload_n 1) 1 1 := ⟨by decide +kernel, rfl⟩
theorem dd_X5_placeIn_1 : jd cX5_placeIn 1 (.istore_n 3) 1 2 := ⟨by decide +kernel, rfl⟩
theorem dd_X5_placeIn_2 : jd cX5_placeIn 2 (.aload_n 0) 1 3 := ⟨by decide +kernel, rfl⟩
theorem dd_X5_placeIn_3 : jd cX5_placeIn 3 (.getfield 63) 3 6 := ⟨by decide +kernel, rfl⟩
theorem dd_X5_placeIn_6 : jd cX5_placeIn 6 (.iconst 1) 1 7 := ⟨by decide +kernel, rfl⟩
theorem dd_X5_placeIn_7 : jd cX5_placeIn 7 (.isub) 1 8 := ⟨by decide +kernel, rfl⟩
theorem dd_X5_placeIn_8 : jd cX5_placeIn 8 (.istore 4) 2 10 := ⟨by decide +kernel, rfl⟩
theorem dd_X5_placeIn_10 : jd cX5_placeIn 10 (.iload 4) 2 12 := ⟨by decide +kernel, rfl⟩
theorem dd_X5_placeIn_12 : jd cX5_placeIn 12 (.iload_n 2) 1 13 := ⟨by decide +kernel, rfl⟩
theorem dd_X5_placeIn_16 : jd cX5_placeIn 16 (.iload_n 3) 1 17 := ⟨by decide +kernel, rfl⟩
theorem dd_X5_placeIn_17 : jd cX5_placeIn 17 (.bipush 30) 2 19 := ⟨by decide +kernel, rfl⟩
theorem dd_X5_placeIn_19 : jd cX5_placeIn 19 (.idiv) 1 20 := ⟨by decide +kernel, rfl⟩
theorem dd_X5_placeIn_20 : jd cX5_placeIn 20 (.istore_n 3) 1 21 := ⟨by decide +kernel, rfl⟩
theorem dd_X5_placeIn_21 : jd cX5_placeIn 21 (.iinc 4 (-1)) 3 24 := ⟨by decide +kernel, rfl⟩
theorem dd_X5_placeIn_24 : jd cX5_placeIn 24 (.goto (-14)) 3 27 := ⟨by decide +kernel, rfl⟩
theorem dd_X5_placeIn_13 : jd cX5_placeIn 13 (.if_icmp .le 14) 3 16 := ⟨by decide +kernel, rfl⟩
theorem dd_X5_placeIn_27 : jd cX5_placeIn 27 (.iload_n 3) 1 28 := ⟨by decide +kernel, rfl⟩
theorem dd_X5_placeIn_28 : jd cX5_placeIn 28 (.bipush 30) 2 30 := ⟨by decide +kernel, rfl⟩
theorem dd_X5_placeIn_30 : jd cX5_placeIn 30 (.irem) 1 31 := ⟨by decide +kernel, rfl⟩
theorem dd_X5_placeIn_31 : jd cX5_placeIn 31 (.ireturn) 1 32 := ⟨by decide +kernel, rfl⟩
theorem m_X5_placeIn : jmV yX5_placeIn cX5_placeIn 5 (some .int) 2 := ⟨⟨(jj_m (w := Cond.code yX5_placeIn cX5_placeIn 5 (some .int)) (List.mem_of_getElem? (i := 1165) (by decide +kernel)) rfl), (jj_m (w := Cond.initialized yX5_placeIn.cls) (List.mem_of_getElem? (i := 69) (by decide +kernel)) rfl), ⟨by decide, by decide⟩, by decide +kernel⟩, (jj_m (w := Cond.instanceMethod yX5_placeIn) (List.mem_of_getElem? (i := 1164) (by decide +kernel)) rfl), (jj_m (w := Cond.selects yX5_placeIn.cls yX5_placeIn yX5_placeIn) (List.mem_of_getElem? (i := 57) (by decide +kernel)) rfl)⟩
def fX5_placeIn_L10 (S : M2) (i2 : Int32) (k27 : Int32 → Option (Int32)) : Nat → Int32 → Int32 → Option (Int32)
  | 0, _, _ => none
  | n_ + 1, v2, v3 =>
    if v3 ≤ i2 then
      k27 v2
    else
      if (30 : Int32) = 0 then none else
      lt ((v2 / (30 : Int32))) fun x4 =>
      lt (v3 + (-1 : Int32)) fun x5 =>
      fX5_placeIn_L10 S i2 k27 n_ x4 x5

def fX5_placeIn (i1 : Int32) (i2 : Int32) (S : M2) : Option (Int32) :=
  lt (((S 3 0) - (1 : Int32))) fun x1 =>
  fX5_placeIn_L10 S i2
    (fun p7 =>
      if (30 : Int32) = 0 then none else
      some (p7 - p7 / (30 : Int32) * (30 : Int32)))
    400 i1 x1

set_option maxHeartbeats 4000000 in
set_option maxRecDepth 100000 in
theorem tX5_placeIn_L10 {V : JV M2} {b : Nat} {a : Nat → Nat} (hv : vX5 V b a) (S : M2) (i2 : Int32) {E : JE (M2) Int32} (hE : JOk V E cX5_placeIn yX5_placeIn.cls 5 0 (some .int) jj_i) {k27 : Int32 → Option (Int32)} (hk27 : ∀ p, J V E (fun r => (r, S)) (k27 p) 27 [(3, .int p)] [] S) : ∀ (n_ : Nat) (v2 : Int32) (v3 : Int32), J V E (fun r => (r, S)) (fX5_placeIn_L10 S i2 k27 n_ v2 v3) 10 [(2, .int i2), (3, .int v2), (4, .int v3)] [] S := by
  intro n_
  induction n_ with
  | zero =>
    intros
    exact J_none
  | succ n_ ih =>
    intros v2 v3
    rw [fX5_placeIn_L10]
    refine J_iload hE dd_X5_placeIn_10 2 rfl ?_
    refine J_iload_n hE dd_X5_placeIn_12 0 rfl rfl ?_
    refine J_icmp_le hE (tgt := 27) dd_X5_placeIn_13 (by decide) (fun c6 => ?_) (fun c6 => ?_)
    · refine J_sub [1] rfl ?_
      exact hk27 v2
    · refine J_iload_n hE dd_X5_placeIn_16 1 rfl rfl ?_
      refine J_bipush hE (v := (30 : Int32)) dd_X5_placeIn_17 (by decide) ?_
      refine J_idiv hE dd_X5_placeIn_19 (fun _ => ?_)
      refine J_leti (fun x4 => ?_)
      refine J_istore_n hE (L' := [(3, .int x4), (2, .int i2), (4, .int v3)]) dd_X5_placeIn_20 (Nat.le_of_ble_eq_true rfl) rfl rfl ?_
      refine J_iincL hE (v := (v3 + (-1 : Int32))) (Lf := fun x5 => [(4, .int x5), (3, .int x4), (2, .int i2)]) dd_X5_placeIn_21 (j := 2) rfl (congrArg (v3 + ·) (by decide)) (Nat.le_of_ble_eq_true rfl) (fun _ => rfl) (fun x5 => ?_)
      refine J_goto hE (tgt := 10) dd_X5_placeIn_24 (by decide) ?_
      refine J_sub [2, 1, 0] rfl ?_
      exact ih x4 x5
set_option maxHeartbeats 4000000 in
set_option maxRecDepth 100000 in
theorem tX5_placeIn (l : Launch) {V : JV M2} {b : Nat} {a : Nat → Nat} (hv : vX5 V b a) (S : M2) (i1 : Int32) (i2 : Int32) : JC l V yX5_placeIn cX5_placeIn 5 (some .int) jj_i 0 [.ref b, .int i1, .int i2] S ((fX5_placeIn i1 i2 S).map (fun r => (r, S))) := by
  refine jj_of (by decide) (Nat.le_of_ble_eq_true rfl) (fun E hlE hE => ?_)
  unfold fX5_placeIn
  refine J_sub (L' := [(0, .ref b), (1, .int i1), (2, .int i2)]) [0, 1, 2] rfl ?_
  refine J_iload_n hE dd_X5_placeIn_0 1 rfl rfl ?_
  refine J_istore_n hE (L' := [(3, .int i1), (0, .ref b), (1, .int i1), (2, .int i2)]) dd_X5_placeIn_1 (Nat.le_of_ble_eq_true rfl) rfl rfl ?_
  refine J_aload_n hE dd_X5_placeIn_2 1 rfl rfl ?_
  refine J_get hE (hv.ob _) jc_X5 3 (by decide) fl_RX5_63 (v := .int (S 3 0)) rfl dd_X5_placeIn_3 ?_
  refine J_iconst hE (v := (1 : Int32)) dd_X5_placeIn_6 (by decide) ?_
  refine J_isub hE dd_X5_placeIn_7 ?_
  refine J_leti (fun x1 => ?_)
  refine J_istore hE (L' := [(4, .int x1), (3, .int i1), (0, .ref b), (1, .int i1), (2, .int i2)]) dd_X5_placeIn_8 (Nat.le_of_ble_eq_true rfl) rfl ?_
  refine J_sub [4, 1, 0] rfl ?_
  refine tX5_placeIn_L10 hv S i2 hE (fun p7 => ?_) 400 i1 x1
  show J V E _ _ 27 [(3, .int p7)] [] S
  refine J_iload_n hE dd_X5_placeIn_27 0 rfl rfl ?_
  refine J_bipush hE (v := (30 : Int32)) dd_X5_placeIn_28 (by decide) ?_
  refine J_irem hE dd_X5_placeIn_30 (fun _ => ?_)
  exact J_iret hE dd_X5_placeIn_31 rfl rfl
theorem dd_X5_best_0 : jd cX5_best 0 (.iload_n 1) 1 1 := ⟨by decide +kernel, rfl⟩
theorem dd_X5_best_4 : jd cX5_best 4 (.aload_n 0) 1 5 := ⟨by decide +kernel, rfl⟩
theorem dd_X5_best_5 : jd cX5_best 5 (.iload_n 1) 1 6 := ⟨by decide +kernel, rfl⟩
theorem dd_X5_best_6 : jd cX5_best 6 (.bipush 10) 2 8 := ⟨by decide +kernel, rfl⟩
theorem dd_X5_best_8 : jd cX5_best 8 (.isub) 1 9 := ⟨by decide +kernel, rfl⟩
theorem dd_X5_best_9 : jd cX5_best 9 (.invokevirtual 205) 3 12 := ⟨by decide +kernel, rfl⟩
theorem dd_X5_best_15 : jd cX5_best 15 (.iconst (-1)) 1 16 := ⟨by decide +kernel, rfl⟩
theorem dd_X5_best_16 : jd cX5_best 16 (.ireturn) 1 17 := ⟨by decide +kernel, rfl⟩
theorem dd_X5_best_12 : jd cX5_best 12 (.ifCond .ne 5) 3 15 := ⟨by decide +kernel, rfl⟩
theorem dd_X5_best_1 : jd cX5_best 1 (.ifCond .eq 16) 3 4 := ⟨by decide +kernel, rfl⟩
theorem ci_RX5_250 : (Cond.constant "MothCustomsModel" 250 (1000000000 : Int32) : Cond) ∈ jj_tb := jj_m (List.mem_of_getElem? (i := 1141) (by decide +kernel)) rfl
theorem dd_X5_best_17 : jd cX5_best 17 (.ldc 250) 2 19 := ⟨by decide +kernel, rfl⟩
theorem dd_X5_best_19 : jd cX5_best 19 (.istore_n 2) 1 20 := ⟨by decide +kernel, rfl⟩
theorem dd_X5_best_20 : jd cX5_best 20 (.iconst 0) 1 21 := ⟨by decide +kernel, rfl⟩
theorem dd_X5_best_21 : jd cX5_best 21 (.istore_n 3) 1 22 := ⟨by decide +kernel, rfl⟩
theorem dd_X5_best_22 : jd cX5_best 22 (.iconst 0) 1 23 := ⟨by decide +kernel, rfl⟩
theorem dd_X5_best_23 : jd cX5_best 23 (.istore 4) 2 25 := ⟨by decide +kernel, rfl⟩
theorem dd_X5_best_25 : jd cX5_best 25 (.iload 4) 2 27 := ⟨by decide +kernel, rfl⟩
theorem dd_X5_best_27 : jd cX5_best 27 (.aload_n 0) 1 28 := ⟨by decide +kernel, rfl⟩
theorem ml_RX5_251 : (Cond.methodLink "MothCustomsModel" 251 yX5_rows : Cond) ∈ jj_tb := jj_m (List.mem_of_getElem? (i := 1142) (by decide +kernel)) rfl
theorem dd_X5_best_28 : jd cX5_best 28 (.invokevirtual 251) 3 31 := ⟨by decide +kernel, rfl⟩
theorem dd_X5_best_34 : jd cX5_best 34 (.aload_n 0) 1 35 := ⟨by decide +kernel, rfl⟩
theorem dd_X5_best_35 : jd cX5_best 35 (.iload 4) 2 37 := ⟨by decide +kernel, rfl⟩
theorem ml_RX5_254 : (Cond.methodLink "MothCustomsModel" 254 yX5_isRow : Cond) ∈ jj_tb := jj_m (List.mem_of_getElem? (i := 1146) (by decide +kernel)) rfl
theorem dd_X5_best_37 : jd cX5_best 37 (.invokevirtual 254) 3 40 := ⟨by decide +kernel, rfl⟩
theorem dd_X5_best_43 : jd cX5_best 43 (.iconst 0) 1 44 := ⟨by decide +kernel, rfl⟩
theorem dd_X5_best_44 : jd cX5_best 44 (.istore 5) 2 46 := ⟨by decide +kernel, rfl⟩
theorem dd_X5_best_46 : jd cX5_best 46 (.iload 5) 2 48 := ⟨by decide +kernel, rfl⟩
theorem dd_X5_best_48 : jd cX5_best 48 (.bipush 36) 2 50 := ⟨by decide +kernel, rfl⟩
theorem dd_X5_best_53 : jd cX5_best 53 (.iload 5) 2 55 := ⟨by decide +kernel, rfl⟩
theorem dd_X5_best_55 : jd cX5_best 55 (.bipush 6) 2 57 := ⟨by decide +kernel, rfl⟩
theorem dd_X5_best_57 : jd cX5_best 57 (.idiv) 1 58 := ⟨by decide +kernel, rfl⟩
theorem dd_X5_best_58 : jd cX5_best 58 (.istore 6) 2 60 := ⟨by decide +kernel, rfl⟩
theorem dd_X5_best_60 : jd cX5_best 60 (.iload 5) 2 62 := ⟨by decide +kernel, rfl⟩
theorem dd_X5_best_62 : jd cX5_best 62 (.bipush 6) 2 64 := ⟨by decide +kernel, rfl⟩
theorem dd_X5_best_64 : jd cX5_best 64 (.irem) 1 65 := ⟨by decide +kernel, rfl⟩
theorem dd_X5_best_65 : jd cX5_best 65 (.istore 7) 2 67 := ⟨by decide +kernel, rfl⟩
theorem dd_X5_best_67 : jd cX5_best 67 (.iload 6) 2 69 := ⟨by decide +kernel, rfl⟩
theorem dd_X5_best_69 : jd cX5_best 69 (.iload 7) 2 71 := ⟨by decide +kernel, rfl⟩
theorem dd_X5_best_74 : jd cX5_best 74 (.iload 7) 2 76 := ⟨by decide +kernel, rfl⟩
theorem dd_X5_best_76 : jd cX5_best 76 (.aload_n 0) 1 77 := ⟨by decide +kernel, rfl⟩
theorem dd_X5_best_77 : jd cX5_best 77 (.getfield 63) 3 80 := ⟨by decide +kernel, rfl⟩
theorem dd_X5_best_83 : jd cX5_best 83 (.aload_n 0) 1 84 := ⟨by decide +kernel, rfl⟩
theorem dd_X5_best_84 : jd cX5_best 84 (.invokevirtual 199) 3 87 := ⟨by decide +kernel, rfl⟩
theorem dd_X5_best_87 : jd cX5_best 87 (.aload_n 0) 1 88 := ⟨by decide +kernel, rfl⟩
theorem dd_X5_best_88 : jd cX5_best 88 (.iload 6) 2 90 := ⟨by decide +kernel, rfl⟩
theorem dd_X5_best_90 : jd cX5_best 90 (.iload 7) 2 92 := ⟨by decide +kernel, rfl⟩
theorem ml_RX5_257 : (Cond.methodLink "MothCustomsModel" 257 yX5_cutsAt : Cond) ∈ jj_tb := jj_m (List.mem_of_getElem? (i := 1150) (by decide +kernel)) rfl
theorem dd_X5_best_92 : jd cX5_best 92 (.invokevirtual 257) 3 95 := ⟨by decide +kernel, rfl⟩
theorem dd_X5_best_95 : jd cX5_best 95 (.aload_n 0) 1 96 := ⟨by decide +kernel, rfl⟩
theorem ml_RX5_261 : (Cond.methodLink "MothCustomsModel" 261 yX5_placesNow : Cond) ∈ jj_tb := jj_m (List.mem_of_getElem? (i := 1154) (by decide +kernel)) rfl
theorem dd_X5_best_96 : jd cX5_best 96 (.invokevirtual 261) 3 99 := ⟨by decide +kernel, rfl⟩
theorem dd_X5_best_99 : jd cX5_best 99 (.istore 8) 2 101 := ⟨by decide +kernel, rfl⟩
theorem dd_X5_best_101 : jd cX5_best 101 (.aload_n 0) 1 102 := ⟨by decide +kernel, rfl⟩
theorem ml_RX5_264 : (Cond.methodLink "MothCustomsModel" 264 yX5_dutyNext : Cond) ∈ jj_tb := jj_m (List.mem_of_getElem? (i := 1158) (by decide +kernel)) rfl
theorem dd_X5_best_102 : jd cX5_best 102 (.invokevirtual 264) 3 105 := ⟨by decide +kernel, rfl⟩
theorem dd_X5_best_105 : jd cX5_best 105 (.istore 9) 2 107 := ⟨by decide +kernel, rfl⟩
theorem dd_X5_best_107 : jd cX5_best 107 (.iload 9) 2 109 := ⟨by decide +kernel, rfl⟩
theorem dd_X5_best_109 : jd cX5_best 109 (.iload_n 2) 1 110 := ⟨by decide +kernel, rfl⟩
theorem dd_X5_best_113 : jd cX5_best 113 (.iload 9) 2 115 := ⟨by decide +kernel, rfl⟩
theorem dd_X5_best_115 : jd cX5_best 115 (.iload_n 2) 1 116 := ⟨by decide +kernel, rfl⟩
theorem dd_X5_best_119 : jd cX5_best 119 (.iload 8) 2 121 := ⟨by decide +kernel, rfl⟩
theorem dd_X5_best_121 : jd cX5_best 121 (.iload_n 3) 1 122 := ⟨by decide +kernel, rfl⟩
theorem dd_X5_best_122 : jd cX5_best 122 (.if_icmp .ge 7) 3 125 := ⟨by decide +kernel, rfl⟩
theorem dd_X5_best_116 : jd cX5_best 116 (.if_icmp .ne 13) 3 119 := ⟨by decide +kernel, rfl⟩
theorem dd_X5_best_129 : jd cX5_best 129 (.iconst 0) 1 130 := ⟨by decide +kernel, rfl⟩
theorem dd_X5_best_110 : jd cX5_best 110 (.if_icmp .lt 15) 3 113 := ⟨by decide +kernel, rfl⟩
theorem dd_X5_best_125 : jd cX5_best 125 (.iconst 1) 1 126 := ⟨by decide +kernel, rfl⟩
theorem dd_X5_best_126 : jd cX5_best 126 (.goto 4) 3 129 := ⟨by decide +kernel, rfl⟩
theorem dd_X5_best_130 : jd cX5_best 130 (.istore 10) 2 132 := ⟨by decide +kernel, rfl⟩
theorem dd_X5_best_132 : jd cX5_best 132 (.iload 10) 2 134 := ⟨by decide +kernel, rfl⟩
theorem dd_X5_best_142 : jd cX5_best 142 (.iload_n 3) 1 143 := ⟨by decide +kernel, rfl⟩
theorem dd_X5_best_137 : jd cX5_best 137 (.iload 8) 2 139 := ⟨by decide +kernel, rfl⟩
theorem dd_X5_best_139 : jd cX5_best 139 (.goto 4) 3 142 := ⟨by decide +kernel, rfl⟩
theorem dd_X5_best_134 : jd cX5_best 134 (.ifCond .eq 8) 3 137 := ⟨by decide +kernel, rfl⟩
theorem dd_X5_best_143 : jd cX5_best 143 (.istore_n 3) 1 144 := ⟨by decide +kernel, rfl⟩
theorem dd_X5_best_144 : jd cX5_best 144 (.iload 10) 2 146 := ⟨by decide +kernel, rfl⟩
theorem dd_X5_best_154 : jd cX5_best 154 (.iload_n 2) 1 155 := ⟨by decide +kernel, rfl⟩
theorem dd_X5_best_149 : jd cX5_best 149 (.iload 9) 2 151 := ⟨by decide +kernel, rfl⟩
theorem dd_X5_best_151 : jd cX5_best 151 (.goto 4) 3 154 := ⟨by decide +kernel, rfl⟩
theorem dd_X5_best_146 : jd cX5_best 146 (.ifCond .eq 8) 3 149 := ⟨by decide +kernel, rfl⟩
theorem dd_X5_best_155 : jd cX5_best 155 (.istore_n 2) 1 156 := ⟨by decide +kernel, rfl⟩
theorem dd_X5_best_80 : jd cX5_best 80 (.if_icmp .gt 76) 3 83 := ⟨by decide +kernel, rfl⟩
theorem dd_X5_best_71 : jd cX5_best 71 (.if_icmp .gt 85) 3 74 := ⟨by decide +kernel, rfl⟩
theorem dd_X5_best_156 : jd cX5_best 156 (.iinc 5 1) 3 159 := ⟨by decide +kernel, rfl⟩
theorem dd_X5_best_159 : jd cX5_best 159 (.goto (-113)) 3 162 := ⟨by decide +kernel, rfl⟩
theorem dd_X5_best_50 : jd cX5_best 50 (.if_icmp .ge 112) 3 53 := ⟨by decide +kernel, rfl⟩
theorem dd_X5_best_40 : jd cX5_best 40 (.ifCond .eq 122) 3 43 := ⟨by decide +kernel, rfl⟩
theorem dd_X5_best_162 : jd cX5_best 162 (.iinc 4 1) 3 165 := ⟨by decide +kernel, rfl⟩
theorem dd_X5_best_165 : jd cX5_best 165 (.goto (-140)) 3 168 := ⟨by decide +kernel, rfl⟩
theorem dd_X5_best_31 : jd cX5_best 31 (.if_icmp .ge 137) 3 34 := ⟨by decide +kernel, rfl⟩
theorem dd_X5_best_168 : jd cX5_best 168 (.iload_n 1) 1 169 := ⟨by decide +kernel, rfl⟩
theorem dd_X5_best_176 : jd cX5_best 176 (.aload_n 0) 1 177 := ⟨by decide +kernel, rfl⟩
theorem dd_X5_best_177 : jd cX5_best 177 (.iload_n 3) 1 178 := ⟨by decide +kernel, rfl⟩
theorem dd_X5_best_178 : jd cX5_best 178 (.iload_n 1) 1 179 := ⟨by decide +kernel, rfl⟩
theorem dd_X5_best_179 : jd cX5_best 179 (.bipush 10) 2 181 := ⟨by decide +kernel, rfl⟩
theorem dd_X5_best_181 : jd cX5_best 181 (.isub) 1 182 := ⟨by decide +kernel, rfl⟩
theorem ml_RX5_267 : (Cond.methodLink "MothCustomsModel" 267 yX5_placeIn : Cond) ∈ jj_tb := jj_m (List.mem_of_getElem? (i := 1162) (by decide +kernel)) rfl
theorem dd_X5_best_182 : jd cX5_best 182 (.invokevirtual 267) 3 185 := ⟨by decide +kernel, rfl⟩
theorem dd_X5_best_185 : jd cX5_best 185 (.ireturn) 1 186 := ⟨by decide +kernel, rfl⟩
theorem dd_X5_best_172 : jd cX5_best 172 (.iload_n 2) 1 173 := ⟨by decide +kernel, rfl⟩
theorem dd_X5_best_173 : jd cX5_best 173 (.goto 12) 3 176 := ⟨by decide +kernel, rfl⟩
theorem dd_X5_best_169 : jd cX5_best 169 (.ifCond .ne 7) 3 172 := ⟨by decide +kernel, rfl⟩
theorem m_X5_best : jmV yX5_best cX5_best 11 (some .int) 1 := ⟨⟨(jj_m (w := Cond.code yX5_best cX5_best 11 (some .int)) (List.mem_of_getElem? (i := 1140) (by decide +kernel)) rfl), (jj_m (w := Cond.initialized yX5_best.cls) (List.mem_of_getElem? (i := 69) (by decide +kernel)) rfl), ⟨by decide, by decide⟩, by decide +kernel⟩, (jj_m (w := Cond.instanceMethod yX5_best) (List.mem_of_getElem? (i := 1138) (by decide +kernel)) rfl), (jj_m (w := Cond.selects yX5_best.cls yX5_best yX5_best) (List.mem_of_getElem? (i := 1139) (by decide +kernel)) rfl)⟩
def fX5_best_L46 (i1 : Int32) (v8 : Int32) (k162 : (Int32 × Int32 × M2) → Option (Int32 × M2)) : Nat → Int32 → Int32 → Int32 → M2 → Option (Int32 × M2)
  | 0, _, _, _, _ => none
  | n_ + 1, v14, v15, v16, S17 =>
    if (36 : Int32) ≤ v16 then
      k162 (v14, v15, S17)
    else
      if (6 : Int32) = 0 then none else
      lt ((v16 / (6 : Int32))) fun x18 =>
      if (6 : Int32) = 0 then none else
      lt ((v16 - v16 / (6 : Int32) * (6 : Int32))) fun x19 =>
      jn (α := Option (Int32 × M2)) (β := Int32 × Int32 × M2) (fun j20 =>
        if x19 < x18 then
          j20 (v14, v15, S17)
        else
          if (S17 3 0) < x19 then
            j20 (v14, v15, S17)
          else
            (fX5_starts  S17).bind fun q21 =>
            lt (q21) fun S22 =>
            (fX5_cutsAt x18 x19 S22).bind fun q23 =>
            lt (q23) fun S24 =>
            (fX5_placesNow  S24).bind fun r25 =>
            (fX5_dutyNext  S24).bind fun q26 =>
            lt (q26.2) fun S27 =>
            jn (α := Option (Int32 × M2)) (β := Int32) (fun j29 =>
              jn (α := Option (Int32 × M2)) (β := Unit) (fun j28 =>
                if q26.1 < v14 then
                  j28 ()
                else
                  jn (α := Option (Int32 × M2)) (β := Unit) (fun j30 =>
                    if q26.1 = v14 then
                      if v15 ≤ r25 then
                        j30 ()
                      else
                        j28 ()
                    else
                      j30 ()) (fun _ => 
                    j29 (0 : Int32))) (fun _ => 
                j29 (1 : Int32))) (fun p36 => 
              jn (α := Option (Int32 × M2)) (β := Int32) (fun j37 =>
                if p36 = 0 then
                  j37 v15
                else
                  j37 r25) (fun p39 => 
                jn (α := Option (Int32 × M2)) (β := Int32) (fun j40 =>
                  if p36 = 0 then
                    j40 v14
                  else
                    j40 q26.1) (fun p42 => 
                  j20 (p42, p39, S27))))) (fun p45 => 
        lt (v16 + (1 : Int32)) fun x46 =>
        fX5_best_L46 i1 v8 k162 n_ p45.1 p45.2.1 x46 p45.2.2)

def fX5_best_L25 (i1 : Int32) (k168 : (Int32 × Int32 × M2) → Option (Int32 × M2)) : Nat → Int32 → Int32 → Int32 → M2 → Option (Int32 × M2)
  | 0, _, _, _, _ => none
  | n_ + 1, v6, v7, v8, S9 =>
    (fX5_rows  S9).bind fun r10 =>
    if r10 ≤ v8 then
      k168 (v6, v7, S9)
    else
      (fX5_isRow v8 S9).bind fun q11 =>
      lt (q11.2) fun S12 =>
      jn (α := Option (Int32 × M2)) (β := Int32 × Int32 × M2) (fun j13 =>
        if q11.1 = 0 then
          j13 (v6, v7, S12)
        else
          fX5_best_L46 i1 v8
            (fun p48 =>
              j13 (p48.1, p48.2.1, p48.2.2))
            4000 v6 v7 (0 : Int32) S12) (fun p50 => 
        lt (v8 + (1 : Int32)) fun x51 =>
        fX5_best_L25 i1 k168 n_ p50.1 p50.2.1 x51 p50.2.2)

def fX5_best (i1 : Int32) (S : M2) : Option (Int32 × M2) :=
  jn (α := Option (Int32 × M2)) (β := Unit) (fun j1 =>
    if i1 = 0 then
      j1 ()
    else
      (fX5_isBolt (i1 - (10 : Int32)) S).bind fun r2 =>
      if r2 = 0 then
        some ((-1 : Int32), S)
      else
        j1 ()) (fun _ => 
    fX5_best_L25 i1
      (fun p53 =>
        if i1 = 0 then
          some (p53.1, p53.2.2)
        else
          (fX5_placeIn p53.2.1 (i1 - (10 : Int32)) p53.2.2).bind fun r54 =>
          some (r54, p53.2.2))
      4000 (1000000000 : Int32) (0 : Int32) (0 : Int32) S)

set_option maxHeartbeats 4000000 in
set_option maxRecDepth 100000 in
theorem tX5_best_L46 {V : JV M2} {b : Nat} {a : Nat → Nat} (hv : vX5 V b a) (i1 : Int32) (v8 : Int32) {E : JE (M2) Int32} (hE : JOk V E cX5_best yX5_best.cls 11 5 (some .int) jj_i) {k162 : (Int32 × Int32 × M2) → Option (Int32 × M2)} (hk162 : ∀ p, J V E (fun q => (q.1, q.2)) (k162 p) 162 [(0, .ref b), (1, .int i1), (2, .int p.1), (3, .int p.2.1), (4, .int v8)] [] p.2.2) : ∀ (n_ : Nat) (v14 : Int32) (v15 : Int32) (v16 : Int32) (S17 : M2), J V E (fun q => (q.1, q.2)) (fX5_best_L46 i1 v8 k162 n_ v14 v15 v16 S17) 46 [(0, .ref b), (1, .int i1), (2, .int v14), (3, .int v15), (4, .int v8), (5, .int v16)] [] S17 := by
  intro n_
  induction n_ with
  | zero =>
    intros
    exact J_none
  | succ n_ ih =>
    intros v14 v15 v16 S17
    rw [fX5_best_L46]
    refine J_iload hE dd_X5_best_46 5 rfl ?_
    refine J_bipush hE (v := (36 : Int32)) dd_X5_best_48 (by decide) ?_
    refine J_icmp_ge hE (tgt := 162) dd_X5_best_50 (by decide) (fun c47 => ?_) (fun c47 => ?_)
    · refine J_sub [0, 1, 2, 3, 4] rfl ?_
      exact hk162 (v14, v15, S17)
    · refine J_iload hE dd_X5_best_53 5 rfl ?_
      refine J_bipush hE (v := (6 : Int32)) dd_X5_best_55 (by decide) ?_
      refine J_idiv hE dd_X5_best_57 (fun _ => ?_)
      refine J_leti (fun x18 => ?_)
      refine J_istore hE (L' := [(6, .int x18), (0, .ref b), (1, .int i1), (2, .int v14), (3, .int v15), (4, .int v8), (5, .int v16)]) dd_X5_best_58 (Nat.le_of_ble_eq_true rfl) rfl ?_
      refine J_iload hE dd_X5_best_60 6 rfl ?_
      refine J_bipush hE (v := (6 : Int32)) dd_X5_best_62 (by decide) ?_
      refine J_irem hE dd_X5_best_64 (fun _ => ?_)
      refine J_leti (fun x19 => ?_)
      refine J_istore hE (L' := [(7, .int x19), (6, .int x18), (0, .ref b), (1, .int i1), (2, .int v14), (3, .int v15), (4, .int v8), (5, .int v16)]) dd_X5_best_65 (Nat.le_of_ble_eq_true rfl) rfl ?_
      refine J_iload hE dd_X5_best_67 1 rfl ?_
      refine J_iload hE dd_X5_best_69 0 rfl ?_
      refine J_jn (m := 156) (Lf := fun p45 => [(0, .ref b), (1, .int i1), (2, .int p45.1), (3, .int p45.2.1), (4, .int v8), (5, .int v16)]) (sf := fun p45 => []) (Xf := fun p45 => p45.2.2) (fun p45 => ?_) (fun hj20 => ?_)
      · show J V E _ _ 156 [(0, .ref b), (1, .int i1), (2, .int p45.1), (3, .int p45.2.1), (4, .int v8), (5, .int v16)] [] p45.2.2
        refine J_iincL hE (v := (v16 + (1 : Int32))) (Lf := fun x46 => [(5, .int x46), (0, .ref b), (1, .int i1), (2, .int p45.1), (3, .int p45.2.1), (4, .int v8)]) dd_X5_best_156 (j := 5) rfl (congrArg (v16 + ·) (by decide)) (Nat.le_of_ble_eq_true rfl) (fun _ => rfl) (fun x46 => ?_)
        refine J_goto hE (tgt := 46) dd_X5_best_159 (by decide) ?_
        refine J_sub [1, 2, 3, 4, 5, 0] rfl ?_
        exact ih p45.1 p45.2.1 x46 p45.2.2
      · refine J_icmp_gt hE (tgt := 156) dd_X5_best_71 (by decide) (fun c44 => ?_) (fun c44 => ?_)
        · refine J_sub [2, 3, 4, 5, 6, 7] rfl ?_
          exact hj20 (v14, v15, S17)
        · refine J_iload hE dd_X5_best_74 0 rfl ?_
          refine J_aload_n hE dd_X5_best_76 2 rfl rfl ?_
          refine J_get hE (hv.ob _) jc_X5 3 (by decide) fl_RX5_63 (v := .int (S17 3 0)) rfl dd_X5_best_77 ?_
          refine J_icmp_gt hE (tgt := 156) dd_X5_best_80 (by decide) (fun c43 => ?_) (fun c43 => ?_)
          · refine J_sub [2, 3, 4, 5, 6, 7] rfl ?_
            exact hj20 (v14, v15, S17)
          · refine J_aload_n hE dd_X5_best_83 2 rfl rfl ?_
            refine J_invVwv hE (e := fun x => x) (As := []) (st := []) (tX5_starts E.2.1 hv S17 ) (hv.ob _) m_X5_starts rfl ml_RX5_199 (Nat.le_of_ble_eq_true rfl) (Nat.le_of_ble_eq_true rfl) rfl (Nat.le_of_ble_eq_true rfl) dd_X5_best_84 (fun q21 => ?_)
            refine J_letS (fun S22 => ?_)
            refine J_aload_n hE dd_X5_best_87 2 rfl rfl ?_
            refine J_iload hE dd_X5_best_88 1 rfl ?_
            refine J_iload hE dd_X5_best_90 0 rfl ?_
            refine J_invVwv hE (e := fun x => x) (As := [.int x18, .int x19]) (st := []) (tX5_cutsAt E.2.1 hv S22 x18 x19) (hv.ob _) m_X5_cutsAt rfl ml_RX5_257 (Nat.le_of_ble_eq_true rfl) (Nat.le_of_ble_eq_true rfl) rfl (Nat.le_of_ble_eq_true rfl) dd_X5_best_92 (fun q23 => ?_)
            refine J_letS (fun S24 => ?_)
            refine J_aload_n hE dd_X5_best_95 2 rfl rfl ?_
            refine J_invVri hE (As := []) (st := []) (tX5_placesNow E.2.1 hv S24 ) (hv.ob _) m_X5_placesNow rfl ml_RX5_261 (Nat.le_of_ble_eq_true rfl) (Nat.le_of_ble_eq_true rfl) rfl (Nat.le_of_ble_eq_true rfl) dd_X5_best_96 (fun r25 => ?_)
            refine J_istore hE (L' := [(8, .int r25), (7, .int x19), (6, .int x18), (0, .ref b), (1, .int i1), (2, .int v14), (3, .int v15), (4, .int v8), (5, .int v16)]) dd_X5_best_99 (Nat.le_of_ble_eq_true rfl) rfl ?_
            refine J_aload_n hE dd_X5_best_101 3 rfl rfl ?_
            refine J_invVwi hE (e := fun x => x) (As := []) (st := []) (tX5_dutyNext E.2.1 hv S24 ) (hv.ob _) m_X5_dutyNext rfl ml_RX5_264 (Nat.le_of_ble_eq_true rfl) (Nat.le_of_ble_eq_true rfl) rfl (Nat.le_of_ble_eq_true rfl) dd_X5_best_102 (fun q26 => ?_)
            refine J_letS (fun S27 => ?_)
            refine J_istore hE (L' := [(9, .int q26.1), (8, .int r25), (7, .int x19), (6, .int x18), (0, .ref b), (1, .int i1), (2, .int v14), (3, .int v15), (4, .int v8), (5, .int v16)]) dd_X5_best_105 (Nat.le_of_ble_eq_true rfl) rfl ?_
            refine J_iload hE dd_X5_best_107 0 rfl ?_
            refine J_iload_n hE dd_X5_best_109 6 rfl rfl ?_
            refine J_jn (m := 130) (Lf := fun p36 => [(0, .ref b), (1, .int i1), (2, .int v14), (3, .int v15), (4, .int v8), (5, .int v16), (8, .int r25), (9, .int q26.1)]) (sf := fun p36 => [.int p36]) (Xf := fun p36 => S27) (fun p36 => ?_) (fun hj29 => ?_)
            · show J V E _ _ 130 [(0, .ref b), (1, .int i1), (2, .int v14), (3, .int v15), (4, .int v8), (5, .int v16), (8, .int r25), (9, .int q26.1)] [.int p36] S27
              refine J_istore hE (L' := [(10, .int p36), (0, .ref b), (1, .int i1), (2, .int v14), (3, .int v15), (4, .int v8), (5, .int v16), (8, .int r25), (9, .int q26.1)]) dd_X5_best_130 (Nat.le_of_ble_eq_true rfl) rfl ?_
              refine J_iload hE dd_X5_best_132 0 rfl ?_
              refine J_jn (m := 143) (Lf := fun p39 => [(0, .ref b), (1, .int i1), (2, .int v14), (4, .int v8), (5, .int v16), (9, .int q26.1), (10, .int p36)]) (sf := fun p39 => [.int p39]) (Xf := fun p39 => S27) (fun p39 => ?_) (fun hj37 => ?_)
              · show J V E _ _ 143 [(0, .ref b), (1, .int i1), (2, .int v14), (4, .int v8), (5, .int v16), (9, .int q26.1), (10, .int p36)] [.int p39] S27
                refine J_istore_n hE (L' := [(3, .int p39), (0, .ref b), (1, .int i1), (2, .int v14), (4, .int v8), (5, .int v16), (9, .int q26.1), (10, .int p36)]) dd_X5_best_143 (Nat.le_of_ble_eq_true rfl) rfl rfl ?_
                refine J_iload hE dd_X5_best_144 7 rfl ?_
                refine J_jn (m := 155) (Lf := fun p42 => [(0, .ref b), (1, .int i1), (3, .int p39), (4, .int v8), (5, .int v16)]) (sf := fun p42 => [.int p42]) (Xf := fun p42 => S27) (fun p42 => ?_) (fun hj40 => ?_)
                · show J V E _ _ 155 [(0, .ref b), (1, .int i1), (3, .int p39), (4, .int v8), (5, .int v16)] [.int p42] S27
                  refine J_istore_n hE (L' := [(2, .int p42), (0, .ref b), (1, .int i1), (3, .int p39), (4, .int v8), (5, .int v16)]) dd_X5_best_155 (Nat.le_of_ble_eq_true rfl) rfl rfl ?_
                  refine J_sub [1, 2, 0, 3, 4, 5] rfl ?_
                  exact hj20 (p42, p39, S27)
                · refine J_if_eq hE (tgt := 154) dd_X5_best_146 (by decide) (fun c41 => ?_) (fun c41 => ?_)
                  · refine J_iload_n hE dd_X5_best_154 3 rfl rfl ?_
                    refine J_sub [1, 2, 0, 4, 5] rfl ?_
                    exact hj40 v14
                  · refine J_iload hE dd_X5_best_149 6 rfl ?_
                    refine J_goto hE (tgt := 155) dd_X5_best_151 (by decide) ?_
                    refine J_sub [1, 2, 0, 4, 5] rfl ?_
                    exact hj40 q26.1
              · refine J_if_eq hE (tgt := 142) dd_X5_best_134 (by decide) (fun c38 => ?_) (fun c38 => ?_)
                · refine J_iload_n hE dd_X5_best_142 4 rfl rfl ?_
                  refine J_sub [1, 2, 3, 5, 6, 8, 0] rfl ?_
                  exact hj37 v15
                · refine J_iload hE dd_X5_best_137 7 rfl ?_
                  refine J_goto hE (tgt := 143) dd_X5_best_139 (by decide) ?_
                  refine J_sub [1, 2, 3, 5, 6, 8, 0] rfl ?_
                  exact hj37 r25
            · refine J_jn (m := 125) (Lf := fun _ => [(0, .ref b), (1, .int i1), (2, .int v14), (3, .int v15), (4, .int v8), (5, .int v16), (8, .int r25), (9, .int q26.1)]) (sf := fun _ => []) (Xf := fun _ => S27) (fun _ => ?_) (fun hj28 => ?_)
              · show J V E _ _ 125 [(0, .ref b), (1, .int i1), (2, .int v14), (3, .int v15), (4, .int v8), (5, .int v16), (8, .int r25), (9, .int q26.1)] [] S27
                refine J_iconst hE (v := (1 : Int32)) dd_X5_best_125 (by decide) ?_
                refine J_goto hE (tgt := 130) dd_X5_best_126 (by decide) ?_
                refine J_sub [0, 1, 2, 3, 4, 5, 6, 7] rfl ?_
                exact hj29 (1 : Int32)
              · refine J_icmp_lt hE (tgt := 125) dd_X5_best_110 (by decide) (fun c34 => ?_) (fun c34 => ?_)
                · refine J_sub [4, 5, 6, 7, 8, 9, 1, 0] rfl ?_
                  exact hj28 ()
                · refine J_iload hE dd_X5_best_113 0 rfl ?_
                  refine J_iload_n hE dd_X5_best_115 6 rfl rfl ?_
                  refine J_jn (m := 129) (Lf := fun _ => [(0, .ref b), (1, .int i1), (2, .int v14), (3, .int v15), (4, .int v8), (5, .int v16), (8, .int r25), (9, .int q26.1)]) (sf := fun _ => []) (Xf := fun _ => S27) (fun _ => ?_) (fun hj30 => ?_)
                  · show J V E _ _ 129 [(0, .ref b), (1, .int i1), (2, .int v14), (3, .int v15), (4, .int v8), (5, .int v16), (8, .int r25), (9, .int q26.1)] [] S27
                    refine J_iconst hE (v := (0 : Int32)) dd_X5_best_129 (by decide) ?_
                    refine J_sub [0, 1, 2, 3, 4, 5, 6, 7] rfl ?_
                    exact hj29 (0 : Int32)
                  · refine J_icmp_ne hE (tgt := 129) dd_X5_best_116 (by decide) (fun c32 => ?_) (fun c32 => ?_)
                    · refine J_sub [4, 5, 6, 7, 8, 9, 1, 0] rfl ?_
                      exact hj30 ()
                    · refine J_iload hE dd_X5_best_119 1 rfl ?_
                      refine J_iload_n hE dd_X5_best_121 7 rfl rfl ?_
                      refine J_icmp_ge hE (tgt := 129) dd_X5_best_122 (by decide) (fun c31 => ?_) (fun c31 => ?_)
                      · refine J_sub [4, 5, 6, 7, 8, 9, 1, 0] rfl ?_
                        exact hj30 ()
                      · refine J_sub [4, 5, 6, 7, 8, 9, 1, 0] rfl ?_
                        exact hj28 ()
set_option maxHeartbeats 4000000 in
set_option maxRecDepth 100000 in
theorem tX5_best_L25 {V : JV M2} {b : Nat} {a : Nat → Nat} (hv : vX5 V b a) (i1 : Int32) {E : JE (M2) Int32} (hE : JOk V E cX5_best yX5_best.cls 11 5 (some .int) jj_i) {k168 : (Int32 × Int32 × M2) → Option (Int32 × M2)} (hk168 : ∀ p, J V E (fun q => (q.1, q.2)) (k168 p) 168 [(0, .ref b), (1, .int i1), (2, .int p.1), (3, .int p.2.1)] [] p.2.2) : ∀ (n_ : Nat) (v6 : Int32) (v7 : Int32) (v8 : Int32) (S9 : M2), J V E (fun q => (q.1, q.2)) (fX5_best_L25 i1 k168 n_ v6 v7 v8 S9) 25 [(0, .ref b), (1, .int i1), (2, .int v6), (3, .int v7), (4, .int v8)] [] S9 := by
  intro n_
  induction n_ with
  | zero =>
    intros
    exact J_none
  | succ n_ ih =>
    intros v6 v7 v8 S9
    rw [fX5_best_L25]
    refine J_iload hE dd_X5_best_25 4 rfl ?_
    refine J_aload_n hE dd_X5_best_27 0 rfl rfl ?_
    refine J_invVri hE (As := []) (st := [.int v8]) (tX5_rows E.2.1 hv S9 ) (hv.ob _) m_X5_rows rfl ml_RX5_251 (Nat.le_of_ble_eq_true rfl) (Nat.le_of_ble_eq_true rfl) rfl (Nat.le_of_ble_eq_true rfl) dd_X5_best_28 (fun r10 => ?_)
    refine J_icmp_ge hE (tgt := 168) dd_X5_best_31 (by decide) (fun c52 => ?_) (fun c52 => ?_)
    · refine J_sub [0, 1, 2, 3] rfl ?_
      exact hk168 (v6, v7, S9)
    · refine J_aload_n hE dd_X5_best_34 0 rfl rfl ?_
      refine J_iload hE dd_X5_best_35 4 rfl ?_
      refine J_invVwi hE (e := fun x => x) (As := [.int v8]) (st := []) (tX5_isRow E.2.1 hv S9 v8) (hv.ob _) m_X5_isRow rfl ml_RX5_254 (Nat.le_of_ble_eq_true rfl) (Nat.le_of_ble_eq_true rfl) rfl (Nat.le_of_ble_eq_true rfl) dd_X5_best_37 (fun q11 => ?_)
      refine J_letS (fun S12 => ?_)
      refine J_jn (m := 162) (Lf := fun p50 => [(0, .ref b), (1, .int i1), (2, .int p50.1), (3, .int p50.2.1), (4, .int v8)]) (sf := fun p50 => []) (Xf := fun p50 => p50.2.2) (fun p50 => ?_) (fun hj13 => ?_)
      · show J V E _ _ 162 [(0, .ref b), (1, .int i1), (2, .int p50.1), (3, .int p50.2.1), (4, .int v8)] [] p50.2.2
        refine J_iincL hE (v := (v8 + (1 : Int32))) (Lf := fun x51 => [(4, .int x51), (0, .ref b), (1, .int i1), (2, .int p50.1), (3, .int p50.2.1)]) dd_X5_best_162 (j := 4) rfl (congrArg (v8 + ·) (by decide)) (Nat.le_of_ble_eq_true rfl) (fun _ => rfl) (fun x51 => ?_)
        refine J_goto hE (tgt := 25) dd_X5_best_165 (by decide) ?_
        refine J_sub [1, 2, 3, 4, 0] rfl ?_
        exact ih p50.1 p50.2.1 x51 p50.2.2
      · refine J_if_eq hE (tgt := 162) dd_X5_best_40 (by decide) (fun c49 => ?_) (fun c49 => ?_)
        · refine J_sub [0, 1, 2, 3, 4] rfl ?_
          exact hj13 (v6, v7, S12)
        · refine J_iconst hE (v := (0 : Int32)) dd_X5_best_43 (by decide) ?_
          refine J_istore hE (L' := [(5, .int (0 : Int32)), (0, .ref b), (1, .int i1), (2, .int v6), (3, .int v7), (4, .int v8)]) dd_X5_best_44 (Nat.le_of_ble_eq_true rfl) rfl ?_
          refine J_sub [1, 2, 3, 4, 5, 0] rfl ?_
          refine tX5_best_L46 hv i1 v8 hE (fun p48 => ?_) 4000 v6 v7 (0 : Int32) S12
          show J V E _ _ 162 [(0, .ref b), (1, .int i1), (2, .int p48.1), (3, .int p48.2.1), (4, .int v8)] [] p48.2.2
          refine J_sub [0, 1, 2, 3, 4] rfl ?_
          exact hj13 (p48.1, p48.2.1, p48.2.2)
set_option maxHeartbeats 4000000 in
set_option maxRecDepth 100000 in
theorem tX5_best (l : Launch) {V : JV M2} {b : Nat} {a : Nat → Nat} (hv : vX5 V b a) (S : M2) (i1 : Int32) : JC l V yX5_best cX5_best 11 (some .int) jj_i 5 [.ref b, .int i1] S ((fX5_best i1 S).map (fun q => (q.1, q.2))) := by
  refine jj_of (by decide) (Nat.le_of_ble_eq_true rfl) (fun E hlE hE => ?_)
  unfold fX5_best
  refine J_sub (L' := [(0, .ref b), (1, .int i1)]) [0, 1] rfl ?_
  refine J_iload_n hE dd_X5_best_0 1 rfl rfl ?_
  refine J_jn (m := 17) (Lf := fun _ => [(0, .ref b), (1, .int i1)]) (sf := fun _ => []) (Xf := fun _ => S) (fun _ => ?_) (fun hj1 => ?_)
  · show J V E _ _ 17 [(0, .ref b), (1, .int i1)] [] S
    refine J_ldc hE (v := (1000000000 : Int32)) dd_X5_best_17 ci_RX5_250 ?_
    refine J_istore_n hE (L' := [(2, .int (1000000000 : Int32)), (0, .ref b), (1, .int i1)]) dd_X5_best_19 (Nat.le_of_ble_eq_true rfl) rfl rfl ?_
    refine J_iconst hE (v := (0 : Int32)) dd_X5_best_20 (by decide) ?_
    refine J_istore_n hE (L' := [(3, .int (0 : Int32)), (2, .int (1000000000 : Int32)), (0, .ref b), (1, .int i1)]) dd_X5_best_21 (Nat.le_of_ble_eq_true rfl) rfl rfl ?_
    refine J_iconst hE (v := (0 : Int32)) dd_X5_best_22 (by decide) ?_
    refine J_istore hE (L' := [(4, .int (0 : Int32)), (3, .int (0 : Int32)), (2, .int (1000000000 : Int32)), (0, .ref b), (1, .int i1)]) dd_X5_best_23 (Nat.le_of_ble_eq_true rfl) rfl ?_
    refine J_sub [3, 4, 2, 1, 0] rfl ?_
    refine tX5_best_L25 hv i1 hE (fun p53 => ?_) 4000 (1000000000 : Int32) (0 : Int32) (0 : Int32) S
    show J V E _ _ 168 [(0, .ref b), (1, .int i1), (2, .int p53.1), (3, .int p53.2.1)] [] p53.2.2
    refine J_iload_n hE dd_X5_best_168 1 rfl rfl ?_
    refine J_if_ne hE (tgt := 176) dd_X5_best_169 (by decide) (fun c55 => ?_) (fun c55 => ?_)
    · refine J_aload_n hE dd_X5_best_176 0 rfl rfl ?_
      refine J_iload_n hE dd_X5_best_177 3 rfl rfl ?_
      refine J_iload_n hE dd_X5_best_178 1 rfl rfl ?_
      refine J_bipush hE (v := (10 : Int32)) dd_X5_best_179 (by decide) ?_
      refine J_isub hE dd_X5_best_181 ?_
      refine J_invVri hE (As := [.int p53.2.1, .int (i1 - (10 : Int32))]) (st := []) (tX5_placeIn E.2.1 hv p53.2.2 p53.2.1 (i1 - (10 : Int32))) (hv.ob _) m_X5_placeIn rfl ml_RX5_267 (Nat.le_of_ble_eq_true rfl) (Nat.le_of_ble_eq_true rfl) rfl (Nat.le_of_ble_eq_true rfl) dd_X5_best_182 (fun r54 => ?_)
      exact J_iret hE dd_X5_best_185 rfl rfl
    · refine J_iload_n hE dd_X5_best_172 2 rfl rfl ?_
      refine J_goto hE (tgt := 185) dd_X5_best_173 (by decide) ?_
      exact J_iret hE dd_X5_best_185 rfl rfl
  · refine J_if_eq hE (tgt := 17) dd_X5_best_1 (by decide) (fun c4 => ?_) (fun c4 => ?_)
    · refine J_sub [0, 1] rfl ?_
      exact hj1 ()
    · refine J_aload_n hE dd_X5_best_4 0 rfl rfl ?_
      refine J_iload_n hE dd_X5_best_5 1 rfl rfl ?_
      refine J_bipush hE (v := (10 : Int32)) dd_X5_best_6 (by decide) ?_
      refine J_isub hE dd_X5_best_8 ?_
      refine J_invVri hE (As := [.int (i1 - (10 : Int32))]) (st := []) (tX5_isBolt E.2.1 hv S (i1 - (10 : Int32))) (hv.ob _) m_X5_isBolt rfl ml_RX5_205 (Nat.le_of_ble_eq_true rfl) (Nat.le_of_ble_eq_true rfl) rfl (Nat.le_of_ble_eq_true rfl) dd_X5_best_9 (fun r2 => ?_)
      refine J_if_ne hE (tgt := 17) dd_X5_best_12 (by decide) (fun c3 => ?_) (fun c3 => ?_)
      · refine J_sub [0, 1] rfl ?_
        exact hj1 ()
      · refine J_iconst hE (v := (-1 : Int32)) dd_X5_best_15 (by decide) ?_
        exact J_iret hE dd_X5_best_16 rfl rfl
theorem dd_X5_guard_0 : jd cX5_guard 0 (.iload_n 1) 1 1 := ⟨by decide +kernel, rfl⟩
theorem dd_X5_guard_1 : jd cX5_guard 1 (.invokestatic 239) 3 4 := ⟨by decide +kernel, rfl⟩
theorem dd_X5_guard_9 : jd cX5_guard 9 (.aload_n 0) 1 10 := ⟨by decide +kernel, rfl⟩
theorem dd_X5_guard_10 : jd cX5_guard 10 (.invokevirtual 199) 3 13 := ⟨by decide +kernel, rfl⟩
theorem dd_X5_guard_13 : jd cX5_guard 13 (.aload_n 0) 1 14 := ⟨by decide +kernel, rfl⟩
theorem dd_X5_guard_14 : jd cX5_guard 14 (.invokevirtual 264) 3 17 := ⟨by decide +kernel, rfl⟩
theorem dd_X5_guard_17 : jd cX5_guard 17 (.istore_n 2) 1 18 := ⟨by decide +kernel, rfl⟩
theorem dd_X5_guard_18 : jd cX5_guard 18 (.bipush (-4)) 2 20 := ⟨by decide +kernel, rfl⟩
theorem dd_X5_guard_20 : jd cX5_guard 20 (.istore_n 3) 1 21 := ⟨by decide +kernel, rfl⟩
theorem dd_X5_guard_21 : jd cX5_guard 21 (.iconst 0) 1 22 := ⟨by decide +kernel, rfl⟩
theorem dd_X5_guard_22 : jd cX5_guard 22 (.istore 4) 2 24 := ⟨by decide +kernel, rfl⟩
theorem dd_X5_guard_24 : jd cX5_guard 24 (.iload 4) 2 26 := ⟨by decide +kernel, rfl⟩
theorem dd_X5_guard_26 : jd cX5_guard 26 (.aload_n 0) 1 27 := ⟨by decide +kernel, rfl⟩
theorem dd_X5_guard_27 : jd cX5_guard 27 (.getfield 63) 3 30 := ⟨by decide +kernel, rfl⟩
theorem dd_X5_guard_33 : jd cX5_guard 33 (.aload_n 0) 1 34 := ⟨by decide +kernel, rfl⟩
theorem dd_X5_guard_34 : jd cX5_guard 34 (.invokevirtual 199) 3 37 := ⟨by decide +kernel, rfl⟩
theorem dd_X5_guard_37 : jd cX5_guard 37 (.aload_n 0) 1 38 := ⟨by decide +kernel, rfl⟩
theorem dd_X5_guard_38 : jd cX5_guard 38 (.iload 4) 2 40 := ⟨by decide +kernel, rfl⟩
theorem dd_X5_guard_40 : jd cX5_guard 40 (.iconst 3) 1 41 := ⟨by decide +kernel, rfl⟩
theorem dd_X5_guard_41 : jd cX5_guard 41 (.invokevirtual 155) 3 44 := ⟨by decide +kernel, rfl⟩
theorem dd_X5_guard_47 : jd cX5_guard 47 (.aload_n 0) 1 48 := ⟨by decide +kernel, rfl⟩
theorem dd_X5_guard_48 : jd cX5_guard 48 (.iload 4) 2 50 := ⟨by decide +kernel, rfl⟩
theorem dd_X5_guard_50 : jd cX5_guard 50 (.iconst 3) 1 51 := ⟨by decide +kernel, rfl⟩
theorem dd_X5_guard_51 : jd cX5_guard 51 (.iconst 1) 1 52 := ⟨by decide +kernel, rfl⟩
theorem dd_X5_guard_52 : jd cX5_guard 52 (.invokevirtual 176) 3 55 := ⟨by decide +kernel, rfl⟩
theorem dd_X5_guard_55 : jd cX5_guard 55 (.aload_n 0) 1 56 := ⟨by decide +kernel, rfl⟩
theorem dd_X5_guard_56 : jd cX5_guard 56 (.invokevirtual 264) 3 59 := ⟨by decide +kernel, rfl⟩
theorem dd_X5_guard_59 : jd cX5_guard 59 (.istore 5) 2 61 := ⟨by decide +kernel, rfl⟩
theorem dd_X5_guard_61 : jd cX5_guard 61 (.iload 5) 2 63 := ⟨by decide +kernel, rfl⟩
theorem dd_X5_guard_63 : jd cX5_guard 63 (.iload_n 2) 1 64 := ⟨by decide +kernel, rfl⟩
theorem dd_X5_guard_72 : jd cX5_guard 72 (.iload_n 3) 1 73 := ⟨by decide +kernel, rfl⟩
theorem dd_X5_guard_67 : jd cX5_guard 67 (.iload 4) 2 69 := ⟨by decide +kernel, rfl⟩
theorem dd_X5_guard_69 : jd cX5_guard 69 (.goto 4) 3 72 := ⟨by decide +kernel, rfl⟩
theorem dd_X5_guard_64 : jd cX5_guard 64 (.if_icmp .ge 8) 3 67 := ⟨by decide +kernel, rfl⟩
theorem dd_X5_guard_73 : jd cX5_guard 73 (.istore_n 3) 1 74 := ⟨by decide +kernel, rfl⟩
theorem dd_X5_guard_74 : jd cX5_guard 74 (.iload 5) 2 76 := ⟨by decide +kernel, rfl⟩
theorem dd_X5_guard_76 : jd cX5_guard 76 (.iload_n 2) 1 77 := ⟨by decide +kernel, rfl⟩
theorem dd_X5_guard_85 : jd cX5_guard 85 (.iload_n 2) 1 86 := ⟨by decide +kernel, rfl⟩
theorem dd_X5_guard_80 : jd cX5_guard 80 (.iload 5) 2 82 := ⟨by decide +kernel, rfl⟩
theorem dd_X5_guard_82 : jd cX5_guard 82 (.goto 4) 3 85 := ⟨by decide +kernel, rfl⟩
theorem dd_X5_guard_77 : jd cX5_guard 77 (.if_icmp .ge 8) 3 80 := ⟨by decide +kernel, rfl⟩
theorem dd_X5_guard_86 : jd cX5_guard 86 (.istore_n 2) 1 87 := ⟨by decide +kernel, rfl⟩
theorem dd_X5_guard_44 : jd cX5_guard 44 (.ifCond .ne 43) 3 47 := ⟨by decide +kernel, rfl⟩
theorem dd_X5_guard_87 : jd cX5_guard 87 (.iinc 4 1) 3 90 := ⟨by decide +kernel, rfl⟩
theorem dd_X5_guard_90 : jd cX5_guard 90 (.goto (-66)) 3 93 := ⟨by decide +kernel, rfl⟩
theorem dd_X5_guard_30 : jd cX5_guard 30 (.if_icmp .ge 63) 3 33 := ⟨by decide +kernel, rfl⟩
theorem dd_X5_guard_93 : jd cX5_guard 93 (.iload_n 3) 1 94 := ⟨by decide +kernel, rfl⟩
theorem dd_X5_guard_94 : jd cX5_guard 94 (.bipush (-4)) 2 96 := ⟨by decide +kernel, rfl⟩
theorem dd_X5_guard_104 : jd cX5_guard 104 (.iload_n 1) 1 105 := ⟨by decide +kernel, rfl⟩
theorem dd_X5_guard_112 : jd cX5_guard 112 (.iload_n 2) 1 113 := ⟨by decide +kernel, rfl⟩
theorem dd_X5_guard_113 : jd cX5_guard 113 (.ireturn) 1 114 := ⟨by decide +kernel, rfl⟩
theorem dd_X5_guard_108 : jd cX5_guard 108 (.iload_n 3) 1 109 := ⟨by decide +kernel, rfl⟩
theorem dd_X5_guard_109 : jd cX5_guard 109 (.goto 4) 3 112 := ⟨by decide +kernel, rfl⟩
theorem dd_X5_guard_105 : jd cX5_guard 105 (.ifCond .ne 7) 3 108 := ⟨by decide +kernel, rfl⟩
theorem dd_X5_guard_99 : jd cX5_guard 99 (.bipush (-4)) 2 101 := ⟨by decide +kernel, rfl⟩
theorem dd_X5_guard_101 : jd cX5_guard 101 (.goto 12) 3 104 := ⟨by decide +kernel, rfl⟩
theorem dd_X5_guard_96 : jd cX5_guard 96 (.if_icmp .ne 8) 3 99 := ⟨by decide +kernel, rfl⟩
theorem dd_X5_guard_7 : jd cX5_guard 7 (.iconst (-1)) 1 8 := ⟨by decide +kernel, rfl⟩
theorem dd_X5_guard_8 : jd cX5_guard 8 (.ireturn) 1 9 := ⟨by decide +kernel, rfl⟩
theorem dd_X5_guard_4 : jd cX5_guard 4 (.ifCond .ne 5) 3 7 := ⟨by decide +kernel, rfl⟩
theorem m_X5_guard : jmV yX5_guard cX5_guard 6 (some .int) 1 := ⟨⟨(jj_m (w := Cond.code yX5_guard cX5_guard 6 (some .int)) (List.mem_of_getElem? (i := 1169) (by decide +kernel)) rfl), (jj_m (w := Cond.initialized yX5_guard.cls) (List.mem_of_getElem? (i := 69) (by decide +kernel)) rfl), ⟨by decide, by decide⟩, by decide +kernel⟩, (jj_m (w := Cond.instanceMethod yX5_guard) (List.mem_of_getElem? (i := 1167) (by decide +kernel)) rfl), (jj_m (w := Cond.selects yX5_guard.cls yX5_guard yX5_guard) (List.mem_of_getElem? (i := 1168) (by decide +kernel)) rfl)⟩
def fX5_guard_L24 (i1 : Int32) (k93 : (Int32 × Int32 × M2) → Option (Int32 × M2)) : Nat → Int32 → Int32 → Int32 → M2 → Option (Int32 × M2)
  | 0, _, _, _, _ => none
  | n_ + 1, v6, v7, v8, S9 =>
    if (S9 3 0) ≤ v8 then
      k93 (v6, v7, S9)
    else
      (fX5_starts  S9).bind fun q10 =>
      lt (q10) fun S11 =>
      (fX5_of v8 (3 : Int32) S11).bind fun r12 =>
      jn (α := Option (Int32 × M2)) (β := Int32 × Int32 × M2) (fun j13 =>
        if r12 = 0 then
          (fX5_becomesOf v8 (3 : Int32) (1 : Int32) S11).bind fun q14 =>
          lt (q14) fun S15 =>
          (fX5_dutyNext  S15).bind fun q16 =>
          lt (q16.2) fun S17 =>
          jn (α := Option (Int32 × M2)) (β := Int32) (fun j18 =>
            if v6 ≤ q16.1 then
              j18 v7
            else
              j18 v8) (fun p20 => 
            jn (α := Option (Int32 × M2)) (β := Int32) (fun j21 =>
              if v6 ≤ q16.1 then
                j21 v6
              else
                j21 q16.1) (fun p23 => 
              j13 (p23, p20, S17)))
        else
          j13 (v6, v7, S11)) (fun p25 => 
        lt (v8 + (1 : Int32)) fun x26 =>
        fX5_guard_L24 i1 k93 n_ p25.1 p25.2.1 x26 p25.2.2)

def fX5_guard (i1 : Int32) (S : M2) : Option (Int32 × M2) :=
  (fX5_isPart i1).bind fun r1 =>
  if r1 = 0 then
    some ((-1 : Int32), S)
  else
    (fX5_starts  S).bind fun q2 =>
    lt (q2) fun S3 =>
    (fX5_dutyNext  S3).bind fun q4 =>
    lt (q4.2) fun S5 =>
    fX5_guard_L24 i1
      (fun p28 =>
        if p28.2.1 = (-4 : Int32) then
          some ((-4 : Int32), p28.2.2)
        else
          if i1 = 0 then
            some (p28.2.1, p28.2.2)
          else
            some (p28.1, p28.2.2))
      400 q4.1 (-4 : Int32) (0 : Int32) S5

set_option maxHeartbeats 4000000 in
set_option maxRecDepth 100000 in
theorem tX5_guard_L24 {V : JV M2} {b : Nat} {a : Nat → Nat} (hv : vX5 V b a) (i1 : Int32) {E : JE (M2) Int32} (hE : JOk V E cX5_guard yX5_guard.cls 6 5 (some .int) jj_i) {k93 : (Int32 × Int32 × M2) → Option (Int32 × M2)} (hk93 : ∀ p, J V E (fun q => (q.1, q.2)) (k93 p) 93 [(1, .int i1), (2, .int p.1), (3, .int p.2.1)] [] p.2.2) : ∀ (n_ : Nat) (v6 : Int32) (v7 : Int32) (v8 : Int32) (S9 : M2), J V E (fun q => (q.1, q.2)) (fX5_guard_L24 i1 k93 n_ v6 v7 v8 S9) 24 [(0, .ref b), (1, .int i1), (2, .int v6), (3, .int v7), (4, .int v8)] [] S9 := by
  intro n_
  induction n_ with
  | zero =>
    intros
    exact J_none
  | succ n_ ih =>
    intros v6 v7 v8 S9
    rw [fX5_guard_L24]
    refine J_iload hE dd_X5_guard_24 4 rfl ?_
    refine J_aload_n hE dd_X5_guard_26 0 rfl rfl ?_
    refine J_get hE (hv.ob _) jc_X5 3 (by decide) fl_RX5_63 (v := .int (S9 3 0)) rfl dd_X5_guard_27 ?_
    refine J_icmp_ge hE (tgt := 93) dd_X5_guard_30 (by decide) (fun c27 => ?_) (fun c27 => ?_)
    · refine J_sub [1, 2, 3] rfl ?_
      exact hk93 (v6, v7, S9)
    · refine J_aload_n hE dd_X5_guard_33 0 rfl rfl ?_
      refine J_invVwv hE (e := fun x => x) (As := []) (st := []) (tX5_starts E.2.1 hv S9 ) (hv.ob _) m_X5_starts rfl ml_RX5_199 (Nat.le_of_ble_eq_true rfl) (Nat.le_of_ble_eq_true rfl) rfl (Nat.le_of_ble_eq_true rfl) dd_X5_guard_34 (fun q10 => ?_)
      refine J_letS (fun S11 => ?_)
      refine J_aload_n hE dd_X5_guard_37 0 rfl rfl ?_
      refine J_iload hE dd_X5_guard_38 4 rfl ?_
      refine J_iconst hE (v := (3 : Int32)) dd_X5_guard_40 (by decide) ?_
      refine J_invVri hE (As := [.int v8, .int (3 : Int32)]) (st := []) (tX5_of E.2.1 hv S11 v8 (3 : Int32)) (hv.ob _) m_X5_of rfl ml_RX5_155 (Nat.le_of_ble_eq_true rfl) (Nat.le_of_ble_eq_true rfl) rfl (Nat.le_of_ble_eq_true rfl) dd_X5_guard_41 (fun r12 => ?_)
      refine J_jn (m := 87) (Lf := fun p25 => [(0, .ref b), (1, .int i1), (2, .int p25.1), (3, .int p25.2.1), (4, .int v8)]) (sf := fun p25 => []) (Xf := fun p25 => p25.2.2) (fun p25 => ?_) (fun hj13 => ?_)
      · show J V E _ _ 87 [(0, .ref b), (1, .int i1), (2, .int p25.1), (3, .int p25.2.1), (4, .int v8)] [] p25.2.2
        refine J_iincL hE (v := (v8 + (1 : Int32))) (Lf := fun x26 => [(4, .int x26), (0, .ref b), (1, .int i1), (2, .int p25.1), (3, .int p25.2.1)]) dd_X5_guard_87 (j := 4) rfl (congrArg (v8 + ·) (by decide)) (Nat.le_of_ble_eq_true rfl) (fun _ => rfl) (fun x26 => ?_)
        refine J_goto hE (tgt := 24) dd_X5_guard_90 (by decide) ?_
        refine J_sub [1, 2, 3, 4, 0] rfl ?_
        exact ih p25.1 p25.2.1 x26 p25.2.2
      · refine J_if_ne hE (tgt := 87) dd_X5_guard_44 (by decide) (fun c24 => ?_) (fun c24 => ?_)
        · refine J_sub [0, 1, 2, 3, 4] rfl ?_
          exact hj13 (v6, v7, S11)
        · refine J_aload_n hE dd_X5_guard_47 0 rfl rfl ?_
          refine J_iload hE dd_X5_guard_48 4 rfl ?_
          refine J_iconst hE (v := (3 : Int32)) dd_X5_guard_50 (by decide) ?_
          refine J_iconst hE (v := (1 : Int32)) dd_X5_guard_51 (by decide) ?_
          refine J_invVwv hE (e := fun x => x) (As := [.int v8, .int (3 : Int32), .int (1 : Int32)]) (st := []) (tX5_becomesOf E.2.1 hv S11 v8 (3 : Int32) (1 : Int32)) (hv.ob _) m_X5_becomesOf rfl ml_RX5_176 (Nat.le_of_ble_eq_true rfl) (Nat.le_of_ble_eq_true rfl) rfl (Nat.le_of_ble_eq_true rfl) dd_X5_guard_52 (fun q14 => ?_)
          refine J_letS (fun S15 => ?_)
          refine J_aload_n hE dd_X5_guard_55 0 rfl rfl ?_
          refine J_invVwi hE (e := fun x => x) (As := []) (st := []) (tX5_dutyNext E.2.1 hv S15 ) (hv.ob _) m_X5_dutyNext rfl ml_RX5_264 (Nat.le_of_ble_eq_true rfl) (Nat.le_of_ble_eq_true rfl) rfl (Nat.le_of_ble_eq_true rfl) dd_X5_guard_56 (fun q16 => ?_)
          refine J_letS (fun S17 => ?_)
          refine J_istore hE (L' := [(5, .int q16.1), (0, .ref b), (1, .int i1), (2, .int v6), (3, .int v7), (4, .int v8)]) dd_X5_guard_59 (Nat.le_of_ble_eq_true rfl) rfl ?_
          refine J_iload hE dd_X5_guard_61 0 rfl ?_
          refine J_iload_n hE dd_X5_guard_63 3 rfl rfl ?_
          refine J_jn (m := 73) (Lf := fun p20 => [(0, .ref b), (1, .int i1), (2, .int v6), (4, .int v8), (5, .int q16.1)]) (sf := fun p20 => [.int p20]) (Xf := fun p20 => S17) (fun p20 => ?_) (fun hj18 => ?_)
          · show J V E _ _ 73 [(0, .ref b), (1, .int i1), (2, .int v6), (4, .int v8), (5, .int q16.1)] [.int p20] S17
            refine J_istore_n hE (L' := [(3, .int p20), (0, .ref b), (1, .int i1), (2, .int v6), (4, .int v8), (5, .int q16.1)]) dd_X5_guard_73 (Nat.le_of_ble_eq_true rfl) rfl rfl ?_
            refine J_iload hE dd_X5_guard_74 5 rfl ?_
            refine J_iload_n hE dd_X5_guard_76 3 rfl rfl ?_
            refine J_jn (m := 86) (Lf := fun p23 => [(0, .ref b), (1, .int i1), (3, .int p20), (4, .int v8)]) (sf := fun p23 => [.int p23]) (Xf := fun p23 => S17) (fun p23 => ?_) (fun hj21 => ?_)
            · show J V E _ _ 86 [(0, .ref b), (1, .int i1), (3, .int p20), (4, .int v8)] [.int p23] S17
              refine J_istore_n hE (L' := [(2, .int p23), (0, .ref b), (1, .int i1), (3, .int p20), (4, .int v8)]) dd_X5_guard_86 (Nat.le_of_ble_eq_true rfl) rfl rfl ?_
              refine J_sub [1, 2, 0, 3, 4] rfl ?_
              exact hj13 (p23, p20, S17)
            · refine J_icmp_ge hE (tgt := 85) dd_X5_guard_77 (by decide) (fun c22 => ?_) (fun c22 => ?_)
              · refine J_iload_n hE dd_X5_guard_85 3 rfl rfl ?_
                refine J_sub [1, 2, 0, 4] rfl ?_
                exact hj21 v6
              · refine J_iload hE dd_X5_guard_80 5 rfl ?_
                refine J_goto hE (tgt := 86) dd_X5_guard_82 (by decide) ?_
                refine J_sub [1, 2, 0, 4] rfl ?_
                exact hj21 q16.1
          · refine J_icmp_ge hE (tgt := 72) dd_X5_guard_64 (by decide) (fun c19 => ?_) (fun c19 => ?_)
            · refine J_iload_n hE dd_X5_guard_72 4 rfl rfl ?_
              refine J_sub [1, 2, 3, 5, 0] rfl ?_
              exact hj18 v7
            · refine J_iload hE dd_X5_guard_67 5 rfl ?_
              refine J_goto hE (tgt := 73) dd_X5_guard_69 (by decide) ?_
              refine J_sub [1, 2, 3, 5, 0] rfl ?_
              exact hj18 v8
set_option maxHeartbeats 4000000 in
set_option maxRecDepth 100000 in
theorem tX5_guard (l : Launch) {V : JV M2} {b : Nat} {a : Nat → Nat} (hv : vX5 V b a) (S : M2) (i1 : Int32) : JC l V yX5_guard cX5_guard 6 (some .int) jj_i 5 [.ref b, .int i1] S ((fX5_guard i1 S).map (fun q => (q.1, q.2))) := by
  refine jj_of (by decide) (Nat.le_of_ble_eq_true rfl) (fun E hlE hE => ?_)
  unfold fX5_guard
  refine J_sub (L' := [(0, .ref b), (1, .int i1)]) [0, 1] rfl ?_
  refine J_iload_n hE dd_X5_guard_0 1 rfl rfl ?_
  refine J_invSri hE (As := [.int i1]) (st := []) (tX5_isPart E.2.1 V S i1) m_X5_isPart s_X5_isPart rfl ml_RX5_239 (Nat.le_of_ble_eq_true rfl) (Nat.le_of_ble_eq_true rfl) rfl (Nat.le_of_ble_eq_true rfl) dd_X5_guard_1 (fun r1 => ?_)
  refine J_if_ne hE (tgt := 9) dd_X5_guard_4 (by decide) (fun c31 => ?_) (fun c31 => ?_)
  · refine J_aload_n hE dd_X5_guard_9 0 rfl rfl ?_
    refine J_invVwv hE (e := fun x => x) (As := []) (st := []) (tX5_starts E.2.1 hv S ) (hv.ob _) m_X5_starts rfl ml_RX5_199 (Nat.le_of_ble_eq_true rfl) (Nat.le_of_ble_eq_true rfl) rfl (Nat.le_of_ble_eq_true rfl) dd_X5_guard_10 (fun q2 => ?_)
    refine J_letS (fun S3 => ?_)
    refine J_aload_n hE dd_X5_guard_13 0 rfl rfl ?_
    refine J_invVwi hE (e := fun x => x) (As := []) (st := []) (tX5_dutyNext E.2.1 hv S3 ) (hv.ob _) m_X5_dutyNext rfl ml_RX5_264 (Nat.le_of_ble_eq_true rfl) (Nat.le_of_ble_eq_true rfl) rfl (Nat.le_of_ble_eq_true rfl) dd_X5_guard_14 (fun q4 => ?_)
    refine J_letS (fun S5 => ?_)
    refine J_istore_n hE (L' := [(2, .int q4.1), (0, .ref b), (1, .int i1)]) dd_X5_guard_17 (Nat.le_of_ble_eq_true rfl) rfl rfl ?_
    refine J_bipush hE (v := (-4 : Int32)) dd_X5_guard_18 (by decide) ?_
    refine J_istore_n hE (L' := [(3, .int (-4 : Int32)), (2, .int q4.1), (0, .ref b), (1, .int i1)]) dd_X5_guard_20 (Nat.le_of_ble_eq_true rfl) rfl rfl ?_
    refine J_iconst hE (v := (0 : Int32)) dd_X5_guard_21 (by decide) ?_
    refine J_istore hE (L' := [(4, .int (0 : Int32)), (3, .int (-4 : Int32)), (2, .int q4.1), (0, .ref b), (1, .int i1)]) dd_X5_guard_22 (Nat.le_of_ble_eq_true rfl) rfl ?_
    refine J_sub [3, 4, 2, 1, 0] rfl ?_
    refine tX5_guard_L24 hv i1 hE (fun p28 => ?_) 400 q4.1 (-4 : Int32) (0 : Int32) S5
    show J V E _ _ 93 [(1, .int i1), (2, .int p28.1), (3, .int p28.2.1)] [] p28.2.2
    refine J_iload_n hE dd_X5_guard_93 2 rfl rfl ?_
    refine J_bipush hE (v := (-4 : Int32)) dd_X5_guard_94 (by decide) ?_
    refine J_icmp_ne hE (tgt := 104) dd_X5_guard_96 (by decide) (fun c30 => ?_) (fun c30 => ?_)
    · refine J_iload_n hE dd_X5_guard_104 0 rfl rfl ?_
      refine J_if_ne hE (tgt := 112) dd_X5_guard_105 (by decide) (fun c29 => ?_) (fun c29 => ?_)
      · refine J_iload_n hE dd_X5_guard_112 1 rfl rfl ?_
        exact J_iret hE dd_X5_guard_113 rfl rfl
      · refine J_iload_n hE dd_X5_guard_108 2 rfl rfl ?_
        refine J_goto hE (tgt := 113) dd_X5_guard_109 (by decide) ?_
        exact J_iret hE dd_X5_guard_113 rfl rfl
    · refine J_bipush hE (v := (-4 : Int32)) dd_X5_guard_99 (by decide) ?_
      refine J_goto hE (tgt := 113) dd_X5_guard_101 (by decide) ?_
      exact J_iret hE dd_X5_guard_113 rfl rfl
  · refine J_iconst hE (v := (-1 : Int32)) dd_X5_guard_7 (by decide) ?_
    exact J_iret hE dd_X5_guard_8 rfl rfl
theorem dd_X5_send_0 : jd cX5_send 0 (.aload_n 0) 1 1 := ⟨by decide +kernel, rfl⟩
theorem dd_X5_send_1 : jd cX5_send 1 (.iload_n 1) 1 2 := ⟨by decide +kernel, rfl⟩
theorem dd_X5_send_2 : jd cX5_send 2 (.invokevirtual 210) 3 5 := ⟨by decide +kernel, rfl⟩
theorem dd_X5_send_15 : jd cX5_send 15 (.iconst (-1)) 1 16 := ⟨by decide +kernel, rfl⟩
theorem dd_X5_send_16 : jd cX5_send 16 (.ireturn) 1 17 := ⟨by decide +kernel, rfl⟩
theorem dd_X5_send_8 : jd cX5_send 8 (.iload_n 2) 1 9 := ⟨by decide +kernel, rfl⟩
theorem dd_X5_send_9 : jd cX5_send 9 (.invokestatic 239) 3 12 := ⟨by decide +kernel, rfl⟩
theorem dd_X5_send_17 : jd cX5_send 17 (.iconst (-1)) 1 18 := ⟨by decide +kernel, rfl⟩
theorem dd_X5_send_18 : jd cX5_send 18 (.istore_n 3) 1 19 := ⟨by decide +kernel, rfl⟩
theorem dd_X5_send_19 : jd cX5_send 19 (.iconst 0) 1 20 := ⟨by decide +kernel, rfl⟩
theorem dd_X5_send_20 : jd cX5_send 20 (.istore 4) 2 22 := ⟨by decide +kernel, rfl⟩
theorem dd_X5_send_22 : jd cX5_send 22 (.iconst 0) 1 23 := ⟨by decide +kernel, rfl⟩
theorem dd_X5_send_23 : jd cX5_send 23 (.istore 5) 2 25 := ⟨by decide +kernel, rfl⟩
theorem dd_X5_send_25 : jd cX5_send 25 (.iload 5) 2 27 := ⟨by decide +kernel, rfl⟩
theorem dd_X5_send_27 : jd cX5_send 27 (.iconst 3) 1 28 := ⟨by decide +kernel, rfl⟩
theorem dd_X5_send_31 : jd cX5_send 31 (.aload_n 0) 1 32 := ⟨by decide +kernel, rfl⟩
theorem dd_X5_send_32 : jd cX5_send 32 (.invokevirtual 199) 3 35 := ⟨by decide +kernel, rfl⟩
theorem dd_X5_send_35 : jd cX5_send 35 (.aload_n 0) 1 36 := ⟨by decide +kernel, rfl⟩
theorem dd_X5_send_36 : jd cX5_send 36 (.getfield 13) 3 39 := ⟨by decide +kernel, rfl⟩
theorem dd_X5_send_39 : jd cX5_send 39 (.bipush 30) 2 41 := ⟨by decide +kernel, rfl⟩
theorem dd_X5_send_41 : jd cX5_send 41 (.iconst 4) 1 42 := ⟨by decide +kernel, rfl⟩
theorem dd_X5_send_42 : jd cX5_send 42 (.iload_n 1) 1 43 := ⟨by decide +kernel, rfl⟩
theorem dd_X5_send_43 : jd cX5_send 43 (.imul) 1 44 := ⟨by decide +kernel, rfl⟩
theorem dd_X5_send_44 : jd cX5_send 44 (.iadd) 1 45 := ⟨by decide +kernel, rfl⟩
theorem dd_X5_send_45 : jd cX5_send 45 (.iconst 3) 1 46 := ⟨by decide +kernel, rfl⟩
theorem dd_X5_send_46 : jd cX5_send 46 (.iadd) 1 47 := ⟨by decide +kernel, rfl⟩
theorem dd_X5_send_47 : jd cX5_send 47 (.iload 5) 2 49 := ⟨by decide +kernel, rfl⟩
theorem dd_X5_send_49 : jd cX5_send 49 (.iastore) 1 50 := ⟨by decide +kernel, rfl⟩
theorem dd_X5_send_50 : jd cX5_send 50 (.aload_n 0) 1 51 := ⟨by decide +kernel, rfl⟩
theorem dd_X5_send_51 : jd cX5_send 51 (.invokevirtual 264) 3 54 := ⟨by decide +kernel, rfl⟩
theorem dd_X5_send_54 : jd cX5_send 54 (.istore 6) 2 56 := ⟨by decide +kernel, rfl⟩
theorem dd_X5_send_56 : jd cX5_send 56 (.iload 6) 2 58 := ⟨by decide +kernel, rfl⟩
theorem dd_X5_send_58 : jd cX5_send 58 (.iload_n 3) 1 59 := ⟨by decide +kernel, rfl⟩
theorem dd_X5_send_67 : jd cX5_send 67 (.iload 4) 2 69 := ⟨by decide +kernel, rfl⟩
theorem dd_X5_send_62 : jd cX5_send 62 (.iload 5) 2 64 := ⟨by decide +kernel, rfl⟩
theorem dd_X5_send_64 : jd cX5_send 64 (.goto 5) 3 67 := ⟨by decide +kernel, rfl⟩
theorem dd_X5_send_59 : jd cX5_send 59 (.if_icmp .le 8) 3 62 := ⟨by decide +kernel, rfl⟩
theorem dd_X5_send_69 : jd cX5_send 69 (.istore 4) 2 71 := ⟨by decide +kernel, rfl⟩
theorem dd_X5_send_71 : jd cX5_send 71 (.iload 6) 2 73 := ⟨by decide +kernel, rfl⟩
theorem dd_X5_send_73 : jd cX5_send 73 (.iload_n 3) 1 74 := ⟨by decide +kernel, rfl⟩
theorem dd_X5_send_82 : jd cX5_send 82 (.iload_n 3) 1 83 := ⟨by decide +kernel, rfl⟩
theorem dd_X5_send_77 : jd cX5_send 77 (.iload 6) 2 79 := ⟨by decide +kernel, rfl⟩
theorem dd_X5_send_79 : jd cX5_send 79 (.goto 4) 3 82 := ⟨by decide +kernel, rfl⟩
theorem dd_X5_send_74 : jd cX5_send 74 (.if_icmp .le 8) 3 77 := ⟨by decide +kernel, rfl⟩
theorem dd_X5_send_83 : jd cX5_send 83 (.istore_n 3) 1 84 := ⟨by decide +kernel, rfl⟩
theorem dd_X5_send_84 : jd cX5_send 84 (.iinc 5 1) 3 87 := ⟨by decide +kernel, rfl⟩
theorem dd_X5_send_87 : jd cX5_send 87 (.goto (-62)) 3 90 := ⟨by decide +kernel, rfl⟩
theorem dd_X5_send_28 : jd cX5_send 28 (.if_icmp .ge 62) 3 31 := ⟨by decide +kernel, rfl⟩
theorem dd_X5_send_90 : jd cX5_send 90 (.iload_n 2) 1 91 := ⟨by decide +kernel, rfl⟩
theorem dd_X5_send_99 : jd cX5_send 99 (.iload_n 3) 1 100 := ⟨by decide +kernel, rfl⟩
theorem dd_X5_send_100 : jd cX5_send 100 (.ireturn) 1 101 := ⟨by decide +kernel, rfl⟩
theorem dd_X5_send_94 : jd cX5_send 94 (.iload 4) 2 96 := ⟨by decide +kernel, rfl⟩
theorem dd_X5_send_96 : jd cX5_send 96 (.goto 4) 3 99 := ⟨by decide +kernel, rfl⟩
theorem dd_X5_send_91 : jd cX5_send 91 (.ifCond .ne 8) 3 94 := ⟨by decide +kernel, rfl⟩
theorem dd_X5_send_12 : jd cX5_send 12 (.ifCond .ne 5) 3 15 := ⟨by decide +kernel, rfl⟩
theorem dd_X5_send_5 : jd cX5_send 5 (.ifCond .eq 10) 3 8 := ⟨by decide +kernel, rfl⟩
theorem m_X5_send : jmV yX5_send cX5_send 7 (some .int) 2 := ⟨⟨(jj_m (w := Cond.code yX5_send cX5_send 7 (some .int)) (List.mem_of_getElem? (i := 1173) (by decide +kernel)) rfl), (jj_m (w := Cond.initialized yX5_send.cls) (List.mem_of_getElem? (i := 69) (by decide +kernel)) rfl), ⟨by decide, by decide⟩, by decide +kernel⟩, (jj_m (w := Cond.instanceMethod yX5_send) (List.mem_of_getElem? (i := 1171) (by decide +kernel)) rfl), (jj_m (w := Cond.selects yX5_send.cls yX5_send yX5_send) (List.mem_of_getElem? (i := 1172) (by decide +kernel)) rfl)⟩
def fX5_send_L25 (i1 : Int32) (i2 : Int32) (k90 : (Int32 × Int32 × M2) → Option (Int32 × M2)) : Nat → Int32 → Int32 → Int32 → M2 → Option (Int32 × M2)
  | 0, _, _, _, _ => none
  | n_ + 1, v3, v4, v5, S6 =>
    if (3 : Int32) ≤ v5 then
      k90 (v3, v4, S6)
    else
      (fX5_starts  S6).bind fun q7 =>
      lt (q7) fun S8 =>
      bnd (((30 : Int32) + ((4 : Int32) * i1)) + (3 : Int32)) 62 <|
      lt (va_up S8 1 (upd (S8 1) (((30 : Int32) + ((4 : Int32) * i1)) + (3 : Int32)).toNatClampNeg v5)) fun S9 =>
      (fX5_dutyNext  S9).bind fun q10 =>
      lt (q10.2) fun S11 =>
      jn (α := Option (Int32 × M2)) (β := Int32) (fun j12 =>
        if q10.1 ≤ v3 then
          j12 v4
        else
          j12 v5) (fun p14 => 
        jn (α := Option (Int32 × M2)) (β := Int32) (fun j15 =>
          if q10.1 ≤ v3 then
            j15 v3
          else
            j15 q10.1) (fun p17 => 
          lt (v5 + (1 : Int32)) fun x18 =>
          fX5_send_L25 i1 i2 k90 n_ p17 p14 x18 S11))

def fX5_send (i1 : Int32) (i2 : Int32) (S : M2) : Option (Int32 × M2) :=
  (fX5_isMoth i1 S).bind fun r1 =>
  if r1 = 0 then
    some ((-1 : Int32), S)
  else
    (fX5_isPart i2).bind fun r2 =>
    if r2 = 0 then
      some ((-1 : Int32), S)
    else
      fX5_send_L25 i1 i2
        (fun p20 =>
          if i2 = 0 then
            some (p20.2.1, p20.2.2)
          else
            some (p20.1, p20.2.2))
        400 (-1 : Int32) (0 : Int32) (0 : Int32) S

set_option maxHeartbeats 4000000 in
set_option maxRecDepth 100000 in
theorem tX5_send_L25 {V : JV M2} {b : Nat} {a : Nat → Nat} (hv : vX5 V b a) (i1 : Int32) (i2 : Int32) {E : JE (M2) Int32} (hE : JOk V E cX5_send yX5_send.cls 7 5 (some .int) jj_i) {k90 : (Int32 × Int32 × M2) → Option (Int32 × M2)} (hk90 : ∀ p, J V E (fun q => (q.1, q.2)) (k90 p) 90 [(2, .int i2), (3, .int p.1), (4, .int p.2.1)] [] p.2.2) : ∀ (n_ : Nat) (v3 : Int32) (v4 : Int32) (v5 : Int32) (S6 : M2), J V E (fun q => (q.1, q.2)) (fX5_send_L25 i1 i2 k90 n_ v3 v4 v5 S6) 25 [(0, .ref b), (1, .int i1), (2, .int i2), (3, .int v3), (4, .int v4), (5, .int v5)] [] S6 := by
  intro n_
  induction n_ with
  | zero =>
    intros
    exact J_none
  | succ n_ ih =>
    intros v3 v4 v5 S6
    rw [fX5_send_L25]
    refine J_iload hE dd_X5_send_25 5 rfl ?_
    refine J_iconst hE (v := (3 : Int32)) dd_X5_send_27 (by decide) ?_
    refine J_icmp_ge hE (tgt := 90) dd_X5_send_28 (by decide) (fun c19 => ?_) (fun c19 => ?_)
    · refine J_sub [2, 3, 4] rfl ?_
      exact hk90 (v3, v4, S6)
    · refine J_aload_n hE dd_X5_send_31 0 rfl rfl ?_
      refine J_invVwv hE (e := fun x => x) (As := []) (st := []) (tX5_starts E.2.1 hv S6 ) (hv.ob _) m_X5_starts rfl ml_RX5_199 (Nat.le_of_ble_eq_true rfl) (Nat.le_of_ble_eq_true rfl) rfl (Nat.le_of_ble_eq_true rfl) dd_X5_send_32 (fun q7 => ?_)
      refine J_letS (fun S8 => ?_)
      refine J_aload_n hE dd_X5_send_35 0 rfl rfl ?_
      refine J_get hE (hv.ob _) jc_X5 1 (by decide) fl_RX5_13 (v := .ref (a 1)) rfl dd_X5_send_36 ?_
      refine J_bipush hE (v := (30 : Int32)) dd_X5_send_39 (by decide) ?_
      refine J_iconst hE (v := (4 : Int32)) dd_X5_send_41 (by decide) ?_
      refine J_iload_n hE dd_X5_send_42 1 rfl rfl ?_
      refine J_imul hE dd_X5_send_43 ?_
      refine J_iadd hE dd_X5_send_44 ?_
      refine J_iconst hE (v := (3 : Int32)) dd_X5_send_45 (by decide) ?_
      refine J_iadd hE dd_X5_send_46 ?_
      refine J_iload hE dd_X5_send_47 5 rfl ?_
      refine J_ast hE hv 1 (N := 62) (by decide) dd_X5_send_49 ?_
      refine J_letS (fun S9 => ?_)
      refine J_aload_n hE dd_X5_send_50 0 rfl rfl ?_
      refine J_invVwi hE (e := fun x => x) (As := []) (st := []) (tX5_dutyNext E.2.1 hv S9 ) (hv.ob _) m_X5_dutyNext rfl ml_RX5_264 (Nat.le_of_ble_eq_true rfl) (Nat.le_of_ble_eq_true rfl) rfl (Nat.le_of_ble_eq_true rfl) dd_X5_send_51 (fun q10 => ?_)
      refine J_letS (fun S11 => ?_)
      refine J_istore hE (L' := [(6, .int q10.1), (0, .ref b), (1, .int i1), (2, .int i2), (3, .int v3), (4, .int v4), (5, .int v5)]) dd_X5_send_54 (Nat.le_of_ble_eq_true rfl) rfl ?_
      refine J_iload hE dd_X5_send_56 0 rfl ?_
      refine J_iload_n hE dd_X5_send_58 4 rfl rfl ?_
      refine J_jn (m := 69) (Lf := fun p14 => [(0, .ref b), (1, .int i1), (2, .int i2), (3, .int v3), (5, .int v5), (6, .int q10.1)]) (sf := fun p14 => [.int p14]) (Xf := fun p14 => S11) (fun p14 => ?_) (fun hj12 => ?_)
      · show J V E _ _ 69 [(0, .ref b), (1, .int i1), (2, .int i2), (3, .int v3), (5, .int v5), (6, .int q10.1)] [.int p14] S11
        refine J_istore hE (L' := [(4, .int p14), (0, .ref b), (1, .int i1), (2, .int i2), (3, .int v3), (5, .int v5), (6, .int q10.1)]) dd_X5_send_69 (Nat.le_of_ble_eq_true rfl) rfl ?_
        refine J_iload hE dd_X5_send_71 6 rfl ?_
        refine J_iload_n hE dd_X5_send_73 4 rfl rfl ?_
        refine J_jn (m := 83) (Lf := fun p17 => [(0, .ref b), (1, .int i1), (2, .int i2), (4, .int p14), (5, .int v5)]) (sf := fun p17 => [.int p17]) (Xf := fun p17 => S11) (fun p17 => ?_) (fun hj15 => ?_)
        · show J V E _ _ 83 [(0, .ref b), (1, .int i1), (2, .int i2), (4, .int p14), (5, .int v5)] [.int p17] S11
          refine J_istore_n hE (L' := [(3, .int p17), (0, .ref b), (1, .int i1), (2, .int i2), (4, .int p14), (5, .int v5)]) dd_X5_send_83 (Nat.le_of_ble_eq_true rfl) rfl rfl ?_
          refine J_iincL hE (v := (v5 + (1 : Int32))) (Lf := fun x18 => [(5, .int x18), (3, .int p17), (0, .ref b), (1, .int i1), (2, .int i2), (4, .int p14)]) dd_X5_send_84 (j := 5) rfl (congrArg (v5 + ·) (by decide)) (Nat.le_of_ble_eq_true rfl) (fun _ => rfl) (fun x18 => ?_)
          refine J_goto hE (tgt := 25) dd_X5_send_87 (by decide) ?_
          refine J_sub [2, 3, 4, 1, 5, 0] rfl ?_
          exact ih p17 p14 x18 S11
        · refine J_icmp_le hE (tgt := 82) dd_X5_send_74 (by decide) (fun c16 => ?_) (fun c16 => ?_)
          · refine J_iload_n hE dd_X5_send_82 4 rfl rfl ?_
            refine J_sub [1, 2, 3, 0, 5] rfl ?_
            exact hj15 v3
          · refine J_iload hE dd_X5_send_77 6 rfl ?_
            refine J_goto hE (tgt := 83) dd_X5_send_79 (by decide) ?_
            refine J_sub [1, 2, 3, 0, 5] rfl ?_
            exact hj15 q10.1
      · refine J_icmp_le hE (tgt := 67) dd_X5_send_59 (by decide) (fun c13 => ?_) (fun c13 => ?_)
        · refine J_iload hE dd_X5_send_67 5 rfl ?_
          refine J_sub [1, 2, 3, 4, 6, 0] rfl ?_
          exact hj12 v4
        · refine J_iload hE dd_X5_send_62 6 rfl ?_
          refine J_goto hE (tgt := 69) dd_X5_send_64 (by decide) ?_
          refine J_sub [1, 2, 3, 4, 6, 0] rfl ?_
          exact hj12 v5
set_option maxHeartbeats 4000000 in
set_option maxRecDepth 100000 in
theorem tX5_send (l : Launch) {V : JV M2} {b : Nat} {a : Nat → Nat} (hv : vX5 V b a) (S : M2) (i1 : Int32) (i2 : Int32) : JC l V yX5_send cX5_send 7 (some .int) jj_i 5 [.ref b, .int i1, .int i2] S ((fX5_send i1 i2 S).map (fun q => (q.1, q.2))) := by
  refine jj_of (by decide) (Nat.le_of_ble_eq_true rfl) (fun E hlE hE => ?_)
  unfold fX5_send
  refine J_sub (L' := [(0, .ref b), (1, .int i1), (2, .int i2)]) [0, 1, 2] rfl ?_
  refine J_aload_n hE dd_X5_send_0 0 rfl rfl ?_
  refine J_iload_n hE dd_X5_send_1 1 rfl rfl ?_
  refine J_invVri hE (As := [.int i1]) (st := []) (tX5_isMoth E.2.1 hv S i1) (hv.ob _) m_X5_isMoth rfl ml_RX5_210 (Nat.le_of_ble_eq_true rfl) (Nat.le_of_ble_eq_true rfl) rfl (Nat.le_of_ble_eq_true rfl) dd_X5_send_2 (fun r1 => ?_)
  refine J_if_eq hE (tgt := 15) dd_X5_send_5 (by decide) (fun c23 => ?_) (fun c23 => ?_)
  · refine J_iconst hE (v := (-1 : Int32)) dd_X5_send_15 (by decide) ?_
    exact J_iret hE dd_X5_send_16 rfl rfl
  · refine J_iload_n hE dd_X5_send_8 2 rfl rfl ?_
    refine J_invSri hE (As := [.int i2]) (st := []) (tX5_isPart E.2.1 V S i2) m_X5_isPart s_X5_isPart rfl ml_RX5_239 (Nat.le_of_ble_eq_true rfl) (Nat.le_of_ble_eq_true rfl) rfl (Nat.le_of_ble_eq_true rfl) dd_X5_send_9 (fun r2 => ?_)
    refine J_if_ne hE (tgt := 17) dd_X5_send_12 (by decide) (fun c22 => ?_) (fun c22 => ?_)
    · refine J_iconst hE (v := (-1 : Int32)) dd_X5_send_17 (by decide) ?_
      refine J_istore_n hE (L' := [(3, .int (-1 : Int32)), (0, .ref b), (1, .int i1), (2, .int i2)]) dd_X5_send_18 (Nat.le_of_ble_eq_true rfl) rfl rfl ?_
      refine J_iconst hE (v := (0 : Int32)) dd_X5_send_19 (by decide) ?_
      refine J_istore hE (L' := [(4, .int (0 : Int32)), (3, .int (-1 : Int32)), (0, .ref b), (1, .int i1), (2, .int i2)]) dd_X5_send_20 (Nat.le_of_ble_eq_true rfl) rfl ?_
      refine J_iconst hE (v := (0 : Int32)) dd_X5_send_22 (by decide) ?_
      refine J_istore hE (L' := [(5, .int (0 : Int32)), (4, .int (0 : Int32)), (3, .int (-1 : Int32)), (0, .ref b), (1, .int i1), (2, .int i2)]) dd_X5_send_23 (Nat.le_of_ble_eq_true rfl) rfl ?_
      refine J_sub [3, 4, 5, 2, 1, 0] rfl ?_
      refine tX5_send_L25 hv i1 i2 hE (fun p20 => ?_) 400 (-1 : Int32) (0 : Int32) (0 : Int32) S
      show J V E _ _ 90 [(2, .int i2), (3, .int p20.1), (4, .int p20.2.1)] [] p20.2.2
      refine J_iload_n hE dd_X5_send_90 0 rfl rfl ?_
      refine J_if_ne hE (tgt := 99) dd_X5_send_91 (by decide) (fun c21 => ?_) (fun c21 => ?_)
      · refine J_iload_n hE dd_X5_send_99 1 rfl rfl ?_
        exact J_iret hE dd_X5_send_100 rfl rfl
      · refine J_iload hE dd_X5_send_94 2 rfl ?_
        refine J_goto hE (tgt := 100) dd_X5_send_96 (by decide) ?_
        exact J_iret hE dd_X5_send_100 rfl rfl
    · refine J_iconst hE (v := (-1 : Int32)) dd_X5_send_15 (by decide) ?_
      exact J_iret hE dd_X5_send_16 rfl rfl
theorem dd_X5_raise_0 : jd cX5_raise 0 (.iload_n 1) 1 1 := ⟨by decide +kernel, rfl⟩
theorem dd_X5_raise_1 : jd cX5_raise 1 (.invokestatic 239) 3 4 := ⟨by decide +kernel, rfl⟩
theorem dd_X5_raise_9 : jd cX5_raise 9 (.aload_n 0) 1 10 := ⟨by decide +kernel, rfl⟩
theorem dd_X5_raise_10 : jd cX5_raise 10 (.invokevirtual 199) 3 13 := ⟨by decide +kernel, rfl⟩
theorem dd_X5_raise_13 : jd cX5_raise 13 (.aload_n 0) 1 14 := ⟨by decide +kernel, rfl⟩
theorem dd_X5_raise_14 : jd cX5_raise 14 (.invokevirtual 264) 3 17 := ⟨by decide +kernel, rfl⟩
theorem dd_X5_raise_17 : jd cX5_raise 17 (.istore_n 2) 1 18 := ⟨by decide +kernel, rfl⟩
theorem dd_X5_raise_18 : jd cX5_raise 18 (.bipush (-4)) 2 20 := ⟨by decide +kernel, rfl⟩
theorem dd_X5_raise_20 : jd cX5_raise 20 (.istore_n 3) 1 21 := ⟨by decide +kernel, rfl⟩
theorem dd_X5_raise_21 : jd cX5_raise 21 (.iconst 0) 1 22 := ⟨by decide +kernel, rfl⟩
theorem dd_X5_raise_22 : jd cX5_raise 22 (.istore 4) 2 24 := ⟨by decide +kernel, rfl⟩
theorem dd_X5_raise_24 : jd cX5_raise 24 (.iload 4) 2 26 := ⟨by decide +kernel, rfl⟩
theorem dd_X5_raise_26 : jd cX5_raise 26 (.aload_n 0) 1 27 := ⟨by decide +kernel, rfl⟩
theorem dd_X5_raise_27 : jd cX5_raise 27 (.getfield 63) 3 30 := ⟨by decide +kernel, rfl⟩
theorem dd_X5_raise_33 : jd cX5_raise 33 (.aload_n 0) 1 34 := ⟨by decide +kernel, rfl⟩
theorem dd_X5_raise_34 : jd cX5_raise 34 (.invokevirtual 199) 3 37 := ⟨by decide +kernel, rfl⟩
theorem dd_X5_raise_37 : jd cX5_raise 37 (.aload_n 0) 1 38 := ⟨by decide +kernel, rfl⟩
theorem dd_X5_raise_38 : jd cX5_raise 38 (.iload 4) 2 40 := ⟨by decide +kernel, rfl⟩
theorem dd_X5_raise_40 : jd cX5_raise 40 (.aload_n 0) 1 41 := ⟨by decide +kernel, rfl⟩
theorem dd_X5_raise_41 : jd cX5_raise 41 (.iload 4) 2 43 := ⟨by decide +kernel, rfl⟩
theorem dd_X5_raise_43 : jd cX5_raise 43 (.iconst 4) 1 44 := ⟨by decide +kernel, rfl⟩
theorem dd_X5_raise_44 : jd cX5_raise 44 (.invokevirtual 155) 3 47 := ⟨by decide +kernel, rfl⟩
theorem dd_X5_raise_47 : jd cX5_raise 47 (.iconst 1) 1 48 := ⟨by decide +kernel, rfl⟩
theorem dd_X5_raise_48 : jd cX5_raise 48 (.invokevirtual 218) 3 51 := ⟨by decide +kernel, rfl⟩
theorem dd_X5_raise_51 : jd cX5_raise 51 (.aload_n 0) 1 52 := ⟨by decide +kernel, rfl⟩
theorem dd_X5_raise_52 : jd cX5_raise 52 (.invokevirtual 264) 3 55 := ⟨by decide +kernel, rfl⟩
theorem dd_X5_raise_55 : jd cX5_raise 55 (.istore 5) 2 57 := ⟨by decide +kernel, rfl⟩
theorem dd_X5_raise_57 : jd cX5_raise 57 (.iload 5) 2 59 := ⟨by decide +kernel, rfl⟩
theorem dd_X5_raise_59 : jd cX5_raise 59 (.iload_n 2) 1 60 := ⟨by decide +kernel, rfl⟩
theorem dd_X5_raise_68 : jd cX5_raise 68 (.iload_n 3) 1 69 := ⟨by decide +kernel, rfl⟩
theorem dd_X5_raise_63 : jd cX5_raise 63 (.iload 4) 2 65 := ⟨by decide +kernel, rfl⟩
theorem dd_X5_raise_65 : jd cX5_raise 65 (.goto 4) 3 68 := ⟨by decide +kernel, rfl⟩
theorem dd_X5_raise_60 : jd cX5_raise 60 (.if_icmp .ge 8) 3 63 := ⟨by decide +kernel, rfl⟩
theorem dd_X5_raise_69 : jd cX5_raise 69 (.istore_n 3) 1 70 := ⟨by decide +kernel, rfl⟩
theorem dd_X5_raise_70 : jd cX5_raise 70 (.iload 5) 2 72 := ⟨by decide +kernel, rfl⟩
theorem dd_X5_raise_72 : jd cX5_raise 72 (.iload_n 2) 1 73 := ⟨by decide +kernel, rfl⟩
theorem dd_X5_raise_81 : jd cX5_raise 81 (.iload_n 2) 1 82 := ⟨by decide +kernel, rfl⟩
theorem dd_X5_raise_76 : jd cX5_raise 76 (.iload 5) 2 78 := ⟨by decide +kernel, rfl⟩
theorem dd_X5_raise_78 : jd cX5_raise 78 (.goto 4) 3 81 := ⟨by decide +kernel, rfl⟩
theorem dd_X5_raise_73 : jd cX5_raise 73 (.if_icmp .ge 8) 3 76 := ⟨by decide +kernel, rfl⟩
theorem dd_X5_raise_82 : jd cX5_raise 82 (.istore_n 2) 1 83 := ⟨by decide +kernel, rfl⟩
theorem dd_X5_raise_83 : jd cX5_raise 83 (.iinc 4 1) 3 86 := ⟨by decide +kernel, rfl⟩
theorem dd_X5_raise_86 : jd cX5_raise 86 (.goto (-62)) 3 89 := ⟨by decide +kernel, rfl⟩
theorem dd_X5_raise_30 : jd cX5_raise 30 (.if_icmp .ge 59) 3 33 := ⟨by decide +kernel, rfl⟩
theorem dd_X5_raise_89 : jd cX5_raise 89 (.iload_n 3) 1 90 := ⟨by decide +kernel, rfl⟩
theorem dd_X5_raise_90 : jd cX5_raise 90 (.bipush (-4)) 2 92 := ⟨by decide +kernel, rfl⟩
theorem dd_X5_raise_100 : jd cX5_raise 100 (.iload_n 1) 1 101 := ⟨by decide +kernel, rfl⟩
theorem dd_X5_raise_108 : jd cX5_raise 108 (.iload_n 2) 1 109 := ⟨by decide +kernel, rfl⟩
theorem dd_X5_raise_109 : jd cX5_raise 109 (.ireturn) 1 110 := ⟨by decide +kernel, rfl⟩
theorem dd_X5_raise_104 : jd cX5_raise 104 (.iload_n 3) 1 105 := ⟨by decide +kernel, rfl⟩
theorem dd_X5_raise_105 : jd cX5_raise 105 (.goto 4) 3 108 := ⟨by decide +kernel, rfl⟩
theorem dd_X5_raise_101 : jd cX5_raise 101 (.ifCond .ne 7) 3 104 := ⟨by decide +kernel, rfl⟩
theorem dd_X5_raise_95 : jd cX5_raise 95 (.bipush (-4)) 2 97 := ⟨by decide +kernel, rfl⟩
theorem dd_X5_raise_97 : jd cX5_raise 97 (.goto 12) 3 100 := ⟨by decide +kernel, rfl⟩
theorem dd_X5_raise_92 : jd cX5_raise 92 (.if_icmp .ne 8) 3 95 := ⟨by decide +kernel, rfl⟩
theorem dd_X5_raise_7 : jd cX5_raise 7 (.iconst (-1)) 1 8 := ⟨by decide +kernel, rfl⟩
theorem dd_X5_raise_8 : jd cX5_raise 8 (.ireturn) 1 9 := ⟨by decide +kernel, rfl⟩
theorem dd_X5_raise_4 : jd cX5_raise 4 (.ifCond .ne 5) 3 7 := ⟨by decide +kernel, rfl⟩
theorem m_X5_raise : jmV yX5_raise cX5_raise 6 (some .int) 1 := ⟨⟨(jj_m (w := Cond.code yX5_raise cX5_raise 6 (some .int)) (List.mem_of_getElem? (i := 1177) (by decide +kernel)) rfl), (jj_m (w := Cond.initialized yX5_raise.cls) (List.mem_of_getElem? (i := 69) (by decide +kernel)) rfl), ⟨by decide, by decide⟩, by decide +kernel⟩, (jj_m (w := Cond.instanceMethod yX5_raise) (List.mem_of_getElem? (i := 1175) (by decide +kernel)) rfl), (jj_m (w := Cond.selects yX5_raise.cls yX5_raise yX5_raise) (List.mem_of_getElem? (i := 1176) (by decide +kernel)) rfl)⟩
def fX5_raise_L24 (i1 : Int32) (k89 : (Int32 × Int32 × M2) → Option (Int32 × M2)) : Nat → Int32 → Int32 → Int32 → M2 → Option (Int32 × M2)
  | 0, _, _, _, _ => none
  | n_ + 1, v6, v7, v8, S9 =>
    if (S9 3 0) ≤ v8 then
      k89 (v6, v7, S9)
    else
      (fX5_starts  S9).bind fun q10 =>
      lt (q10) fun S11 =>
      (fX5_of v8 (4 : Int32) S11).bind fun r12 =>
      (fX5_folds v8 r12 (1 : Int32) S11).bind fun q13 =>
      lt (q13) fun S14 =>
      (fX5_dutyNext  S14).bind fun q15 =>
      lt (q15.2) fun S16 =>
      jn (α := Option (Int32 × M2)) (β := Int32) (fun j17 =>
        if v6 ≤ q15.1 then
          j17 v7
        else
          j17 v8) (fun p19 => 
        jn (α := Option (Int32 × M2)) (β := Int32) (fun j20 =>
          if v6 ≤ q15.1 then
            j20 v6
          else
            j20 q15.1) (fun p22 => 
          lt (v8 + (1 : Int32)) fun x23 =>
          fX5_raise_L24 i1 k89 n_ p22 p19 x23 S16))

def fX5_raise (i1 : Int32) (S : M2) : Option (Int32 × M2) :=
  (fX5_isPart i1).bind fun r1 =>
  if r1 = 0 then
    some ((-1 : Int32), S)
  else
    (fX5_starts  S).bind fun q2 =>
    lt (q2) fun S3 =>
    (fX5_dutyNext  S3).bind fun q4 =>
    lt (q4.2) fun S5 =>
    fX5_raise_L24 i1
      (fun p25 =>
        if p25.2.1 = (-4 : Int32) then
          some ((-4 : Int32), p25.2.2)
        else
          if i1 = 0 then
            some (p25.2.1, p25.2.2)
          else
            some (p25.1, p25.2.2))
      400 q4.1 (-4 : Int32) (0 : Int32) S5

set_option maxHeartbeats 4000000 in
set_option maxRecDepth 100000 in
theorem tX5_raise_L24 {V : JV M2} {b : Nat} {a : Nat → Nat} (hv : vX5 V b a) (i1 : Int32) {E : JE (M2) Int32} (hE : JOk V E cX5_raise yX5_raise.cls 6 5 (some .int) jj_i) {k89 : (Int32 × Int32 × M2) → Option (Int32 × M2)} (hk89 : ∀ p, J V E (fun q => (q.1, q.2)) (k89 p) 89 [(1, .int i1), (2, .int p.1), (3, .int p.2.1)] [] p.2.2) : ∀ (n_ : Nat) (v6 : Int32) (v7 : Int32) (v8 : Int32) (S9 : M2), J V E (fun q => (q.1, q.2)) (fX5_raise_L24 i1 k89 n_ v6 v7 v8 S9) 24 [(0, .ref b), (1, .int i1), (2, .int v6), (3, .int v7), (4, .int v8)] [] S9 := by
  intro n_
  induction n_ with
  | zero =>
    intros
    exact J_none
  | succ n_ ih =>
    intros v6 v7 v8 S9
    rw [fX5_raise_L24]
    refine J_iload hE dd_X5_raise_24 4 rfl ?_
    refine J_aload_n hE dd_X5_raise_26 0 rfl rfl ?_
    refine J_get hE (hv.ob _) jc_X5 3 (by decide) fl_RX5_63 (v := .int (S9 3 0)) rfl dd_X5_raise_27 ?_
    refine J_icmp_ge hE (tgt := 89) dd_X5_raise_30 (by decide) (fun c24 => ?_) (fun c24 => ?_)
    · refine J_sub [1, 2, 3] rfl ?_
      exact hk89 (v6, v7, S9)
    · refine J_aload_n hE dd_X5_raise_33 0 rfl rfl ?_
      refine J_invVwv hE (e := fun x => x) (As := []) (st := []) (tX5_starts E.2.1 hv S9 ) (hv.ob _) m_X5_starts rfl ml_RX5_199 (Nat.le_of_ble_eq_true rfl) (Nat.le_of_ble_eq_true rfl) rfl (Nat.le_of_ble_eq_true rfl) dd_X5_raise_34 (fun q10 => ?_)
      refine J_letS (fun S11 => ?_)
      refine J_aload_n hE dd_X5_raise_37 0 rfl rfl ?_
      refine J_iload hE dd_X5_raise_38 4 rfl ?_
      refine J_aload_n hE dd_X5_raise_40 0 rfl rfl ?_
      refine J_iload hE dd_X5_raise_41 4 rfl ?_
      refine J_iconst hE (v := (4 : Int32)) dd_X5_raise_43 (by decide) ?_
      refine J_invVri hE (As := [.int v8, .int (4 : Int32)]) (st := [.int v8, .ref b]) (tX5_of E.2.1 hv S11 v8 (4 : Int32)) (hv.ob _) m_X5_of rfl ml_RX5_155 (Nat.le_of_ble_eq_true rfl) (Nat.le_of_ble_eq_true rfl) rfl (Nat.le_of_ble_eq_true rfl) dd_X5_raise_44 (fun r12 => ?_)
      refine J_iconst hE (v := (1 : Int32)) dd_X5_raise_47 (by decide) ?_
      refine J_invVwv hE (e := fun x => x) (As := [.int v8, .int r12, .int (1 : Int32)]) (st := []) (tX5_folds E.2.1 hv S11 v8 r12 (1 : Int32)) (hv.ob _) m_X5_folds rfl ml_RX5_218 (Nat.le_of_ble_eq_true rfl) (Nat.le_of_ble_eq_true rfl) rfl (Nat.le_of_ble_eq_true rfl) dd_X5_raise_48 (fun q13 => ?_)
      refine J_letS (fun S14 => ?_)
      refine J_aload_n hE dd_X5_raise_51 0 rfl rfl ?_
      refine J_invVwi hE (e := fun x => x) (As := []) (st := []) (tX5_dutyNext E.2.1 hv S14 ) (hv.ob _) m_X5_dutyNext rfl ml_RX5_264 (Nat.le_of_ble_eq_true rfl) (Nat.le_of_ble_eq_true rfl) rfl (Nat.le_of_ble_eq_true rfl) dd_X5_raise_52 (fun q15 => ?_)
      refine J_letS (fun S16 => ?_)
      refine J_istore hE (L' := [(5, .int q15.1), (0, .ref b), (1, .int i1), (2, .int v6), (3, .int v7), (4, .int v8)]) dd_X5_raise_55 (Nat.le_of_ble_eq_true rfl) rfl ?_
      refine J_iload hE dd_X5_raise_57 0 rfl ?_
      refine J_iload_n hE dd_X5_raise_59 3 rfl rfl ?_
      refine J_jn (m := 69) (Lf := fun p19 => [(0, .ref b), (1, .int i1), (2, .int v6), (4, .int v8), (5, .int q15.1)]) (sf := fun p19 => [.int p19]) (Xf := fun p19 => S16) (fun p19 => ?_) (fun hj17 => ?_)
      · show J V E _ _ 69 [(0, .ref b), (1, .int i1), (2, .int v6), (4, .int v8), (5, .int q15.1)] [.int p19] S16
        refine J_istore_n hE (L' := [(3, .int p19), (0, .ref b), (1, .int i1), (2, .int v6), (4, .int v8), (5, .int q15.1)]) dd_X5_raise_69 (Nat.le_of_ble_eq_true rfl) rfl rfl ?_
        refine J_iload hE dd_X5_raise_70 5 rfl ?_
        refine J_iload_n hE dd_X5_raise_72 3 rfl rfl ?_
        refine J_jn (m := 82) (Lf := fun p22 => [(0, .ref b), (1, .int i1), (3, .int p19), (4, .int v8)]) (sf := fun p22 => [.int p22]) (Xf := fun p22 => S16) (fun p22 => ?_) (fun hj20 => ?_)
        · show J V E _ _ 82 [(0, .ref b), (1, .int i1), (3, .int p19), (4, .int v8)] [.int p22] S16
          refine J_istore_n hE (L' := [(2, .int p22), (0, .ref b), (1, .int i1), (3, .int p19), (4, .int v8)]) dd_X5_raise_82 (Nat.le_of_ble_eq_true rfl) rfl rfl ?_
          refine J_iincL hE (v := (v8 + (1 : Int32))) (Lf := fun x23 => [(4, .int x23), (2, .int p22), (0, .ref b), (1, .int i1), (3, .int p19)]) dd_X5_raise_83 (j := 4) rfl (congrArg (v8 + ·) (by decide)) (Nat.le_of_ble_eq_true rfl) (fun _ => rfl) (fun x23 => ?_)
          refine J_goto hE (tgt := 24) dd_X5_raise_86 (by decide) ?_
          refine J_sub [2, 3, 1, 4, 0] rfl ?_
          exact ih p22 p19 x23 S16
        · refine J_icmp_ge hE (tgt := 81) dd_X5_raise_73 (by decide) (fun c21 => ?_) (fun c21 => ?_)
          · refine J_iload_n hE dd_X5_raise_81 3 rfl rfl ?_
            refine J_sub [1, 2, 0, 4] rfl ?_
            exact hj20 v6
          · refine J_iload hE dd_X5_raise_76 5 rfl ?_
            refine J_goto hE (tgt := 82) dd_X5_raise_78 (by decide) ?_
            refine J_sub [1, 2, 0, 4] rfl ?_
            exact hj20 q15.1
      · refine J_icmp_ge hE (tgt := 68) dd_X5_raise_60 (by decide) (fun c18 => ?_) (fun c18 => ?_)
        · refine J_iload_n hE dd_X5_raise_68 4 rfl rfl ?_
          refine J_sub [1, 2, 3, 5, 0] rfl ?_
          exact hj17 v7
        · refine J_iload hE dd_X5_raise_63 5 rfl ?_
          refine J_goto hE (tgt := 69) dd_X5_raise_65 (by decide) ?_
          refine J_sub [1, 2, 3, 5, 0] rfl ?_
          exact hj17 v8
set_option maxHeartbeats 4000000 in
set_option maxRecDepth 100000 in
theorem tX5_raise (l : Launch) {V : JV M2} {b : Nat} {a : Nat → Nat} (hv : vX5 V b a) (S : M2) (i1 : Int32) : JC l V yX5_raise cX5_raise 6 (some .int) jj_i 5 [.ref b, .int i1] S ((fX5_raise i1 S).map (fun q => (q.1, q.2))) := by
  refine jj_of (by decide) (Nat.le_of_ble_eq_true rfl) (fun E hlE hE => ?_)
  unfold fX5_raise
  refine J_sub (L' := [(0, .ref b), (1, .int i1)]) [0, 1] rfl ?_
  refine J_iload_n hE dd_X5_raise_0 1 rfl rfl ?_
  refine J_invSri hE (As := [.int i1]) (st := []) (tX5_isPart E.2.1 V S i1) m_X5_isPart s_X5_isPart rfl ml_RX5_239 (Nat.le_of_ble_eq_true rfl) (Nat.le_of_ble_eq_true rfl) rfl (Nat.le_of_ble_eq_true rfl) dd_X5_raise_1 (fun r1 => ?_)
  refine J_if_ne hE (tgt := 9) dd_X5_raise_4 (by decide) (fun c28 => ?_) (fun c28 => ?_)
  · refine J_aload_n hE dd_X5_raise_9 0 rfl rfl ?_
    refine J_invVwv hE (e := fun x => x) (As := []) (st := []) (tX5_starts E.2.1 hv S ) (hv.ob _) m_X5_starts rfl ml_RX5_199 (Nat.le_of_ble_eq_true rfl) (Nat.le_of_ble_eq_true rfl) rfl (Nat.le_of_ble_eq_true rfl) dd_X5_raise_10 (fun q2 => ?_)
    refine J_letS (fun S3 => ?_)
    refine J_aload_n hE dd_X5_raise_13 0 rfl rfl ?_
    refine J_invVwi hE (e := fun x => x) (As := []) (st := []) (tX5_dutyNext E.2.1 hv S3 ) (hv.ob _) m_X5_dutyNext rfl ml_RX5_264 (Nat.le_of_ble_eq_true rfl) (Nat.le_of_ble_eq_true rfl) rfl (Nat.le_of_ble_eq_true rfl) dd_X5_raise_14 (fun q4 => ?_)
    refine J_letS (fun S5 => ?_)
    refine J_istore_n hE (L' := [(2, .int q4.1), (0, .ref b), (1, .int i1)]) dd_X5_raise_17 (Nat.le_of_ble_eq_true rfl) rfl rfl ?_
    refine J_bipush hE (v := (-4 : Int32)) dd_X5_raise_18 (by decide) ?_
    refine J_istore_n hE (L' := [(3, .int (-4 : Int32)), (2, .int q4.1), (0, .ref b), (1, .int i1)]) dd_X5_raise_20 (Nat.le_of_ble_eq_true rfl) rfl rfl ?_
    refine J_iconst hE (v := (0 : Int32)) dd_X5_raise_21 (by decide) ?_
    refine J_istore hE (L' := [(4, .int (0 : Int32)), (3, .int (-4 : Int32)), (2, .int q4.1), (0, .ref b), (1, .int i1)]) dd_X5_raise_22 (Nat.le_of_ble_eq_true rfl) rfl ?_
    refine J_sub [3, 4, 2, 1, 0] rfl ?_
    refine tX5_raise_L24 hv i1 hE (fun p25 => ?_) 400 q4.1 (-4 : Int32) (0 : Int32) S5
    show J V E _ _ 89 [(1, .int i1), (2, .int p25.1), (3, .int p25.2.1)] [] p25.2.2
    refine J_iload_n hE dd_X5_raise_89 2 rfl rfl ?_
    refine J_bipush hE (v := (-4 : Int32)) dd_X5_raise_90 (by decide) ?_
    refine J_icmp_ne hE (tgt := 100) dd_X5_raise_92 (by decide) (fun c27 => ?_) (fun c27 => ?_)
    · refine J_iload_n hE dd_X5_raise_100 0 rfl rfl ?_
      refine J_if_ne hE (tgt := 108) dd_X5_raise_101 (by decide) (fun c26 => ?_) (fun c26 => ?_)
      · refine J_iload_n hE dd_X5_raise_108 1 rfl rfl ?_
        exact J_iret hE dd_X5_raise_109 rfl rfl
      · refine J_iload_n hE dd_X5_raise_104 2 rfl rfl ?_
        refine J_goto hE (tgt := 109) dd_X5_raise_105 (by decide) ?_
        exact J_iret hE dd_X5_raise_109 rfl rfl
    · refine J_bipush hE (v := (-4 : Int32)) dd_X5_raise_95 (by decide) ?_
      refine J_goto hE (tgt := 109) dd_X5_raise_97 (by decide) ?_
      exact J_iret hE dd_X5_raise_109 rfl rfl
  · refine J_iconst hE (v := (-1 : Int32)) dd_X5_raise_7 (by decide) ?_
    exact J_iret hE dd_X5_raise_8 rfl rfl
