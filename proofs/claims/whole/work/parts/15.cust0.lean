theorem dd_X4_feed_0 : jd cX4_feed 0 (.iload_n 1) 1 1 := ⟨by decide +kernel, rfl⟩
theorem dd_X4_feed_1 : jd cX4_feed 1 (.iconst 0) 1 2 := ⟨by decide +kernel, rfl⟩
theorem dd_X4_feed_2 : jd cX4_feed 2 (.bipush 127) 2 4 := ⟨by decide +kernel, rfl⟩
theorem dd_X4_feed_4 : jd cX4_feed 4 (.invokestatic 44) 3 7 := ⟨by decide +kernel, rfl⟩
theorem dd_X4_feed_12 : jd cX4_feed 12 (.aload_n 0) 1 13 := ⟨by decide +kernel, rfl⟩
theorem fl_RX4_12 : (Cond.fieldLink "MothCustoms" 12 "MothCustoms" "tape" "LMothCustoms$Tape;" : Cond) ∈ jj_tb := jj_m (List.mem_of_getElem? (i := 268) (by decide +kernel)) rfl
theorem dd_X4_feed_13 : jd cX4_feed 13 (.getfield 12) 3 16 := ⟨by decide +kernel, rfl⟩
theorem fl_RX4_48 : (Cond.fieldLink "MothCustoms" 48 "MothCustoms$Tape" "length" "I" : Cond) ∈ jj_tb := jj_m (List.mem_of_getElem? (i := 93) (by decide +kernel)) rfl
theorem dd_X4_feed_16 : jd cX4_feed 16 (.getfield 48) 3 19 := ⟨by decide +kernel, rfl⟩
theorem dd_X4_feed_19 : jd cX4_feed 19 (.sipush 160) 3 22 := ⟨by decide +kernel, rfl⟩
theorem dd_X4_feed_28 : jd cX4_feed 28 (.aload_n 0) 1 29 := ⟨by decide +kernel, rfl⟩
theorem dd_X4_feed_29 : jd cX4_feed 29 (.getfield 12) 3 32 := ⟨by decide +kernel, rfl⟩
theorem fl_RX4_52 : (Cond.fieldLink "MothCustoms" 52 "MothCustoms$Tape" "bytes" "[I" : Cond) ∈ jj_tb := jj_m (List.mem_of_getElem? (i := 92) (by decide +kernel)) rfl
theorem dd_X4_feed_32 : jd cX4_feed 32 (.getfield 52) 3 35 := ⟨by decide +kernel, rfl⟩
theorem dd_X4_feed_35 : jd cX4_feed 35 (.aload_n 0) 1 36 := ⟨by decide +kernel, rfl⟩
theorem dd_X4_feed_36 : jd cX4_feed 36 (.getfield 12) 3 39 := ⟨by decide +kernel, rfl⟩
theorem dd_X4_feed_39 : jd cX4_feed 39 (.getfield 48) 3 42 := ⟨by decide +kernel, rfl⟩
theorem dd_X4_feed_42 : jd cX4_feed 42 (.iload_n 1) 1 43 := ⟨by decide +kernel, rfl⟩
theorem dd_X4_feed_43 : jd cX4_feed 43 (.iastore) 1 44 := ⟨by decide +kernel, rfl⟩
theorem dd_X4_feed_44 : jd cX4_feed 44 (.aload_n 0) 1 45 := ⟨by decide +kernel, rfl⟩
theorem dd_X4_feed_45 : jd cX4_feed 45 (.getfield 12) 3 48 := ⟨by decide +kernel, rfl⟩
theorem dd_X4_feed_48 : jd cX4_feed 48 (.dup) 1 49 := ⟨by decide +kernel, rfl⟩
theorem dd_X4_feed_49 : jd cX4_feed 49 (.getfield 48) 3 52 := ⟨by decide +kernel, rfl⟩
theorem dd_X4_feed_52 : jd cX4_feed 52 (.iconst 1) 1 53 := ⟨by decide +kernel, rfl⟩
theorem dd_X4_feed_53 : jd cX4_feed 53 (.iadd) 1 54 := ⟨by decide +kernel, rfl⟩
theorem dd_X4_feed_54 : jd cX4_feed 54 (.putfield 48) 3 57 := ⟨by decide +kernel, rfl⟩
theorem dd_X4_feed_57 : jd cX4_feed 57 (.aload_n 0) 1 58 := ⟨by decide +kernel, rfl⟩
theorem dd_X4_feed_58 : jd cX4_feed 58 (.getfield 12) 3 61 := ⟨by decide +kernel, rfl⟩
theorem dd_X4_feed_61 : jd cX4_feed 61 (.getfield 48) 3 64 := ⟨by decide +kernel, rfl⟩
theorem dd_X4_feed_64 : jd cX4_feed 64 (.ireturn) 1 65 := ⟨by decide +kernel, rfl⟩
theorem dd_X4_feed_25 : jd cX4_feed 25 (.bipush (-3)) 2 27 := ⟨by decide +kernel, rfl⟩
theorem dd_X4_feed_27 : jd cX4_feed 27 (.ireturn) 1 28 := ⟨by decide +kernel, rfl⟩
theorem dd_X4_feed_22 : jd cX4_feed 22 (.if_icmp .lt 6) 3 25 := ⟨by decide +kernel, rfl⟩
theorem dd_X4_feed_10 : jd cX4_feed 10 (.iconst (-1)) 1 11 := ⟨by decide +kernel, rfl⟩
theorem dd_X4_feed_11 : jd cX4_feed 11 (.ireturn) 1 12 := ⟨by decide +kernel, rfl⟩
theorem dd_X4_feed_7 : jd cX4_feed 7 (.ifCond .ne 5) 3 10 := ⟨by decide +kernel, rfl⟩
theorem m_X4_feed : jmV yX4_feed cX4_feed 2 (some .int) 1 := ⟨⟨(jj_m (w := Cond.code yX4_feed cX4_feed 2 (some .int)) (List.mem_of_getElem? (i := 296) (by decide +kernel)) rfl), (jj_m (w := Cond.initialized yX4_feed.cls) (List.mem_of_getElem? (i := 64) (by decide +kernel)) rfl), ⟨by decide, by decide⟩, by decide +kernel⟩, (jj_m (w := Cond.instanceMethod yX4_feed) (List.mem_of_getElem? (i := 294) (by decide +kernel)) rfl), (jj_m (w := Cond.selects yX4_feed.cls yX4_feed yX4_feed) (List.mem_of_getElem? (i := 295) (by decide +kernel)) rfl)⟩
def fX4_feed (i1 : Int32) (X : M3) : Option (Int32 × M3) :=
  (fX4_within i1 (0 : Int32) (127 : Int32)).bind fun r1 =>
  if r1 = 0 then
    some ((-1 : Int32), X)
  else
    if ((X 1) 1 0) < (160 : Int32) then
      bnd ((X 1) 1 0) 160 <|
      lt ((va_up X 1 (va_up (X 1) 0 (upd ((X 1) 0) ((X 1) 1 0).toNatClampNeg i1)))) fun X2 =>
      lt ((va_up X2 1 (va_up (X2 1) 1 (fun _ => (((X2 1) 1 0) + (1 : Int32)))))) fun X3 =>
      some (((X3 1) 1 0), X3)
    else
      some ((-3 : Int32), X)

set_option maxHeartbeats 4000000 in
set_option maxRecDepth 100000 in
theorem tX4_feed (l : Launch) {V : JV M3} {ob : Nat → Nat} {aa : Nat → Nat → Nat} (hX : vX4 V ob aa) (X : M3) (i1 : Int32) : JC l V yX4_feed cX4_feed 2 (some .int) jj_i 1 [.ref (ob 0), .int i1] X ((fX4_feed i1 X).map (fun q => (q.1, q.2))) := by
  refine jj_of (by decide) (Nat.le_of_ble_eq_true rfl) (fun E hlE hE => ?_)
  unfold fX4_feed
  refine J_sub (L' := [(0, .ref (ob 0)), (1, .int i1)]) [0, 1] rfl ?_
  refine J_iload_n hE dd_X4_feed_0 1 rfl rfl ?_
  refine J_iconst hE (v := (0 : Int32)) dd_X4_feed_1 (by decide) ?_
  refine J_bipush hE (v := (127 : Int32)) dd_X4_feed_2 (by decide) ?_
  refine J_invSri hE (As := [.int i1, .int (0 : Int32), .int (127 : Int32)]) (st := []) (tX4_within E.2.1 V X i1 (0 : Int32) (127 : Int32)) m_X4_within s_X4_within rfl ml_RX4_44 (Nat.le_of_ble_eq_true rfl) (Nat.le_of_ble_eq_true rfl) rfl (Nat.le_of_ble_eq_true rfl) dd_X4_feed_4 (fun r1 => ?_)
  refine J_if_ne hE (tgt := 12) dd_X4_feed_7 (by decide) (fun c5 => ?_) (fun c5 => ?_)
  · refine J_aload_n hE dd_X4_feed_12 0 rfl rfl ?_
    refine J_get hE (hX.rt.ob _) jc_X4 0 (by decide) fl_RX4_12 (v := .ref (ob 1)) rfl dd_X4_feed_13 ?_
    refine J_get hE (hX.tp.ob _) jc_X3 1 (by decide) fl_RX4_48 (v := .int ((X 1) 1 0)) rfl dd_X4_feed_16 ?_
    refine J_sipush hE (v := (160 : Int32)) dd_X4_feed_19 (by decide) ?_
    refine J_icmp_lt hE (tgt := 28) dd_X4_feed_22 (by decide) (fun c4 => ?_) (fun c4 => ?_)
    · refine J_aload_n hE dd_X4_feed_28 0 rfl rfl ?_
      refine J_get hE (hX.rt.ob _) jc_X4 0 (by decide) fl_RX4_12 (v := .ref (ob 1)) rfl dd_X4_feed_29 ?_
      refine J_get hE (hX.tp.ob _) jc_X3 0 (by decide) fl_RX4_52 (v := .ref ((aa 1) 0)) rfl dd_X4_feed_32 ?_
      refine J_aload_n hE dd_X4_feed_35 0 rfl rfl ?_
      refine J_get hE (hX.rt.ob _) jc_X4 0 (by decide) fl_RX4_12 (v := .ref (ob 1)) rfl dd_X4_feed_36 ?_
      refine J_get hE (hX.tp.ob _) jc_X3 1 (by decide) fl_RX4_48 (v := .int ((X 1) 1 0)) rfl dd_X4_feed_39 ?_
      refine J_iload_n hE dd_X4_feed_42 1 rfl rfl ?_
      refine J_ast hE hX.tp 0 (N := 160) (by decide) dd_X4_feed_43 ?_
      refine J_letS (fun X2 => ?_)
      refine J_aload_n hE dd_X4_feed_44 0 rfl rfl ?_
      refine J_get hE (hX.rt.ob _) jc_X4 0 (by decide) fl_RX4_12 (v := .ref (ob 1)) rfl dd_X4_feed_45 ?_
      refine J_dup hE dd_X4_feed_48 rfl ?_
      refine J_get hE (hX.tp.ob _) jc_X3 1 (by decide) fl_RX4_48 (v := .int ((X2 1) 1 0)) rfl dd_X4_feed_49 ?_
      refine J_iconst hE (v := (1 : Int32)) dd_X4_feed_52 (by decide) ?_
      refine J_iadd hE dd_X4_feed_53 ?_
      refine J_put hE hX.tp jc_X3 1 (by decide) (by decide) fl_RX4_48 rfl rfl rfl (Nat.le_of_ble_eq_true rfl) dd_X4_feed_54 ?_
      refine J_letS (fun X3 => ?_)
      refine J_aload_n hE dd_X4_feed_57 0 rfl rfl ?_
      refine J_get hE (hX.rt.ob _) jc_X4 0 (by decide) fl_RX4_12 (v := .ref (ob 1)) rfl dd_X4_feed_58 ?_
      refine J_get hE (hX.tp.ob _) jc_X3 1 (by decide) fl_RX4_48 (v := .int ((X3 1) 1 0)) rfl dd_X4_feed_61 ?_
      exact J_iret hE dd_X4_feed_64 rfl rfl
    · refine J_bipush hE (v := (-3 : Int32)) dd_X4_feed_25 (by decide) ?_
      exact J_iret hE dd_X4_feed_27 rfl rfl
  · refine J_iconst hE (v := (-1 : Int32)) dd_X4_feed_10 (by decide) ?_
    exact J_iret hE dd_X4_feed_11 rfl rfl
theorem dd_X4_end_0 : jd cX4_end 0 (.iload_n 1) 1 1 := ⟨by decide +kernel, rfl⟩
theorem dd_X4_end_1 : jd cX4_end 1 (.iconst 0) 1 2 := ⟨by decide +kernel, rfl⟩
theorem dd_X4_end_2 : jd cX4_end 2 (.aload_n 0) 1 3 := ⟨by decide +kernel, rfl⟩
theorem dd_X4_end_3 : jd cX4_end 3 (.getfield 12) 3 6 := ⟨by decide +kernel, rfl⟩
theorem dd_X4_end_6 : jd cX4_end 6 (.getfield 48) 3 9 := ⟨by decide +kernel, rfl⟩
theorem dd_X4_end_9 : jd cX4_end 9 (.invokestatic 44) 3 12 := ⟨by decide +kernel, rfl⟩
theorem dd_X4_end_17 : jd cX4_end 17 (.aload_n 0) 1 18 := ⟨by decide +kernel, rfl⟩
theorem dd_X4_end_18 : jd cX4_end 18 (.getfield 12) 3 21 := ⟨by decide +kernel, rfl⟩
theorem dd_X4_end_21 : jd cX4_end 21 (.getfield 48) 3 24 := ⟨by decide +kernel, rfl⟩
theorem dd_X4_end_24 : jd cX4_end 24 (.istore_n 2) 1 25 := ⟨by decide +kernel, rfl⟩
theorem dd_X4_end_25 : jd cX4_end 25 (.aload_n 0) 1 26 := ⟨by decide +kernel, rfl⟩
theorem dd_X4_end_26 : jd cX4_end 26 (.getfield 12) 3 29 := ⟨by decide +kernel, rfl⟩
theorem dd_X4_end_29 : jd cX4_end 29 (.iload_n 1) 1 30 := ⟨by decide +kernel, rfl⟩
theorem dd_X4_end_30 : jd cX4_end 30 (.putfield 48) 3 33 := ⟨by decide +kernel, rfl⟩
theorem dd_X4_end_33 : jd cX4_end 33 (.iload_n 2) 1 34 := ⟨by decide +kernel, rfl⟩
theorem dd_X4_end_34 : jd cX4_end 34 (.ireturn) 1 35 := ⟨by decide +kernel, rfl⟩
theorem dd_X4_end_15 : jd cX4_end 15 (.iconst (-1)) 1 16 := ⟨by decide +kernel, rfl⟩
theorem dd_X4_end_16 : jd cX4_end 16 (.ireturn) 1 17 := ⟨by decide +kernel, rfl⟩
theorem dd_X4_end_12 : jd cX4_end 12 (.ifCond .ne 5) 3 15 := ⟨by decide +kernel, rfl⟩
theorem m_X4_end : jmV yX4_end cX4_end 3 (some .int) 1 := ⟨⟨(jj_m (w := Cond.code yX4_end cX4_end 3 (some .int)) (List.mem_of_getElem? (i := 303) (by decide +kernel)) rfl), (jj_m (w := Cond.initialized yX4_end.cls) (List.mem_of_getElem? (i := 64) (by decide +kernel)) rfl), ⟨by decide, by decide⟩, by decide +kernel⟩, (jj_m (w := Cond.instanceMethod yX4_end) (List.mem_of_getElem? (i := 301) (by decide +kernel)) rfl), (jj_m (w := Cond.selects yX4_end.cls yX4_end yX4_end) (List.mem_of_getElem? (i := 302) (by decide +kernel)) rfl)⟩
def fX4_end (i1 : Int32) (X : M3) : Option (Int32 × M3) :=
  (fX4_within i1 (0 : Int32) ((X 1) 1 0)).bind fun r1 =>
  if r1 = 0 then
    some ((-1 : Int32), X)
  else
    lt (((X 1) 1 0)) fun x2 =>
    lt ((va_up X 1 (va_up (X 1) 1 (fun _ => i1)))) fun X3 =>
    some (x2, X3)

set_option maxHeartbeats 4000000 in
set_option maxRecDepth 100000 in
theorem tX4_end (l : Launch) {V : JV M3} {ob : Nat → Nat} {aa : Nat → Nat → Nat} (hX : vX4 V ob aa) (X : M3) (i1 : Int32) : JC l V yX4_end cX4_end 3 (some .int) jj_i 1 [.ref (ob 0), .int i1] X ((fX4_end i1 X).map (fun q => (q.1, q.2))) := by
  refine jj_of (by decide) (Nat.le_of_ble_eq_true rfl) (fun E hlE hE => ?_)
  unfold fX4_end
  refine J_sub (L' := [(0, .ref (ob 0)), (1, .int i1)]) [0, 1] rfl ?_
  refine J_iload_n hE dd_X4_end_0 1 rfl rfl ?_
  refine J_iconst hE (v := (0 : Int32)) dd_X4_end_1 (by decide) ?_
  refine J_aload_n hE dd_X4_end_2 0 rfl rfl ?_
  refine J_get hE (hX.rt.ob _) jc_X4 0 (by decide) fl_RX4_12 (v := .ref (ob 1)) rfl dd_X4_end_3 ?_
  refine J_get hE (hX.tp.ob _) jc_X3 1 (by decide) fl_RX4_48 (v := .int ((X 1) 1 0)) rfl dd_X4_end_6 ?_
  refine J_invSri hE (As := [.int i1, .int (0 : Int32), .int ((X 1) 1 0)]) (st := []) (tX4_within E.2.1 V X i1 (0 : Int32) ((X 1) 1 0)) m_X4_within s_X4_within rfl ml_RX4_44 (Nat.le_of_ble_eq_true rfl) (Nat.le_of_ble_eq_true rfl) rfl (Nat.le_of_ble_eq_true rfl) dd_X4_end_9 (fun r1 => ?_)
  refine J_if_ne hE (tgt := 17) dd_X4_end_12 (by decide) (fun c4 => ?_) (fun c4 => ?_)
  · refine J_aload_n hE dd_X4_end_17 0 rfl rfl ?_
    refine J_get hE (hX.rt.ob _) jc_X4 0 (by decide) fl_RX4_12 (v := .ref (ob 1)) rfl dd_X4_end_18 ?_
    refine J_get hE (hX.tp.ob _) jc_X3 1 (by decide) fl_RX4_48 (v := .int ((X 1) 1 0)) rfl dd_X4_end_21 ?_
    refine J_leti (fun x2 => ?_)
    refine J_istore_n hE (L' := [(2, .int x2), (0, .ref (ob 0)), (1, .int i1)]) dd_X4_end_24 (Nat.le_of_ble_eq_true rfl) rfl rfl ?_
    refine J_aload_n hE dd_X4_end_25 1 rfl rfl ?_
    refine J_get hE (hX.rt.ob _) jc_X4 0 (by decide) fl_RX4_12 (v := .ref (ob 1)) rfl dd_X4_end_26 ?_
    refine J_iload_n hE dd_X4_end_29 2 rfl rfl ?_
    refine J_put hE hX.tp jc_X3 1 (by decide) (by decide) fl_RX4_48 rfl rfl rfl (Nat.le_of_ble_eq_true rfl) dd_X4_end_30 ?_
    refine J_letS (fun X3 => ?_)
    refine J_iload_n hE dd_X4_end_33 0 rfl rfl ?_
    exact J_iret hE dd_X4_end_34 rfl rfl
  · refine J_iconst hE (v := (-1 : Int32)) dd_X4_end_15 (by decide) ?_
    exact J_iret hE dd_X4_end_16 rfl rfl
theorem dd_X4_text_0 : jd cX4_text 0 (.aload_n 0) 1 1 := ⟨by decide +kernel, rfl⟩
theorem dd_X4_text_1 : jd cX4_text 1 (.getfield 12) 3 4 := ⟨by decide +kernel, rfl⟩
theorem dd_X4_text_4 : jd cX4_text 4 (.aload_n 0) 1 5 := ⟨by decide +kernel, rfl⟩
theorem fl_RX4_23 : (Cond.fieldLink "MothCustoms" 23 "MothCustoms" "trial" "LMothCustoms$Shed;" : Cond) ∈ jj_tb := jj_m (List.mem_of_getElem? (i := 270) (by decide +kernel)) rfl
theorem dd_X4_text_5 : jd cX4_text 5 (.getfield 23) 3 8 := ⟨by decide +kernel, rfl⟩
theorem ml_RX4_56 : (Cond.methodLink "MothCustoms" 56 yX3_tellInto : Cond) ∈ jj_tb := jj_m (List.mem_of_getElem? (i := 308) (by decide +kernel)) rfl
theorem dd_X4_text_8 : jd cX4_text 8 (.invokevirtual 56) 3 11 := ⟨by decide +kernel, rfl⟩
theorem dd_X4_text_11 : jd cX4_text 11 (.istore_n 1) 1 12 := ⟨by decide +kernel, rfl⟩
theorem dd_X4_text_12 : jd cX4_text 12 (.aload_n 0) 1 13 := ⟨by decide +kernel, rfl⟩
theorem dd_X4_text_13 : jd cX4_text 13 (.getfield 12) 3 16 := ⟨by decide +kernel, rfl⟩
theorem fl_RX4_60 : (Cond.fieldLink "MothCustoms" 60 "MothCustoms$Tape" "fault" "I" : Cond) ∈ jj_tb := jj_m (List.mem_of_getElem? (i := 96) (by decide +kernel)) rfl
theorem dd_X4_text_16 : jd cX4_text 16 (.getfield 60) 3 19 := ⟨by decide +kernel, rfl⟩
theorem dd_X4_text_33 : jd cX4_text 33 (.aload_n 0) 1 34 := ⟨by decide +kernel, rfl⟩
theorem fl_RX4_19 : (Cond.fieldLink "MothCustoms" 19 "MothCustoms" "now" "LMothCustoms$Shed;" : Cond) ∈ jj_tb := jj_m (List.mem_of_getElem? (i := 269) (by decide +kernel)) rfl
theorem dd_X4_text_34 : jd cX4_text 34 (.getfield 19) 3 37 := ⟨by decide +kernel, rfl⟩
theorem dd_X4_text_37 : jd cX4_text 37 (.aload_n 0) 1 38 := ⟨by decide +kernel, rfl⟩
theorem dd_X4_text_38 : jd cX4_text 38 (.getfield 23) 3 41 := ⟨by decide +kernel, rfl⟩
theorem ml_RX4_66 : (Cond.methodLink "MothCustoms" 66 yX1_copyFrom : Cond) ∈ jj_tb := jj_m (List.mem_of_getElem? (i := 437) (by decide +kernel)) rfl
theorem dd_X4_text_41 : jd cX4_text 41 (.invokevirtual 66) 3 44 := ⟨by decide +kernel, rfl⟩
theorem dd_X4_text_44 : jd cX4_text 44 (.aload_n 0) 1 45 := ⟨by decide +kernel, rfl⟩
theorem dd_X4_text_45 : jd cX4_text 45 (.iconst 0) 1 46 := ⟨by decide +kernel, rfl⟩
theorem fl_RX4_70 : (Cond.fieldLink "MothCustoms" 70 "MothCustoms" "kept" "I" : Cond) ∈ jj_tb := jj_m (List.mem_of_getElem? (i := 274) (by decide +kernel)) rfl
theorem dd_X4_text_46 : jd cX4_text 46 (.putfield 70) 3 49 := ⟨by decide +kernel, rfl⟩
theorem dd_X4_text_49 : jd cX4_text 49 (.iload_n 1) 1 50 := ⟨by decide +kernel, rfl⟩
theorem dd_X4_text_50 : jd cX4_text 50 (.ireturn) 1 51 := ⟨by decide +kernel, rfl⟩
theorem dd_X4_text_22 : jd cX4_text 22 (.bipush (-10)) 2 24 := ⟨by decide +kernel, rfl⟩
theorem dd_X4_text_24 : jd cX4_text 24 (.aload_n 0) 1 25 := ⟨by decide +kernel, rfl⟩
theorem dd_X4_text_25 : jd cX4_text 25 (.getfield 12) 3 28 := ⟨by decide +kernel, rfl⟩
theorem fl_RX4_63 : (Cond.fieldLink "MothCustoms" 63 "MothCustoms$Tape" "faultPlace" "I" : Cond) ∈ jj_tb := jj_m (List.mem_of_getElem? (i := 97) (by decide +kernel)) rfl
theorem dd_X4_text_28 : jd cX4_text 28 (.getfield 63) 3 31 := ⟨by decide +kernel, rfl⟩
theorem dd_X4_text_31 : jd cX4_text 31 (.isub) 1 32 := ⟨by decide +kernel, rfl⟩
theorem dd_X4_text_32 : jd cX4_text 32 (.ireturn) 1 33 := ⟨by decide +kernel, rfl⟩
theorem dd_X4_text_19 : jd cX4_text 19 (.ifCond .eq 14) 3 22 := ⟨by decide +kernel, rfl⟩
theorem m_X4_text : jmV yX4_text cX4_text 2 (some .int) 0 := ⟨⟨(jj_m (w := Cond.code yX4_text cX4_text 2 (some .int)) (List.mem_of_getElem? (i := 307) (by decide +kernel)) rfl), (jj_m (w := Cond.initialized yX4_text.cls) (List.mem_of_getElem? (i := 64) (by decide +kernel)) rfl), ⟨by decide, by decide⟩, by decide +kernel⟩, (jj_m (w := Cond.instanceMethod yX4_text) (List.mem_of_getElem? (i := 305) (by decide +kernel)) rfl), (jj_m (w := Cond.selects yX4_text.cls yX4_text yX4_text) (List.mem_of_getElem? (i := 306) (by decide +kernel)) rfl)⟩
def fX4_text  (X : M3) : Option (Int32 × M3) :=
  (fX3_tellInto  (X 1) (X 3)).bind fun q1 =>
  lt ((va_up (va_up X 1 q1.2.1) 3 q1.2.2)) fun X2 =>
  if ((X2 1) 2 0) = 0 then
    (fX1_copyFrom  (X2 2) (X2 3)).bind fun q3 =>
    lt ((va_up X2 2 q3)) fun X4 =>
    lt ((va_up X4 0 (va_up (X4 0) 6 (fun _ => (0 : Int32))))) fun X5 =>
    some (q1.1, X5)
  else
    some (((-10 : Int32) - ((X2 1) 3 0)), X2)

set_option maxHeartbeats 4000000 in
set_option maxRecDepth 100000 in
theorem tX4_text (l : Launch) {V : JV M3} {ob : Nat → Nat} {aa : Nat → Nat → Nat} (hX : vX4 V ob aa) (X : M3)  : JC l V yX4_text cX4_text 2 (some .int) jj_i 9 [.ref (ob 0)] X ((fX4_text  X).map (fun q => (q.1, q.2))) := by
  refine jj_of (by decide) (Nat.le_of_ble_eq_true rfl) (fun E hlE hE => ?_)
  unfold fX4_text
  refine J_sub (L' := [(0, .ref (ob 0))]) [0] rfl ?_
  refine J_aload_n hE dd_X4_text_0 0 rfl rfl ?_
  refine J_get hE (hX.rt.ob _) jc_X4 0 (by decide) fl_RX4_12 (v := .ref (ob 1)) rfl dd_X4_text_1 ?_
  refine J_aload_n hE dd_X4_text_4 0 rfl rfl ?_
  refine J_get hE (hX.rt.ob _) jc_X4 2 (by decide) fl_RX4_23 (v := .ref (ob 3)) rfl dd_X4_text_5 ?_
  refine J_invVwi hE (e := fun p : M2 × M2 => va_up (va_up X 1 p.1) 3 p.2) (As := [.ref (ob 3)]) (st := []) (JC.lift_w (e := fun p : M2 × M2 => va_up (va_up X 1 p.1) 3 p.2) (tX3_tellInto E.2.1 (hX.tp1 X) (hX.tp2 X) (X 1) (X 3) ) (va_up_eta2 _ _ _)) (hX.tp.ob _) m_X3_tellInto rfl ml_RX4_56 (Nat.le_of_ble_eq_true rfl) (Nat.le_of_ble_eq_true rfl) rfl (Nat.le_of_ble_eq_true rfl) dd_X4_text_8 (fun q1 => ?_)
  refine J_letS (fun X2 => ?_)
  refine J_istore_n hE (L' := [(1, .int q1.1), (0, .ref (ob 0))]) dd_X4_text_11 (Nat.le_of_ble_eq_true rfl) rfl rfl ?_
  refine J_aload_n hE dd_X4_text_12 1 rfl rfl ?_
  refine J_get hE (hX.rt.ob _) jc_X4 0 (by decide) fl_RX4_12 (v := .ref (ob 1)) rfl dd_X4_text_13 ?_
  refine J_get hE (hX.tp.ob _) jc_X3 2 (by decide) fl_RX4_60 (v := .int ((X2 1) 2 0)) rfl dd_X4_text_16 ?_
  refine J_if_eq hE (tgt := 33) dd_X4_text_19 (by decide) (fun c6 => ?_) (fun c6 => ?_)
  · refine J_aload_n hE dd_X4_text_33 1 rfl rfl ?_
    refine J_get hE (hX.rt.ob _) jc_X4 1 (by decide) fl_RX4_19 (v := .ref (ob 2)) rfl dd_X4_text_34 ?_
    refine J_aload_n hE dd_X4_text_37 1 rfl rfl ?_
    refine J_get hE (hX.rt.ob _) jc_X4 2 (by decide) fl_RX4_23 (v := .ref (ob 3)) rfl dd_X4_text_38 ?_
    refine J_invVwv hE (e := fun S => va_up X2 2 S) (As := [.ref (ob 3)]) (st := []) (JC.lift_v (e := fun S => va_up X2 2 S) (tX1_copyFrom E.2.1 (hX.shS X2 sh2) (hX.shR X2 2 sh3 (by decide)) (X2 2) ) (va_up_eta _ _)) ((hX.sh sh2).ob _) m_X1_copyFrom rfl ml_RX4_66 (Nat.le_of_ble_eq_true rfl) (Nat.le_of_ble_eq_true rfl) rfl (Nat.le_of_ble_eq_true rfl) dd_X4_text_41 (fun q3 => ?_)
    refine J_letS (fun X4 => ?_)
    refine J_aload_n hE dd_X4_text_44 1 rfl rfl ?_
    refine J_iconst hE (v := (0 : Int32)) dd_X4_text_45 (by decide) ?_
    refine J_put hE hX.rt jc_X4 6 (by decide) (by decide) fl_RX4_70 rfl rfl rfl (Nat.le_of_ble_eq_true rfl) dd_X4_text_46 ?_
    refine J_letS (fun X5 => ?_)
    refine J_iload_n hE dd_X4_text_49 0 rfl rfl ?_
    exact J_iret hE dd_X4_text_50 rfl rfl
  · refine J_bipush hE (v := (-10 : Int32)) dd_X4_text_22 (by decide) ?_
    refine J_aload_n hE dd_X4_text_24 1 rfl rfl ?_
    refine J_get hE (hX.rt.ob _) jc_X4 0 (by decide) fl_RX4_12 (v := .ref (ob 1)) rfl dd_X4_text_25 ?_
    refine J_get hE (hX.tp.ob _) jc_X3 3 (by decide) fl_RX4_63 (v := .int ((X2 1) 3 0)) rfl dd_X4_text_28 ?_
    refine J_isub hE dd_X4_text_31 ?_
    exact J_iret hE dd_X4_text_32 rfl rfl
theorem dd_X4_fault_0 : jd cX4_fault 0 (.aload_n 0) 1 1 := ⟨by decide +kernel, rfl⟩
theorem dd_X4_fault_1 : jd cX4_fault 1 (.getfield 12) 3 4 := ⟨by decide +kernel, rfl⟩
theorem dd_X4_fault_4 : jd cX4_fault 4 (.getfield 60) 3 7 := ⟨by decide +kernel, rfl⟩
theorem dd_X4_fault_7 : jd cX4_fault 7 (.ireturn) 1 8 := ⟨by decide +kernel, rfl⟩
theorem m_X4_fault : jmV yX4_fault cX4_fault 1 (some .int) 0 := ⟨⟨(jj_m (w := Cond.code yX4_fault cX4_fault 1 (some .int)) (List.mem_of_getElem? (i := 456) (by decide +kernel)) rfl), (jj_m (w := Cond.initialized yX4_fault.cls) (List.mem_of_getElem? (i := 64) (by decide +kernel)) rfl), ⟨by decide, by decide⟩, by decide +kernel⟩, (jj_m (w := Cond.instanceMethod yX4_fault) (List.mem_of_getElem? (i := 454) (by decide +kernel)) rfl), (jj_m (w := Cond.selects yX4_fault.cls yX4_fault yX4_fault) (List.mem_of_getElem? (i := 455) (by decide +kernel)) rfl)⟩
def fX4_fault  (X : M3) : Option (Int32) :=
  some ((X 1) 2 0)

set_option maxHeartbeats 4000000 in
set_option maxRecDepth 100000 in
theorem tX4_fault (l : Launch) {V : JV M3} {ob : Nat → Nat} {aa : Nat → Nat → Nat} (hX : vX4 V ob aa) (X : M3)  : JC l V yX4_fault cX4_fault 1 (some .int) jj_i 0 [.ref (ob 0)] X ((fX4_fault  X).map (fun r => (r, X))) := by
  refine jj_of (by decide) (Nat.le_of_ble_eq_true rfl) (fun E hlE hE => ?_)
  unfold fX4_fault
  refine J_sub (L' := [(0, .ref (ob 0))]) [0] rfl ?_
  refine J_aload_n hE dd_X4_fault_0 0 rfl rfl ?_
  refine J_get hE (hX.rt.ob _) jc_X4 0 (by decide) fl_RX4_12 (v := .ref (ob 1)) rfl dd_X4_fault_1 ?_
  refine J_get hE (hX.tp.ob _) jc_X3 2 (by decide) fl_RX4_60 (v := .int ((X 1) 2 0)) rfl dd_X4_fault_4 ?_
  exact J_iret hE dd_X4_fault_7 rfl rfl
theorem dd_X4_rule_0 : jd cX4_rule 0 (.iload_n 1) 1 1 := ⟨by decide +kernel, rfl⟩
theorem dd_X4_rule_44 : jd cX4_rule 44 (.aload_n 0) 1 45 := ⟨by decide +kernel, rfl⟩
theorem dd_X4_rule_45 : jd cX4_rule 45 (.getfield 19) 3 48 := ⟨by decide +kernel, rfl⟩
theorem fl_RX4_73 : (Cond.fieldLink "MothCustoms" 73 "MothCustoms$Shed" "bolts" "I" : Cond) ∈ jj_tb := jj_m (List.mem_of_getElem? (i := 139) (by decide +kernel)) rfl
theorem dd_X4_rule_48 : jd cX4_rule 48 (.getfield 73) 3 51 := ⟨by decide +kernel, rfl⟩
theorem dd_X4_rule_51 : jd cX4_rule 51 (.ireturn) 1 52 := ⟨by decide +kernel, rfl⟩
theorem dd_X4_rule_52 : jd cX4_rule 52 (.aload_n 0) 1 53 := ⟨by decide +kernel, rfl⟩
theorem dd_X4_rule_53 : jd cX4_rule 53 (.getfield 19) 3 56 := ⟨by decide +kernel, rfl⟩
theorem fl_RX4_76 : (Cond.fieldLink "MothCustoms" 76 "MothCustoms$Shed" "moths" "I" : Cond) ∈ jj_tb := jj_m (List.mem_of_getElem? (i := 157) (by decide +kernel)) rfl
theorem dd_X4_rule_56 : jd cX4_rule 56 (.getfield 76) 3 59 := ⟨by decide +kernel, rfl⟩
theorem dd_X4_rule_59 : jd cX4_rule 59 (.ireturn) 1 60 := ⟨by decide +kernel, rfl⟩
theorem dd_X4_rule_60 : jd cX4_rule 60 (.aload_n 0) 1 61 := ⟨by decide +kernel, rfl⟩
theorem dd_X4_rule_61 : jd cX4_rule 61 (.getfield 19) 3 64 := ⟨by decide +kernel, rfl⟩
theorem fl_RX4_79 : (Cond.fieldLink "MothCustoms" 79 "MothCustoms$Shed" "moon" "I" : Cond) ∈ jj_tb := jj_m (List.mem_of_getElem? (i := 165) (by decide +kernel)) rfl
theorem dd_X4_rule_64 : jd cX4_rule 64 (.getfield 79) 3 67 := ⟨by decide +kernel, rfl⟩
theorem dd_X4_rule_67 : jd cX4_rule 67 (.ireturn) 1 68 := ⟨by decide +kernel, rfl⟩
theorem dd_X4_rule_68 : jd cX4_rule 68 (.aload_n 0) 1 69 := ⟨by decide +kernel, rfl⟩
theorem dd_X4_rule_69 : jd cX4_rule 69 (.getfield 19) 3 72 := ⟨by decide +kernel, rfl⟩
theorem fl_RX4_82 : (Cond.fieldLink "MothCustoms" 82 "MothCustoms$Shed" "rate" "I" : Cond) ∈ jj_tb := jj_m (List.mem_of_getElem? (i := 168) (by decide +kernel)) rfl
theorem dd_X4_rule_72 : jd cX4_rule 72 (.getfield 82) 3 75 := ⟨by decide +kernel, rfl⟩
theorem dd_X4_rule_75 : jd cX4_rule 75 (.ireturn) 1 76 := ⟨by decide +kernel, rfl⟩
theorem dd_X4_rule_76 : jd cX4_rule 76 (.aload_n 0) 1 77 := ⟨by decide +kernel, rfl⟩
theorem dd_X4_rule_77 : jd cX4_rule 77 (.getfield 19) 3 80 := ⟨by decide +kernel, rfl⟩
theorem fl_RX4_85 : (Cond.fieldLink "MothCustoms" 85 "MothCustoms$Shed" "night" "I" : Cond) ∈ jj_tb := jj_m (List.mem_of_getElem? (i := 171) (by decide +kernel)) rfl
theorem dd_X4_rule_80 : jd cX4_rule 80 (.getfield 85) 3 83 := ⟨by decide +kernel, rfl⟩
theorem dd_X4_rule_83 : jd cX4_rule 83 (.ireturn) 1 84 := ⟨by decide +kernel, rfl⟩
theorem dd_X4_rule_84 : jd cX4_rule 84 (.aload_n 0) 1 85 := ⟨by decide +kernel, rfl⟩
theorem dd_X4_rule_85 : jd cX4_rule 85 (.getfield 19) 3 88 := ⟨by decide +kernel, rfl⟩
theorem fl_RX4_88 : (Cond.fieldLink "MothCustoms" 88 "MothCustoms$Shed" "camphor" "I" : Cond) ∈ jj_tb := jj_m (List.mem_of_getElem? (i := 148) (by decide +kernel)) rfl
theorem dd_X4_rule_88 : jd cX4_rule 88 (.getfield 88) 3 91 := ⟨by decide +kernel, rfl⟩
theorem dd_X4_rule_91 : jd cX4_rule 91 (.ireturn) 1 92 := ⟨by decide +kernel, rfl⟩
theorem dd_X4_rule_92 : jd cX4_rule 92 (.aload_n 0) 1 93 := ⟨by decide +kernel, rfl⟩
theorem dd_X4_rule_93 : jd cX4_rule 93 (.getfield 19) 3 96 := ⟨by decide +kernel, rfl⟩
theorem ml_RX4_91 : (Cond.methodLink "MothCustoms" 91 yX1_eatenUp : Cond) ∈ jj_tb := jj_m (List.mem_of_getElem? (i := 461) (by decide +kernel)) rfl
theorem dd_X4_rule_96 : jd cX4_rule 96 (.invokevirtual 91) 3 99 := ⟨by decide +kernel, rfl⟩
theorem dd_X4_rule_99 : jd cX4_rule 99 (.ireturn) 1 100 := ⟨by decide +kernel, rfl⟩
theorem dd_X4_rule_100 : jd cX4_rule 100 (.iconst (-1)) 1 101 := ⟨by decide +kernel, rfl⟩
theorem dd_X4_rule_101 : jd cX4_rule 101 (.ireturn) 1 102 := ⟨by decide +kernel, rfl⟩
theorem dd_X4_rule_1 : jd cX4_rule 1 (.tableswitch 99 0 6 #[43, 51, 59, 67, 75, 83, 91]) 43 44 := ⟨by decide +kernel, rfl⟩
theorem m_X4_rule : jmV yX4_rule cX4_rule 2 (some .int) 1 := ⟨⟨(jj_m (w := Cond.code yX4_rule cX4_rule 2 (some .int)) (List.mem_of_getElem? (i := 460) (by decide +kernel)) rfl), (jj_m (w := Cond.initialized yX4_rule.cls) (List.mem_of_getElem? (i := 64) (by decide +kernel)) rfl), ⟨by decide, by decide⟩, by decide +kernel⟩, (jj_m (w := Cond.instanceMethod yX4_rule) (List.mem_of_getElem? (i := 458) (by decide +kernel)) rfl), (jj_m (w := Cond.selects yX4_rule.cls yX4_rule yX4_rule) (List.mem_of_getElem? (i := 459) (by decide +kernel)) rfl)⟩
def fX4_rule (i1 : Int32) (X : M3) : Option (Int32) :=
  if i1 = 0 then
    some ((X 2) 0 0)
  else
    if i1 = 1 then
      some ((X 2) 7 0)
    else
      if i1 = 2 then
        some ((X 2) 12 0)
      else
        if i1 = 3 then
          some ((X 2) 13 0)
        else
          if i1 = 4 then
            some ((X 2) 14 0)
          else
            if i1 = 5 then
              some ((X 2) 4 0)
            else
              if i1 = 6 then
                (fX1_eatenUp  (X 2)).bind fun r8 =>
                some r8
              else
                some (-1 : Int32)

set_option maxHeartbeats 4000000 in
set_option maxRecDepth 100000 in
theorem tX4_rule (l : Launch) {V : JV M3} {ob : Nat → Nat} {aa : Nat → Nat → Nat} (hX : vX4 V ob aa) (X : M3) (i1 : Int32) : JC l V yX4_rule cX4_rule 2 (some .int) jj_i 2 [.ref (ob 0), .int i1] X ((fX4_rule i1 X).map (fun r => (r, X))) := by
  refine jj_of (by decide) (Nat.le_of_ble_eq_true rfl) (fun E hlE hE => ?_)
  unfold fX4_rule
  refine J_sub (L' := [(0, .ref (ob 0)), (1, .int i1)]) [0, 1] rfl ?_
  refine J_iload_n hE dd_X4_rule_0 1 rfl rfl ?_
  refine J_ite (fun c1 => ?_) (fun c1 => ?_)
  · refine J_tsAt hE c1 (off := 43) (tgt := 44) dd_X4_rule_1 (by decide) (by decide) (by decide) (by decide) ?_
    refine J_aload_n hE dd_X4_rule_44 0 rfl rfl ?_
    refine J_get hE (hX.rt.ob _) jc_X4 1 (by decide) fl_RX4_19 (v := .ref (ob 2)) rfl dd_X4_rule_45 ?_
    refine J_get hE ((hX.sh sh2).ob _) jc_X1 0 (by decide) fl_RX4_73 (v := .int ((X 2) 0 0)) rfl dd_X4_rule_48 ?_
    exact J_iret hE dd_X4_rule_51 rfl rfl
  · refine J_ite (fun c2 => ?_) (fun c2 => ?_)
    · refine J_tsAt hE c2 (off := 51) (tgt := 52) dd_X4_rule_1 (by decide) (by decide) (by decide) (by decide) ?_
      refine J_aload_n hE dd_X4_rule_52 0 rfl rfl ?_
      refine J_get hE (hX.rt.ob _) jc_X4 1 (by decide) fl_RX4_19 (v := .ref (ob 2)) rfl dd_X4_rule_53 ?_
      refine J_get hE ((hX.sh sh2).ob _) jc_X1 7 (by decide) fl_RX4_76 (v := .int ((X 2) 7 0)) rfl dd_X4_rule_56 ?_
      exact J_iret hE dd_X4_rule_59 rfl rfl
    · refine J_ite (fun c3 => ?_) (fun c3 => ?_)
      · refine J_tsAt hE c3 (off := 59) (tgt := 60) dd_X4_rule_1 (by decide) (by decide) (by decide) (by decide) ?_
        refine J_aload_n hE dd_X4_rule_60 0 rfl rfl ?_
        refine J_get hE (hX.rt.ob _) jc_X4 1 (by decide) fl_RX4_19 (v := .ref (ob 2)) rfl dd_X4_rule_61 ?_
        refine J_get hE ((hX.sh sh2).ob _) jc_X1 12 (by decide) fl_RX4_79 (v := .int ((X 2) 12 0)) rfl dd_X4_rule_64 ?_
        exact J_iret hE dd_X4_rule_67 rfl rfl
      · refine J_ite (fun c4 => ?_) (fun c4 => ?_)
        · refine J_tsAt hE c4 (off := 67) (tgt := 68) dd_X4_rule_1 (by decide) (by decide) (by decide) (by decide) ?_
          refine J_aload_n hE dd_X4_rule_68 0 rfl rfl ?_
          refine J_get hE (hX.rt.ob _) jc_X4 1 (by decide) fl_RX4_19 (v := .ref (ob 2)) rfl dd_X4_rule_69 ?_
          refine J_get hE ((hX.sh sh2).ob _) jc_X1 13 (by decide) fl_RX4_82 (v := .int ((X 2) 13 0)) rfl dd_X4_rule_72 ?_
          exact J_iret hE dd_X4_rule_75 rfl rfl
        · refine J_ite (fun c5 => ?_) (fun c5 => ?_)
          · refine J_tsAt hE c5 (off := 75) (tgt := 76) dd_X4_rule_1 (by decide) (by decide) (by decide) (by decide) ?_
            refine J_aload_n hE dd_X4_rule_76 0 rfl rfl ?_
            refine J_get hE (hX.rt.ob _) jc_X4 1 (by decide) fl_RX4_19 (v := .ref (ob 2)) rfl dd_X4_rule_77 ?_
            refine J_get hE ((hX.sh sh2).ob _) jc_X1 14 (by decide) fl_RX4_85 (v := .int ((X 2) 14 0)) rfl dd_X4_rule_80 ?_
            exact J_iret hE dd_X4_rule_83 rfl rfl
          · refine J_ite (fun c6 => ?_) (fun c6 => ?_)
            · refine J_tsAt hE c6 (off := 83) (tgt := 84) dd_X4_rule_1 (by decide) (by decide) (by decide) (by decide) ?_
              refine J_aload_n hE dd_X4_rule_84 0 rfl rfl ?_
              refine J_get hE (hX.rt.ob _) jc_X4 1 (by decide) fl_RX4_19 (v := .ref (ob 2)) rfl dd_X4_rule_85 ?_
              refine J_get hE ((hX.sh sh2).ob _) jc_X1 4 (by decide) fl_RX4_88 (v := .int ((X 2) 4 0)) rfl dd_X4_rule_88 ?_
              exact J_iret hE dd_X4_rule_91 rfl rfl
            · refine J_ite (fun c7 => ?_) (fun c7 => ?_)
              · refine J_tsAt hE c7 (off := 91) (tgt := 92) dd_X4_rule_1 (by decide) (by decide) (by decide) (by decide) ?_
                refine J_aload_n hE dd_X4_rule_92 0 rfl rfl ?_
                refine J_get hE (hX.rt.ob _) jc_X4 1 (by decide) fl_RX4_19 (v := .ref (ob 2)) rfl dd_X4_rule_93 ?_
                refine J_invVri hE (As := []) (st := []) (JC.lift_r (e := fun S => va_up X 2 S) (tX1_eatenUp E.2.1 (hX.shS X sh2) (X 2) ) (va_up_eta _ _)) ((hX.sh sh2).ob _) m_X1_eatenUp rfl ml_RX4_91 (Nat.le_of_ble_eq_true rfl) (Nat.le_of_ble_eq_true rfl) rfl (Nat.le_of_ble_eq_true rfl) dd_X4_rule_96 (fun r8 => ?_)
                exact J_iret hE dd_X4_rule_99 rfl rfl
              · refine J_tsOut hE (tgt := 100) dd_X4_rule_1 (by have e0 : ¬ (i1).toInt = 0 := fun q => c1 (Int32.toInt_inj.mp (q.trans (by decide))); have e1 : ¬ (i1).toInt = 1 := fun q => c2 (Int32.toInt_inj.mp (q.trans (by decide))); have e2 : ¬ (i1).toInt = 2 := fun q => c3 (Int32.toInt_inj.mp (q.trans (by decide))); have e3 : ¬ (i1).toInt = 3 := fun q => c4 (Int32.toInt_inj.mp (q.trans (by decide))); have e4 : ¬ (i1).toInt = 4 := fun q => c5 (Int32.toInt_inj.mp (q.trans (by decide))); have e5 : ¬ (i1).toInt = 5 := fun q => c6 (Int32.toInt_inj.mp (q.trans (by decide))); have e6 : ¬ (i1).toInt = 6 := fun q => c7 (Int32.toInt_inj.mp (q.trans (by decide))); omega) (by decide) ?_
                refine J_iconst hE (v := (-1 : Int32)) dd_X4_rule_100 (by decide) ?_
                exact J_iret hE dd_X4_rule_101 rfl rfl
theorem dd_X4_bolt_0 : jd cX4_bolt 0 (.aload_n 0) 1 1 := ⟨by decide +kernel, rfl⟩
theorem dd_X4_bolt_1 : jd cX4_bolt 1 (.getfield 19) 3 4 := ⟨by decide +kernel, rfl⟩
theorem dd_X4_bolt_4 : jd cX4_bolt 4 (.iload_n 1) 1 5 := ⟨by decide +kernel, rfl⟩
theorem ml_RX4_95 : (Cond.methodLink "MothCustoms" 95 yX1_hasBolt : Cond) ∈ jj_tb := jj_m (List.mem_of_getElem? (i := 473) (by decide +kernel)) rfl
theorem dd_X4_bolt_5 : jd cX4_bolt 5 (.invokevirtual 95) 3 8 := ⟨by decide +kernel, rfl⟩
theorem dd_X4_bolt_13 : jd cX4_bolt 13 (.iload_n 2) 1 14 := ⟨by decide +kernel, rfl⟩
theorem dd_X4_bolt_52 : jd cX4_bolt 52 (.aload_n 0) 1 53 := ⟨by decide +kernel, rfl⟩
theorem dd_X4_bolt_53 : jd cX4_bolt 53 (.getfield 19) 3 56 := ⟨by decide +kernel, rfl⟩
theorem fl_RX4_99 : (Cond.fieldLink "MothCustoms" 99 "MothCustoms$Shed" "dye" "[I" : Cond) ∈ jj_tb := jj_m (List.mem_of_getElem? (i := 141) (by decide +kernel)) rfl
theorem dd_X4_bolt_56 : jd cX4_bolt 56 (.getfield 99) 3 59 := ⟨by decide +kernel, rfl⟩
theorem dd_X4_bolt_59 : jd cX4_bolt 59 (.iload_n 1) 1 60 := ⟨by decide +kernel, rfl⟩
theorem dd_X4_bolt_60 : jd cX4_bolt 60 (.iaload) 1 61 := ⟨by decide +kernel, rfl⟩
theorem dd_X4_bolt_61 : jd cX4_bolt 61 (.ireturn) 1 62 := ⟨by decide +kernel, rfl⟩
theorem dd_X4_bolt_62 : jd cX4_bolt 62 (.aload_n 0) 1 63 := ⟨by decide +kernel, rfl⟩
theorem dd_X4_bolt_63 : jd cX4_bolt 63 (.getfield 19) 3 66 := ⟨by decide +kernel, rfl⟩
theorem fl_RX4_102 : (Cond.fieldLink "MothCustoms" 102 "MothCustoms$Shed" "wool" "[I" : Cond) ∈ jj_tb := jj_m (List.mem_of_getElem? (i := 143) (by decide +kernel)) rfl
theorem dd_X4_bolt_66 : jd cX4_bolt 66 (.getfield 102) 3 69 := ⟨by decide +kernel, rfl⟩
theorem dd_X4_bolt_69 : jd cX4_bolt 69 (.iload_n 1) 1 70 := ⟨by decide +kernel, rfl⟩
theorem dd_X4_bolt_70 : jd cX4_bolt 70 (.iaload) 1 71 := ⟨by decide +kernel, rfl⟩
theorem dd_X4_bolt_71 : jd cX4_bolt 71 (.ireturn) 1 72 := ⟨by decide +kernel, rfl⟩
theorem dd_X4_bolt_72 : jd cX4_bolt 72 (.aload_n 0) 1 73 := ⟨by decide +kernel, rfl⟩
theorem dd_X4_bolt_73 : jd cX4_bolt 73 (.getfield 19) 3 76 := ⟨by decide +kernel, rfl⟩
theorem fl_RX4_105 : (Cond.fieldLink "MothCustoms" 105 "MothCustoms$Shed" "holes" "[I" : Cond) ∈ jj_tb := jj_m (List.mem_of_getElem? (i := 145) (by decide +kernel)) rfl
theorem dd_X4_bolt_76 : jd cX4_bolt 76 (.getfield 105) 3 79 := ⟨by decide +kernel, rfl⟩
theorem dd_X4_bolt_79 : jd cX4_bolt 79 (.iload_n 1) 1 80 := ⟨by decide +kernel, rfl⟩
theorem dd_X4_bolt_80 : jd cX4_bolt 80 (.iaload) 1 81 := ⟨by decide +kernel, rfl⟩
theorem dd_X4_bolt_81 : jd cX4_bolt 81 (.ireturn) 1 82 := ⟨by decide +kernel, rfl⟩
theorem dd_X4_bolt_82 : jd cX4_bolt 82 (.aload_n 0) 1 83 := ⟨by decide +kernel, rfl⟩
theorem dd_X4_bolt_83 : jd cX4_bolt 83 (.getfield 19) 3 86 := ⟨by decide +kernel, rfl⟩
theorem dd_X4_bolt_86 : jd cX4_bolt 86 (.getfield 88) 3 89 := ⟨by decide +kernel, rfl⟩
theorem dd_X4_bolt_89 : jd cX4_bolt 89 (.iload_n 1) 1 90 := ⟨by decide +kernel, rfl⟩
theorem dd_X4_bolt_90 : jd cX4_bolt 90 (.ishr) 1 91 := ⟨by decide +kernel, rfl⟩
theorem dd_X4_bolt_91 : jd cX4_bolt 91 (.iconst 1) 1 92 := ⟨by decide +kernel, rfl⟩
theorem dd_X4_bolt_92 : jd cX4_bolt 92 (.iand) 1 93 := ⟨by decide +kernel, rfl⟩
theorem dd_X4_bolt_93 : jd cX4_bolt 93 (.ireturn) 1 94 := ⟨by decide +kernel, rfl⟩
theorem dd_X4_bolt_94 : jd cX4_bolt 94 (.aload_n 0) 1 95 := ⟨by decide +kernel, rfl⟩
theorem dd_X4_bolt_95 : jd cX4_bolt 95 (.getfield 19) 3 98 := ⟨by decide +kernel, rfl⟩
theorem dd_X4_bolt_98 : jd cX4_bolt 98 (.iload_n 1) 1 99 := ⟨by decide +kernel, rfl⟩
theorem ml_RX4_108 : (Cond.methodLink "MothCustoms" 108 yX1_baleOf : Cond) ∈ jj_tb := jj_m (List.mem_of_getElem? (i := 478) (by decide +kernel)) rfl
theorem dd_X4_bolt_99 : jd cX4_bolt 99 (.invokevirtual 108) 3 102 := ⟨by decide +kernel, rfl⟩
theorem dd_X4_bolt_102 : jd cX4_bolt 102 (.ireturn) 1 103 := ⟨by decide +kernel, rfl⟩
theorem dd_X4_bolt_103 : jd cX4_bolt 103 (.aload_n 0) 1 104 := ⟨by decide +kernel, rfl⟩
theorem dd_X4_bolt_104 : jd cX4_bolt 104 (.getfield 19) 3 107 := ⟨by decide +kernel, rfl⟩
theorem dd_X4_bolt_107 : jd cX4_bolt 107 (.iload_n 1) 1 108 := ⟨by decide +kernel, rfl⟩
theorem ml_RX4_112 : (Cond.methodLink "MothCustoms" 112 yX1_layerOf : Cond) ∈ jj_tb := jj_m (List.mem_of_getElem? (i := 486) (by decide +kernel)) rfl
theorem dd_X4_bolt_108 : jd cX4_bolt 108 (.invokevirtual 112) 3 111 := ⟨by decide +kernel, rfl⟩
theorem dd_X4_bolt_111 : jd cX4_bolt 111 (.ireturn) 1 112 := ⟨by decide +kernel, rfl⟩
theorem dd_X4_bolt_112 : jd cX4_bolt 112 (.iconst (-1)) 1 113 := ⟨by decide +kernel, rfl⟩
theorem dd_X4_bolt_113 : jd cX4_bolt 113 (.ireturn) 1 114 := ⟨by decide +kernel, rfl⟩
theorem dd_X4_bolt_14 : jd cX4_bolt 14 (.tableswitch 98 0 5 #[38, 48, 58, 68, 80, 89]) 38 52 := ⟨by decide +kernel, rfl⟩
theorem dd_X4_bolt_11 : jd cX4_bolt 11 (.iconst (-1)) 1 12 := ⟨by decide +kernel, rfl⟩
theorem dd_X4_bolt_12 : jd cX4_bolt 12 (.ireturn) 1 13 := ⟨by decide +kernel, rfl⟩
theorem dd_X4_bolt_8 : jd cX4_bolt 8 (.ifCond .ne 5) 3 11 := ⟨by decide +kernel, rfl⟩
theorem m_X4_bolt : jmV yX4_bolt cX4_bolt 3 (some .int) 2 := ⟨⟨(jj_m (w := Cond.code yX4_bolt cX4_bolt 3 (some .int)) (List.mem_of_getElem? (i := 472) (by decide +kernel)) rfl), (jj_m (w := Cond.initialized yX4_bolt.cls) (List.mem_of_getElem? (i := 64) (by decide +kernel)) rfl), ⟨by decide, by decide⟩, by decide +kernel⟩, (jj_m (w := Cond.instanceMethod yX4_bolt) (List.mem_of_getElem? (i := 470) (by decide +kernel)) rfl), (jj_m (w := Cond.selects yX4_bolt.cls yX4_bolt yX4_bolt) (List.mem_of_getElem? (i := 471) (by decide +kernel)) rfl)⟩
def fX4_bolt (i1 : Int32) (i2 : Int32) (X : M3) : Option (Int32) :=
  (fX1_hasBolt i1 (X 2)).bind fun r1 =>
  if r1 = 0 then
    some (-1 : Int32)
  else
    if i2 = 0 then
      bnd i1 5 <|
      some ((X 2) 1 i1.toNatClampNeg)
    else
      if i2 = 1 then
        bnd i1 5 <|
        some ((X 2) 2 i1.toNatClampNeg)
      else
        if i2 = 2 then
          bnd i1 5 <|
          some ((X 2) 3 i1.toNatClampNeg)
        else
          if i2 = 3 then
            some ((((X 2) 4 0) >>> (i1 &&& 31)) &&& (1 : Int32))
          else
            if i2 = 4 then
              (fX1_baleOf i1 (X 2)).bind fun r7 =>
              some r7
            else
              if i2 = 5 then
                (fX1_layerOf i1 (X 2)).bind fun r9 =>
                some r9
              else
                some (-1 : Int32)

set_option maxHeartbeats 4000000 in
set_option maxRecDepth 100000 in
theorem tX4_bolt (l : Launch) {V : JV M3} {ob : Nat → Nat} {aa : Nat → Nat → Nat} (hX : vX4 V ob aa) (X : M3) (i1 : Int32) (i2 : Int32) : JC l V yX4_bolt cX4_bolt 3 (some .int) jj_i 2 [.ref (ob 0), .int i1, .int i2] X ((fX4_bolt i1 i2 X).map (fun r => (r, X))) := by
  refine jj_of (by decide) (Nat.le_of_ble_eq_true rfl) (fun E hlE hE => ?_)
  unfold fX4_bolt
  refine J_sub (L' := [(0, .ref (ob 0)), (1, .int i1), (2, .int i2)]) [0, 1, 2] rfl ?_
  refine J_aload_n hE dd_X4_bolt_0 0 rfl rfl ?_
  refine J_get hE (hX.rt.ob _) jc_X4 1 (by decide) fl_RX4_19 (v := .ref (ob 2)) rfl dd_X4_bolt_1 ?_
  refine J_iload_n hE dd_X4_bolt_4 1 rfl rfl ?_
  refine J_invVri hE (As := [.int i1]) (st := []) (JC.lift_r (e := fun S => va_up X 2 S) (tX1_hasBolt E.2.1 (hX.shS X sh2) (X 2) i1) (va_up_eta _ _)) ((hX.sh sh2).ob _) m_X1_hasBolt rfl ml_RX4_95 (Nat.le_of_ble_eq_true rfl) (Nat.le_of_ble_eq_true rfl) rfl (Nat.le_of_ble_eq_true rfl) dd_X4_bolt_5 (fun r1 => ?_)
  refine J_if_ne hE (tgt := 13) dd_X4_bolt_8 (by decide) (fun c10 => ?_) (fun c10 => ?_)
  · refine J_iload_n hE dd_X4_bolt_13 2 rfl rfl ?_
    refine J_ite (fun c2 => ?_) (fun c2 => ?_)
    · refine J_tsAt hE c2 (off := 38) (tgt := 52) dd_X4_bolt_14 (by decide) (by decide) (by decide) (by decide) ?_
      refine J_aload_n hE dd_X4_bolt_52 0 rfl rfl ?_
      refine J_get hE (hX.rt.ob _) jc_X4 1 (by decide) fl_RX4_19 (v := .ref (ob 2)) rfl dd_X4_bolt_53 ?_
      refine J_get hE ((hX.sh sh2).ob _) jc_X1 1 (by decide) fl_RX4_99 (v := .ref ((aa 2) 1)) rfl dd_X4_bolt_56 ?_
      refine J_iload_n hE dd_X4_bolt_59 1 rfl rfl ?_
      refine J_ald hE ((hX.sh sh2).arr 1 (n := 5) (ty := .int) (by decide) _) dd_X4_bolt_60 ?_
      exact J_iret hE dd_X4_bolt_61 rfl rfl
    · refine J_ite (fun c3 => ?_) (fun c3 => ?_)
      · refine J_tsAt hE c3 (off := 48) (tgt := 62) dd_X4_bolt_14 (by decide) (by decide) (by decide) (by decide) ?_
        refine J_aload_n hE dd_X4_bolt_62 0 rfl rfl ?_
        refine J_get hE (hX.rt.ob _) jc_X4 1 (by decide) fl_RX4_19 (v := .ref (ob 2)) rfl dd_X4_bolt_63 ?_
        refine J_get hE ((hX.sh sh2).ob _) jc_X1 2 (by decide) fl_RX4_102 (v := .ref ((aa 2) 2)) rfl dd_X4_bolt_66 ?_
        refine J_iload_n hE dd_X4_bolt_69 1 rfl rfl ?_
        refine J_ald hE ((hX.sh sh2).arr 2 (n := 5) (ty := .int) (by decide) _) dd_X4_bolt_70 ?_
        exact J_iret hE dd_X4_bolt_71 rfl rfl
      · refine J_ite (fun c4 => ?_) (fun c4 => ?_)
        · refine J_tsAt hE c4 (off := 58) (tgt := 72) dd_X4_bolt_14 (by decide) (by decide) (by decide) (by decide) ?_
          refine J_aload_n hE dd_X4_bolt_72 0 rfl rfl ?_
          refine J_get hE (hX.rt.ob _) jc_X4 1 (by decide) fl_RX4_19 (v := .ref (ob 2)) rfl dd_X4_bolt_73 ?_
          refine J_get hE ((hX.sh sh2).ob _) jc_X1 3 (by decide) fl_RX4_105 (v := .ref ((aa 2) 3)) rfl dd_X4_bolt_76 ?_
          refine J_iload_n hE dd_X4_bolt_79 1 rfl rfl ?_
          refine J_ald hE ((hX.sh sh2).arr 3 (n := 5) (ty := .int) (by decide) _) dd_X4_bolt_80 ?_
          exact J_iret hE dd_X4_bolt_81 rfl rfl
        · refine J_ite (fun c5 => ?_) (fun c5 => ?_)
          · refine J_tsAt hE c5 (off := 68) (tgt := 82) dd_X4_bolt_14 (by decide) (by decide) (by decide) (by decide) ?_
            refine J_aload_n hE dd_X4_bolt_82 0 rfl rfl ?_
            refine J_get hE (hX.rt.ob _) jc_X4 1 (by decide) fl_RX4_19 (v := .ref (ob 2)) rfl dd_X4_bolt_83 ?_
            refine J_get hE ((hX.sh sh2).ob _) jc_X1 4 (by decide) fl_RX4_88 (v := .int ((X 2) 4 0)) rfl dd_X4_bolt_86 ?_
            refine J_iload_n hE dd_X4_bolt_89 1 rfl rfl ?_
            refine J_ishr hE dd_X4_bolt_90 ?_
            refine J_iconst hE (v := (1 : Int32)) dd_X4_bolt_91 (by decide) ?_
            refine J_iand hE dd_X4_bolt_92 ?_
            exact J_iret hE dd_X4_bolt_93 rfl rfl
          · refine J_ite (fun c6 => ?_) (fun c6 => ?_)
            · refine J_tsAt hE c6 (off := 80) (tgt := 94) dd_X4_bolt_14 (by decide) (by decide) (by decide) (by decide) ?_
              refine J_aload_n hE dd_X4_bolt_94 0 rfl rfl ?_
              refine J_get hE (hX.rt.ob _) jc_X4 1 (by decide) fl_RX4_19 (v := .ref (ob 2)) rfl dd_X4_bolt_95 ?_
              refine J_iload_n hE dd_X4_bolt_98 1 rfl rfl ?_
              refine J_invVri hE (As := [.int i1]) (st := []) (JC.lift_r (e := fun S => va_up X 2 S) (tX1_baleOf E.2.1 (hX.shS X sh2) (X 2) i1) (va_up_eta _ _)) ((hX.sh sh2).ob _) m_X1_baleOf rfl ml_RX4_108 (Nat.le_of_ble_eq_true rfl) (Nat.le_of_ble_eq_true rfl) rfl (Nat.le_of_ble_eq_true rfl) dd_X4_bolt_99 (fun r7 => ?_)
              exact J_iret hE dd_X4_bolt_102 rfl rfl
            · refine J_ite (fun c8 => ?_) (fun c8 => ?_)
              · refine J_tsAt hE c8 (off := 89) (tgt := 103) dd_X4_bolt_14 (by decide) (by decide) (by decide) (by decide) ?_
                refine J_aload_n hE dd_X4_bolt_103 0 rfl rfl ?_
                refine J_get hE (hX.rt.ob _) jc_X4 1 (by decide) fl_RX4_19 (v := .ref (ob 2)) rfl dd_X4_bolt_104 ?_
                refine J_iload_n hE dd_X4_bolt_107 1 rfl rfl ?_
                refine J_invVri hE (As := [.int i1]) (st := []) (JC.lift_r (e := fun S => va_up X 2 S) (tX1_layerOf E.2.1 (hX.shS X sh2) (X 2) i1) (va_up_eta _ _)) ((hX.sh sh2).ob _) m_X1_layerOf rfl ml_RX4_112 (Nat.le_of_ble_eq_true rfl) (Nat.le_of_ble_eq_true rfl) rfl (Nat.le_of_ble_eq_true rfl) dd_X4_bolt_108 (fun r9 => ?_)
                exact J_iret hE dd_X4_bolt_111 rfl rfl
              · refine J_tsOut hE (tgt := 112) dd_X4_bolt_14 (by have e0 : ¬ (i2).toInt = 0 := fun q => c2 (Int32.toInt_inj.mp (q.trans (by decide))); have e1 : ¬ (i2).toInt = 1 := fun q => c3 (Int32.toInt_inj.mp (q.trans (by decide))); have e2 : ¬ (i2).toInt = 2 := fun q => c4 (Int32.toInt_inj.mp (q.trans (by decide))); have e3 : ¬ (i2).toInt = 3 := fun q => c5 (Int32.toInt_inj.mp (q.trans (by decide))); have e4 : ¬ (i2).toInt = 4 := fun q => c6 (Int32.toInt_inj.mp (q.trans (by decide))); have e5 : ¬ (i2).toInt = 5 := fun q => c8 (Int32.toInt_inj.mp (q.trans (by decide))); omega) (by decide) ?_
                refine J_iconst hE (v := (-1 : Int32)) dd_X4_bolt_112 (by decide) ?_
                exact J_iret hE dd_X4_bolt_113 rfl rfl
  · refine J_iconst hE (v := (-1 : Int32)) dd_X4_bolt_11 (by decide) ?_
    exact J_iret hE dd_X4_bolt_12 rfl rfl
theorem dd_X4_moth_0 : jd cX4_moth 0 (.aload_n 0) 1 1 := ⟨by decide +kernel, rfl⟩
theorem dd_X4_moth_1 : jd cX4_moth 1 (.getfield 19) 3 4 := ⟨by decide +kernel, rfl⟩
theorem dd_X4_moth_4 : jd cX4_moth 4 (.iload_n 1) 1 5 := ⟨by decide +kernel, rfl⟩
theorem ml_RX4_115 : (Cond.methodLink "MothCustoms" 115 yX1_hasMoth : Cond) ∈ jj_tb := jj_m (List.mem_of_getElem? (i := 494) (by decide +kernel)) rfl
theorem dd_X4_moth_5 : jd cX4_moth 5 (.invokevirtual 115) 3 8 := ⟨by decide +kernel, rfl⟩
theorem dd_X4_moth_13 : jd cX4_moth 13 (.iload_n 2) 1 14 := ⟨by decide +kernel, rfl⟩
theorem dd_X4_moth_40 : jd cX4_moth 40 (.aload_n 0) 1 41 := ⟨by decide +kernel, rfl⟩
theorem dd_X4_moth_41 : jd cX4_moth 41 (.getfield 19) 3 44 := ⟨by decide +kernel, rfl⟩
theorem dd_X4_moth_44 : jd cX4_moth 44 (.iload_n 1) 1 45 := ⟨by decide +kernel, rfl⟩
theorem ml_RX4_118 : (Cond.methodLink "MothCustoms" 118 yX1_appetite : Cond) ∈ jj_tb := jj_m (List.mem_of_getElem? (i := 498) (by decide +kernel)) rfl
theorem dd_X4_moth_45 : jd cX4_moth 45 (.invokevirtual 118) 3 48 := ⟨by decide +kernel, rfl⟩
theorem dd_X4_moth_48 : jd cX4_moth 48 (.ireturn) 1 49 := ⟨by decide +kernel, rfl⟩
theorem dd_X4_moth_49 : jd cX4_moth 49 (.aload_n 0) 1 50 := ⟨by decide +kernel, rfl⟩
theorem dd_X4_moth_50 : jd cX4_moth 50 (.getfield 19) 3 53 := ⟨by decide +kernel, rfl⟩
theorem dd_X4_moth_53 : jd cX4_moth 53 (.iload_n 1) 1 54 := ⟨by decide +kernel, rfl⟩
theorem ml_RX4_121 : (Cond.methodLink "MothCustoms" 121 yX1_liked : Cond) ∈ jj_tb := jj_m (List.mem_of_getElem? (i := 505) (by decide +kernel)) rfl
theorem dd_X4_moth_54 : jd cX4_moth 54 (.invokevirtual 121) 3 57 := ⟨by decide +kernel, rfl⟩
theorem dd_X4_moth_57 : jd cX4_moth 57 (.ireturn) 1 58 := ⟨by decide +kernel, rfl⟩
theorem dd_X4_moth_58 : jd cX4_moth 58 (.aload_n 0) 1 59 := ⟨by decide +kernel, rfl⟩
theorem dd_X4_moth_59 : jd cX4_moth 59 (.getfield 19) 3 62 := ⟨by decide +kernel, rfl⟩
theorem dd_X4_moth_62 : jd cX4_moth 62 (.iload_n 1) 1 63 := ⟨by decide +kernel, rfl⟩
theorem dd_X4_moth_63 : jd cX4_moth 63 (.iload_n 2) 1 64 := ⟨by decide +kernel, rfl⟩
theorem ml_RX4_124 : (Cond.methodLink "MothCustoms" 124 yX1_trait : Cond) ∈ jj_tb := jj_m (List.mem_of_getElem? (i := 513) (by decide +kernel)) rfl
theorem dd_X4_moth_64 : jd cX4_moth 64 (.invokevirtual 124) 3 67 := ⟨by decide +kernel, rfl⟩
theorem dd_X4_moth_67 : jd cX4_moth 67 (.ireturn) 1 68 := ⟨by decide +kernel, rfl⟩
theorem dd_X4_moth_14 : jd cX4_moth 14 (.lookupswitch 44 #[(4, 26), (5, 35)]) 26 40 := ⟨by decide +kernel, rfl⟩
theorem dd_X4_moth_11 : jd cX4_moth 11 (.iconst (-1)) 1 12 := ⟨by decide +kernel, rfl⟩
theorem dd_X4_moth_12 : jd cX4_moth 12 (.ireturn) 1 13 := ⟨by decide +kernel, rfl⟩
theorem dd_X4_moth_8 : jd cX4_moth 8 (.ifCond .ne 5) 3 11 := ⟨by decide +kernel, rfl⟩
theorem m_X4_moth : jmV yX4_moth cX4_moth 3 (some .int) 2 := ⟨⟨(jj_m (w := Cond.code yX4_moth cX4_moth 3 (some .int)) (List.mem_of_getElem? (i := 493) (by decide +kernel)) rfl), (jj_m (w := Cond.initialized yX4_moth.cls) (List.mem_of_getElem? (i := 64) (by decide +kernel)) rfl), ⟨by decide, by decide⟩, by decide +kernel⟩, (jj_m (w := Cond.instanceMethod yX4_moth) (List.mem_of_getElem? (i := 491) (by decide +kernel)) rfl), (jj_m (w := Cond.selects yX4_moth.cls yX4_moth yX4_moth) (List.mem_of_getElem? (i := 492) (by decide +kernel)) rfl)⟩
def fX4_moth (i1 : Int32) (i2 : Int32) (X : M3) : Option (Int32) :=
  (fX1_hasMoth i1 (X 2)).bind fun r1 =>
  if r1 = 0 then
    some (-1 : Int32)
  else
    if i2 = 4 then
      (fX1_appetite i1 (X 2)).bind fun r3 =>
      some r3
    else
      if i2 = 5 then
        (fX1_liked i1 (X 2)).bind fun r5 =>
        some r5
      else
        (fX1_trait i1 i2 (X 2)).bind fun r6 =>
        some r6

set_option maxHeartbeats 4000000 in
set_option maxRecDepth 100000 in
theorem tX4_moth (l : Launch) {V : JV M3} {ob : Nat → Nat} {aa : Nat → Nat → Nat} (hX : vX4 V ob aa) (X : M3) (i1 : Int32) (i2 : Int32) : JC l V yX4_moth cX4_moth 3 (some .int) jj_i 2 [.ref (ob 0), .int i1, .int i2] X ((fX4_moth i1 i2 X).map (fun r => (r, X))) := by
  refine jj_of (by decide) (Nat.le_of_ble_eq_true rfl) (fun E hlE hE => ?_)
  unfold fX4_moth
  refine J_sub (L' := [(0, .ref (ob 0)), (1, .int i1), (2, .int i2)]) [0, 1, 2] rfl ?_
  refine J_aload_n hE dd_X4_moth_0 0 rfl rfl ?_
  refine J_get hE (hX.rt.ob _) jc_X4 1 (by decide) fl_RX4_19 (v := .ref (ob 2)) rfl dd_X4_moth_1 ?_
  refine J_iload_n hE dd_X4_moth_4 1 rfl rfl ?_
  refine J_invVri hE (As := [.int i1]) (st := []) (JC.lift_r (e := fun S => va_up X 2 S) (tX1_hasMoth E.2.1 (hX.shS X sh2) (X 2) i1) (va_up_eta _ _)) ((hX.sh sh2).ob _) m_X1_hasMoth rfl ml_RX4_115 (Nat.le_of_ble_eq_true rfl) (Nat.le_of_ble_eq_true rfl) rfl (Nat.le_of_ble_eq_true rfl) dd_X4_moth_5 (fun r1 => ?_)
  refine J_if_ne hE (tgt := 13) dd_X4_moth_8 (by decide) (fun c7 => ?_) (fun c7 => ?_)
  · refine J_iload_n hE dd_X4_moth_13 2 rfl rfl ?_
    refine J_ite (fun c2 => ?_) (fun c2 => ?_)
    · refine J_lsAt hE c2 (off := 26) (tgt := 40) dd_X4_moth_14 (by decide) (by decide) (by decide) ?_
      refine J_aload_n hE dd_X4_moth_40 0 rfl rfl ?_
      refine J_get hE (hX.rt.ob _) jc_X4 1 (by decide) fl_RX4_19 (v := .ref (ob 2)) rfl dd_X4_moth_41 ?_
      refine J_iload_n hE dd_X4_moth_44 1 rfl rfl ?_
      refine J_invVri hE (As := [.int i1]) (st := []) (JC.lift_r (e := fun S => va_up X 2 S) (tX1_appetite E.2.1 (hX.shS X sh2) (X 2) i1) (va_up_eta _ _)) ((hX.sh sh2).ob _) m_X1_appetite rfl ml_RX4_118 (Nat.le_of_ble_eq_true rfl) (Nat.le_of_ble_eq_true rfl) rfl (Nat.le_of_ble_eq_true rfl) dd_X4_moth_45 (fun r3 => ?_)
      exact J_iret hE dd_X4_moth_48 rfl rfl
    · refine J_ite (fun c4 => ?_) (fun c4 => ?_)
      · refine J_lsAt hE c4 (off := 35) (tgt := 49) dd_X4_moth_14 (by decide) (by decide) (by decide) ?_
        refine J_aload_n hE dd_X4_moth_49 0 rfl rfl ?_
        refine J_get hE (hX.rt.ob _) jc_X4 1 (by decide) fl_RX4_19 (v := .ref (ob 2)) rfl dd_X4_moth_50 ?_
        refine J_iload_n hE dd_X4_moth_53 1 rfl rfl ?_
        refine J_invVri hE (As := [.int i1]) (st := []) (JC.lift_r (e := fun S => va_up X 2 S) (tX1_liked E.2.1 (hX.shS X sh2) (X 2) i1) (va_up_eta _ _)) ((hX.sh sh2).ob _) m_X1_liked rfl ml_RX4_121 (Nat.le_of_ble_eq_true rfl) (Nat.le_of_ble_eq_true rfl) rfl (Nat.le_of_ble_eq_true rfl) dd_X4_moth_54 (fun r5 => ?_)
        exact J_iret hE dd_X4_moth_57 rfl rfl
      · refine J_lsw hE (off := 44) (tgt := 58) dd_X4_moth_14 (by decide) (by show Op.lookupswitch.offset [(4, 26), (5, 35)] 44 _ = 44; rw [Op.lookupswitch.offset_cons, if_neg (fun q => c2 (Int32.toInt_inj.mp (q.symm.trans (by decide)))), Op.lookupswitch.offset_cons, if_neg (fun q => c4 (Int32.toInt_inj.mp (q.symm.trans (by decide)))), Op.lookupswitch.offset_nil]) (by decide) ?_
        refine J_aload_n hE dd_X4_moth_58 0 rfl rfl ?_
        refine J_get hE (hX.rt.ob _) jc_X4 1 (by decide) fl_RX4_19 (v := .ref (ob 2)) rfl dd_X4_moth_59 ?_
        refine J_iload_n hE dd_X4_moth_62 1 rfl rfl ?_
        refine J_iload_n hE dd_X4_moth_63 2 rfl rfl ?_
        refine J_invVri hE (As := [.int i1, .int i2]) (st := []) (JC.lift_r (e := fun S => va_up X 2 S) (tX1_trait E.2.1 (hX.shS X sh2) (X 2) i1 i2) (va_up_eta _ _)) ((hX.sh sh2).ob _) m_X1_trait rfl ml_RX4_124 (Nat.le_of_ble_eq_true rfl) (Nat.le_of_ble_eq_true rfl) rfl (Nat.le_of_ble_eq_true rfl) dd_X4_moth_64 (fun r6 => ?_)
        exact J_iret hE dd_X4_moth_67 rfl rfl
  · refine J_iconst hE (v := (-1 : Int32)) dd_X4_moth_11 (by decide) ?_
    exact J_iret hE dd_X4_moth_12 rfl rfl
theorem dd_X4_bale_0 : jd cX4_bale 0 (.iload_n 1) 1 1 := ⟨by decide +kernel, rfl⟩
theorem ml_RX4_128 : (Cond.methodLink "MothCustoms" 128 yX4_isBale : Cond) ∈ jj_tb := jj_m (List.mem_of_getElem? (i := 521) (by decide +kernel)) rfl
theorem dd_X4_bale_1 : jd cX4_bale 1 (.invokestatic 128) 3 4 := ⟨by decide +kernel, rfl⟩
theorem dd_X4_bale_9 : jd cX4_bale 9 (.iload_n 2) 1 10 := ⟨by decide +kernel, rfl⟩
theorem dd_X4_bale_23 : jd cX4_bale 23 (.iload_n 2) 1 24 := ⟨by decide +kernel, rfl⟩
theorem dd_X4_bale_24 : jd cX4_bale 24 (.iconst 1) 1 25 := ⟨by decide +kernel, rfl⟩
theorem dd_X4_bale_37 : jd cX4_bale 37 (.iload_n 2) 1 38 := ⟨by decide +kernel, rfl⟩
theorem dd_X4_bale_38 : jd cX4_bale 38 (.bipush 10) 2 40 := ⟨by decide +kernel, rfl⟩
theorem dd_X4_bale_40 : jd cX4_bale 40 (.bipush 14) 2 42 := ⟨by decide +kernel, rfl⟩
theorem dd_X4_bale_42 : jd cX4_bale 42 (.invokestatic 44) 3 45 := ⟨by decide +kernel, rfl⟩
theorem dd_X4_bale_50 : jd cX4_bale 50 (.iload_n 2) 1 51 := ⟨by decide +kernel, rfl⟩
theorem dd_X4_bale_51 : jd cX4_bale 51 (.bipush 10) 2 53 := ⟨by decide +kernel, rfl⟩
theorem dd_X4_bale_53 : jd cX4_bale 53 (.isub) 1 54 := ⟨by decide +kernel, rfl⟩
theorem dd_X4_bale_54 : jd cX4_bale 54 (.istore_n 3) 1 55 := ⟨by decide +kernel, rfl⟩
theorem dd_X4_bale_55 : jd cX4_bale 55 (.iload_n 3) 1 56 := ⟨by decide +kernel, rfl⟩
theorem dd_X4_bale_56 : jd cX4_bale 56 (.aload_n 0) 1 57 := ⟨by decide +kernel, rfl⟩
theorem dd_X4_bale_57 : jd cX4_bale 57 (.getfield 19) 3 60 := ⟨by decide +kernel, rfl⟩
theorem fl_RX4_131 : (Cond.fieldLink "MothCustoms" 131 "MothCustoms$Shed" "height" "[I" : Cond) ∈ jj_tb := jj_m (List.mem_of_getElem? (i := 154) (by decide +kernel)) rfl
theorem dd_X4_bale_60 : jd cX4_bale 60 (.getfield 131) 3 63 := ⟨by decide +kernel, rfl⟩
theorem dd_X4_bale_63 : jd cX4_bale 63 (.iload_n 1) 1 64 := ⟨by decide +kernel, rfl⟩
theorem dd_X4_bale_64 : jd cX4_bale 64 (.iaload) 1 65 := ⟨by decide +kernel, rfl⟩
theorem dd_X4_bale_84 : jd cX4_bale 84 (.bipush (-4)) 2 86 := ⟨by decide +kernel, rfl⟩
theorem dd_X4_bale_86 : jd cX4_bale 86 (.ireturn) 1 87 := ⟨by decide +kernel, rfl⟩
theorem dd_X4_bale_68 : jd cX4_bale 68 (.aload_n 0) 1 69 := ⟨by decide +kernel, rfl⟩
theorem dd_X4_bale_69 : jd cX4_bale 69 (.getfield 19) 3 72 := ⟨by decide +kernel, rfl⟩
theorem fl_RX4_137 : (Cond.fieldLink "MothCustoms" 137 "MothCustoms$Shed" "lying" "[I" : Cond) ∈ jj_tb := jj_m (List.mem_of_getElem? (i := 151) (by decide +kernel)) rfl
theorem dd_X4_bale_72 : jd cX4_bale 72 (.getfield 137) 3 75 := ⟨by decide +kernel, rfl⟩
theorem dd_X4_bale_75 : jd cX4_bale 75 (.iload_n 1) 1 76 := ⟨by decide +kernel, rfl⟩
theorem dd_X4_bale_76 : jd cX4_bale 76 (.iconst 5) 1 77 := ⟨by decide +kernel, rfl⟩
theorem dd_X4_bale_77 : jd cX4_bale 77 (.imul) 1 78 := ⟨by decide +kernel, rfl⟩
theorem dd_X4_bale_78 : jd cX4_bale 78 (.iload_n 3) 1 79 := ⟨by decide +kernel, rfl⟩
theorem dd_X4_bale_79 : jd cX4_bale 79 (.iadd) 1 80 := ⟨by decide +kernel, rfl⟩
theorem dd_X4_bale_80 : jd cX4_bale 80 (.iaload) 1 81 := ⟨by decide +kernel, rfl⟩
theorem dd_X4_bale_81 : jd cX4_bale 81 (.goto 5) 3 84 := ⟨by decide +kernel, rfl⟩
theorem dd_X4_bale_65 : jd cX4_bale 65 (.if_icmp .ge 19) 3 68 := ⟨by decide +kernel, rfl⟩
theorem dd_X4_bale_48 : jd cX4_bale 48 (.iconst (-1)) 1 49 := ⟨by decide +kernel, rfl⟩
theorem dd_X4_bale_49 : jd cX4_bale 49 (.ireturn) 1 50 := ⟨by decide +kernel, rfl⟩
theorem dd_X4_bale_45 : jd cX4_bale 45 (.ifCond .ne 5) 3 48 := ⟨by decide +kernel, rfl⟩
theorem dd_X4_bale_28 : jd cX4_bale 28 (.aload_n 0) 1 29 := ⟨by decide +kernel, rfl⟩
theorem dd_X4_bale_29 : jd cX4_bale 29 (.getfield 19) 3 32 := ⟨by decide +kernel, rfl⟩
theorem dd_X4_bale_32 : jd cX4_bale 32 (.iload_n 1) 1 33 := ⟨by decide +kernel, rfl⟩
theorem ml_RX4_134 : (Cond.methodLink "MothCustoms" 134 yX1_dutyOf : Cond) ∈ jj_tb := jj_m (List.mem_of_getElem? (i := 524) (by decide +kernel)) rfl
theorem dd_X4_bale_33 : jd cX4_bale 33 (.invokevirtual 134) 3 36 := ⟨by decide +kernel, rfl⟩
theorem dd_X4_bale_36 : jd cX4_bale 36 (.ireturn) 1 37 := ⟨by decide +kernel, rfl⟩
theorem dd_X4_bale_25 : jd cX4_bale 25 (.if_icmp .ne 12) 3 28 := ⟨by decide +kernel, rfl⟩
theorem dd_X4_bale_13 : jd cX4_bale 13 (.aload_n 0) 1 14 := ⟨by decide +kernel, rfl⟩
theorem dd_X4_bale_14 : jd cX4_bale 14 (.getfield 19) 3 17 := ⟨by decide +kernel, rfl⟩
theorem dd_X4_bale_17 : jd cX4_bale 17 (.getfield 131) 3 20 := ⟨by decide +kernel, rfl⟩
theorem dd_X4_bale_20 : jd cX4_bale 20 (.iload_n 1) 1 21 := ⟨by decide +kernel, rfl⟩
theorem dd_X4_bale_21 : jd cX4_bale 21 (.iaload) 1 22 := ⟨by decide +kernel, rfl⟩
theorem dd_X4_bale_22 : jd cX4_bale 22 (.ireturn) 1 23 := ⟨by decide +kernel, rfl⟩
theorem dd_X4_bale_10 : jd cX4_bale 10 (.ifCond .ne 13) 3 13 := ⟨by decide +kernel, rfl⟩
theorem dd_X4_bale_7 : jd cX4_bale 7 (.iconst (-1)) 1 8 := ⟨by decide +kernel, rfl⟩
theorem dd_X4_bale_8 : jd cX4_bale 8 (.ireturn) 1 9 := ⟨by decide +kernel, rfl⟩
theorem dd_X4_bale_4 : jd cX4_bale 4 (.ifCond .ne 5) 3 7 := ⟨by decide +kernel, rfl⟩
theorem m_X4_bale : jmV yX4_bale cX4_bale 4 (some .int) 2 := ⟨⟨(jj_m (w := Cond.code yX4_bale cX4_bale 4 (some .int)) (List.mem_of_getElem? (i := 520) (by decide +kernel)) rfl), (jj_m (w := Cond.initialized yX4_bale.cls) (List.mem_of_getElem? (i := 64) (by decide +kernel)) rfl), ⟨by decide, by decide⟩, by decide +kernel⟩, (jj_m (w := Cond.instanceMethod yX4_bale) (List.mem_of_getElem? (i := 518) (by decide +kernel)) rfl), (jj_m (w := Cond.selects yX4_bale.cls yX4_bale yX4_bale) (List.mem_of_getElem? (i := 519) (by decide +kernel)) rfl)⟩
def fX4_bale (i1 : Int32) (i2 : Int32) (X : M3) : Option (Int32) :=
  (fX4_isBale i1).bind fun r1 =>
  if r1 = 0 then
    some (-1 : Int32)
  else
    if i2 = 0 then
      bnd i1 3 <|
      some ((X 2) 6 i1.toNatClampNeg)
    else
      if i2 = (1 : Int32) then
        (fX1_dutyOf i1 (X 2)).bind fun r6 =>
        some r6
      else
        (fX4_within i2 (10 : Int32) (14 : Int32)).bind fun r2 =>
        if r2 = 0 then
          some (-1 : Int32)
        else
          lt ((i2 - (10 : Int32))) fun x3 =>
          bnd i1 3 <|
          if ((X 2) 6 i1.toNatClampNeg) ≤ x3 then
            some (-4 : Int32)
          else
            bnd ((i1 * (5 : Int32)) + x3) 15 <|
            some ((X 2) 5 ((i1 * (5 : Int32)) + x3).toNatClampNeg)

set_option maxHeartbeats 4000000 in
set_option maxRecDepth 100000 in
theorem tX4_bale (l : Launch) {V : JV M3} {ob : Nat → Nat} {aa : Nat → Nat → Nat} (hX : vX4 V ob aa) (X : M3) (i1 : Int32) (i2 : Int32) : JC l V yX4_bale cX4_bale 4 (some .int) jj_i 2 [.ref (ob 0), .int i1, .int i2] X ((fX4_bale i1 i2 X).map (fun r => (r, X))) := by
  refine jj_of (by decide) (Nat.le_of_ble_eq_true rfl) (fun E hlE hE => ?_)
  unfold fX4_bale
  refine J_sub (L' := [(0, .ref (ob 0)), (1, .int i1), (2, .int i2)]) [0, 1, 2] rfl ?_
  refine J_iload_n hE dd_X4_bale_0 1 rfl rfl ?_
  refine J_invSri hE (As := [.int i1]) (st := []) (tX4_isBale E.2.1 V X i1) m_X4_isBale s_X4_isBale rfl ml_RX4_128 (Nat.le_of_ble_eq_true rfl) (Nat.le_of_ble_eq_true rfl) rfl (Nat.le_of_ble_eq_true rfl) dd_X4_bale_1 (fun r1 => ?_)
  refine J_if_ne hE (tgt := 9) dd_X4_bale_4 (by decide) (fun c9 => ?_) (fun c9 => ?_)
  · refine J_iload_n hE dd_X4_bale_9 2 rfl rfl ?_
    refine J_if_ne hE (tgt := 23) dd_X4_bale_10 (by decide) (fun c8 => ?_) (fun c8 => ?_)
    · refine J_iload_n hE dd_X4_bale_23 2 rfl rfl ?_
      refine J_iconst hE (v := (1 : Int32)) dd_X4_bale_24 (by decide) ?_
      refine J_icmp_ne hE (tgt := 37) dd_X4_bale_25 (by decide) (fun c7 => ?_) (fun c7 => ?_)
      · refine J_iload_n hE dd_X4_bale_37 2 rfl rfl ?_
        refine J_bipush hE (v := (10 : Int32)) dd_X4_bale_38 (by decide) ?_
        refine J_bipush hE (v := (14 : Int32)) dd_X4_bale_40 (by decide) ?_
        refine J_invSri hE (As := [.int i2, .int (10 : Int32), .int (14 : Int32)]) (st := []) (tX4_within E.2.1 V X i2 (10 : Int32) (14 : Int32)) m_X4_within s_X4_within rfl ml_RX4_44 (Nat.le_of_ble_eq_true rfl) (Nat.le_of_ble_eq_true rfl) rfl (Nat.le_of_ble_eq_true rfl) dd_X4_bale_42 (fun r2 => ?_)
        refine J_if_ne hE (tgt := 50) dd_X4_bale_45 (by decide) (fun c5 => ?_) (fun c5 => ?_)
        · refine J_iload_n hE dd_X4_bale_50 2 rfl rfl ?_
          refine J_bipush hE (v := (10 : Int32)) dd_X4_bale_51 (by decide) ?_
          refine J_isub hE dd_X4_bale_53 ?_
          refine J_leti (fun x3 => ?_)
          refine J_istore_n hE (L' := [(3, .int x3), (0, .ref (ob 0)), (1, .int i1), (2, .int i2)]) dd_X4_bale_54 (Nat.le_of_ble_eq_true rfl) rfl rfl ?_
          refine J_iload_n hE dd_X4_bale_55 0 rfl rfl ?_
          refine J_aload_n hE dd_X4_bale_56 1 rfl rfl ?_
          refine J_get hE (hX.rt.ob _) jc_X4 1 (by decide) fl_RX4_19 (v := .ref (ob 2)) rfl dd_X4_bale_57 ?_
          refine J_get hE ((hX.sh sh2).ob _) jc_X1 6 (by decide) fl_RX4_131 (v := .ref ((aa 2) 6)) rfl dd_X4_bale_60 ?_
          refine J_iload_n hE dd_X4_bale_63 2 rfl rfl ?_
          refine J_ald hE ((hX.sh sh2).arr 6 (n := 3) (ty := .int) (by decide) _) dd_X4_bale_64 ?_
          refine J_icmp_ge hE (tgt := 84) dd_X4_bale_65 (by decide) (fun c4 => ?_) (fun c4 => ?_)
          · refine J_bipush hE (v := (-4 : Int32)) dd_X4_bale_84 (by decide) ?_
            exact J_iret hE dd_X4_bale_86 rfl rfl
          · refine J_aload_n hE dd_X4_bale_68 1 rfl rfl ?_
            refine J_get hE (hX.rt.ob _) jc_X4 1 (by decide) fl_RX4_19 (v := .ref (ob 2)) rfl dd_X4_bale_69 ?_
            refine J_get hE ((hX.sh sh2).ob _) jc_X1 5 (by decide) fl_RX4_137 (v := .ref ((aa 2) 5)) rfl dd_X4_bale_72 ?_
            refine J_iload_n hE dd_X4_bale_75 2 rfl rfl ?_
            refine J_iconst hE (v := (5 : Int32)) dd_X4_bale_76 (by decide) ?_
            refine J_imul hE dd_X4_bale_77 ?_
            refine J_iload_n hE dd_X4_bale_78 0 rfl rfl ?_
            refine J_iadd hE dd_X4_bale_79 ?_
            refine J_ald hE ((hX.sh sh2).arr 5 (n := 15) (ty := .int) (by decide) _) dd_X4_bale_80 ?_
            refine J_goto hE (tgt := 86) dd_X4_bale_81 (by decide) ?_
            exact J_iret hE dd_X4_bale_86 rfl rfl
        · refine J_iconst hE (v := (-1 : Int32)) dd_X4_bale_48 (by decide) ?_
          exact J_iret hE dd_X4_bale_49 rfl rfl
      · refine J_aload_n hE dd_X4_bale_28 0 rfl rfl ?_
        refine J_get hE (hX.rt.ob _) jc_X4 1 (by decide) fl_RX4_19 (v := .ref (ob 2)) rfl dd_X4_bale_29 ?_
        refine J_iload_n hE dd_X4_bale_32 1 rfl rfl ?_
        refine J_invVri hE (As := [.int i1]) (st := []) (JC.lift_r (e := fun S => va_up X 2 S) (tX1_dutyOf E.2.1 (hX.shS X sh2) (X 2) i1) (va_up_eta _ _)) ((hX.sh sh2).ob _) m_X1_dutyOf rfl ml_RX4_134 (Nat.le_of_ble_eq_true rfl) (Nat.le_of_ble_eq_true rfl) rfl (Nat.le_of_ble_eq_true rfl) dd_X4_bale_33 (fun r6 => ?_)
        exact J_iret hE dd_X4_bale_36 rfl rfl
    · refine J_aload_n hE dd_X4_bale_13 0 rfl rfl ?_
      refine J_get hE (hX.rt.ob _) jc_X4 1 (by decide) fl_RX4_19 (v := .ref (ob 2)) rfl dd_X4_bale_14 ?_
      refine J_get hE ((hX.sh sh2).ob _) jc_X1 6 (by decide) fl_RX4_131 (v := .ref ((aa 2) 6)) rfl dd_X4_bale_17 ?_
      refine J_iload_n hE dd_X4_bale_20 1 rfl rfl ?_
      refine J_ald hE ((hX.sh sh2).arr 6 (n := 3) (ty := .int) (by decide) _) dd_X4_bale_21 ?_
      exact J_iret hE dd_X4_bale_22 rfl rfl
  · refine J_iconst hE (v := (-1 : Int32)) dd_X4_bale_7 (by decide) ?_
    exact J_iret hE dd_X4_bale_8 rfl rfl
theorem dd_X4_fold_0 : jd cX4_fold 0 (.aload_n 0) 1 1 := ⟨by decide +kernel, rfl⟩
theorem dd_X4_fold_1 : jd cX4_fold 1 (.getfield 19) 3 4 := ⟨by decide +kernel, rfl⟩
theorem dd_X4_fold_4 : jd cX4_fold 4 (.iload_n 1) 1 5 := ⟨by decide +kernel, rfl⟩
theorem dd_X4_fold_5 : jd cX4_fold 5 (.invokevirtual 95) 3 8 := ⟨by decide +kernel, rfl⟩
theorem dd_X4_fold_18 : jd cX4_fold 18 (.iconst (-1)) 1 19 := ⟨by decide +kernel, rfl⟩
theorem dd_X4_fold_19 : jd cX4_fold 19 (.ireturn) 1 20 := ⟨by decide +kernel, rfl⟩
theorem dd_X4_fold_11 : jd cX4_fold 11 (.iload_n 2) 1 12 := ⟨by decide +kernel, rfl⟩
theorem dd_X4_fold_12 : jd cX4_fold 12 (.invokestatic 128) 3 15 := ⟨by decide +kernel, rfl⟩
theorem dd_X4_fold_20 : jd cX4_fold 20 (.aload_n 0) 1 21 := ⟨by decide +kernel, rfl⟩
theorem dd_X4_fold_21 : jd cX4_fold 21 (.getfield 19) 3 24 := ⟨by decide +kernel, rfl⟩
theorem dd_X4_fold_24 : jd cX4_fold 24 (.iload_n 1) 1 25 := ⟨by decide +kernel, rfl⟩
theorem dd_X4_fold_25 : jd cX4_fold 25 (.iload_n 2) 1 26 := ⟨by decide +kernel, rfl⟩
theorem ml_RX4_140 : (Cond.methodLink "MothCustoms" 140 yX1_putOnTop : Cond) ∈ jj_tb := jj_m (List.mem_of_getElem? (i := 535) (by decide +kernel)) rfl
theorem dd_X4_fold_26 : jd cX4_fold 26 (.invokevirtual 140) 3 29 := ⟨by decide +kernel, rfl⟩
theorem dd_X4_fold_29 : jd cX4_fold 29 (.aload_n 0) 1 30 := ⟨by decide +kernel, rfl⟩
theorem dd_X4_fold_30 : jd cX4_fold 30 (.getfield 19) 3 33 := ⟨by decide +kernel, rfl⟩
theorem dd_X4_fold_33 : jd cX4_fold 33 (.getfield 131) 3 36 := ⟨by decide +kernel, rfl⟩
theorem dd_X4_fold_36 : jd cX4_fold 36 (.iload_n 2) 1 37 := ⟨by decide +kernel, rfl⟩
theorem dd_X4_fold_37 : jd cX4_fold 37 (.iaload) 1 38 := ⟨by decide +kernel, rfl⟩
theorem dd_X4_fold_38 : jd cX4_fold 38 (.ireturn) 1 39 := ⟨by decide +kernel, rfl⟩
theorem dd_X4_fold_15 : jd cX4_fold 15 (.ifCond .ne 5) 3 18 := ⟨by decide +kernel, rfl⟩
theorem dd_X4_fold_8 : jd cX4_fold 8 (.ifCond .eq 10) 3 11 := ⟨by decide +kernel, rfl⟩
theorem m_X4_fold : jmV yX4_fold cX4_fold 3 (some .int) 2 := ⟨⟨(jj_m (w := Cond.code yX4_fold cX4_fold 3 (some .int)) (List.mem_of_getElem? (i := 534) (by decide +kernel)) rfl), (jj_m (w := Cond.initialized yX4_fold.cls) (List.mem_of_getElem? (i := 64) (by decide +kernel)) rfl), ⟨by decide, by decide⟩, by decide +kernel⟩, (jj_m (w := Cond.instanceMethod yX4_fold) (List.mem_of_getElem? (i := 532) (by decide +kernel)) rfl), (jj_m (w := Cond.selects yX4_fold.cls yX4_fold yX4_fold) (List.mem_of_getElem? (i := 533) (by decide +kernel)) rfl)⟩
def fX4_fold (i1 : Int32) (i2 : Int32) (X : M3) : Option (Int32 × M3) :=
  (fX1_hasBolt i1 (X 2)).bind fun r1 =>
  if r1 = 0 then
    some ((-1 : Int32), X)
  else
    (fX4_isBale i2).bind fun r2 =>
    if r2 = 0 then
      some ((-1 : Int32), X)
    else
      (fX1_putOnTop i1 i2 (X 2)).bind fun q3 =>
      lt ((va_up X 2 q3)) fun X4 =>
      bnd i2 3 <|
      some (((X4 2) 6 i2.toNatClampNeg), X4)

set_option maxHeartbeats 4000000 in
set_option maxRecDepth 100000 in
theorem tX4_fold (l : Launch) {V : JV M3} {ob : Nat → Nat} {aa : Nat → Nat → Nat} (hX : vX4 V ob aa) (X : M3) (i1 : Int32) (i2 : Int32) : JC l V yX4_fold cX4_fold 3 (some .int) jj_i 3 [.ref (ob 0), .int i1, .int i2] X ((fX4_fold i1 i2 X).map (fun q => (q.1, q.2))) := by
  refine jj_of (by decide) (Nat.le_of_ble_eq_true rfl) (fun E hlE hE => ?_)
  unfold fX4_fold
  refine J_sub (L' := [(0, .ref (ob 0)), (1, .int i1), (2, .int i2)]) [0, 1, 2] rfl ?_
  refine J_aload_n hE dd_X4_fold_0 0 rfl rfl ?_
  refine J_get hE (hX.rt.ob _) jc_X4 1 (by decide) fl_RX4_19 (v := .ref (ob 2)) rfl dd_X4_fold_1 ?_
  refine J_iload_n hE dd_X4_fold_4 1 rfl rfl ?_
  refine J_invVri hE (As := [.int i1]) (st := []) (JC.lift_r (e := fun S => va_up X 2 S) (tX1_hasBolt E.2.1 (hX.shS X sh2) (X 2) i1) (va_up_eta _ _)) ((hX.sh sh2).ob _) m_X1_hasBolt rfl ml_RX4_95 (Nat.le_of_ble_eq_true rfl) (Nat.le_of_ble_eq_true rfl) rfl (Nat.le_of_ble_eq_true rfl) dd_X4_fold_5 (fun r1 => ?_)
  refine J_if_eq hE (tgt := 18) dd_X4_fold_8 (by decide) (fun c6 => ?_) (fun c6 => ?_)
  · refine J_iconst hE (v := (-1 : Int32)) dd_X4_fold_18 (by decide) ?_
    exact J_iret hE dd_X4_fold_19 rfl rfl
  · refine J_iload_n hE dd_X4_fold_11 2 rfl rfl ?_
    refine J_invSri hE (As := [.int i2]) (st := []) (tX4_isBale E.2.1 V X i2) m_X4_isBale s_X4_isBale rfl ml_RX4_128 (Nat.le_of_ble_eq_true rfl) (Nat.le_of_ble_eq_true rfl) rfl (Nat.le_of_ble_eq_true rfl) dd_X4_fold_12 (fun r2 => ?_)
    refine J_if_ne hE (tgt := 20) dd_X4_fold_15 (by decide) (fun c5 => ?_) (fun c5 => ?_)
    · refine J_aload_n hE dd_X4_fold_20 0 rfl rfl ?_
      refine J_get hE (hX.rt.ob _) jc_X4 1 (by decide) fl_RX4_19 (v := .ref (ob 2)) rfl dd_X4_fold_21 ?_
      refine J_iload_n hE dd_X4_fold_24 1 rfl rfl ?_
      refine J_iload_n hE dd_X4_fold_25 2 rfl rfl ?_
      refine J_invVwv hE (e := fun S => va_up X 2 S) (As := [.int i1, .int i2]) (st := []) (JC.lift_v (e := fun S => va_up X 2 S) (tX1_putOnTop E.2.1 (hX.shS X sh2) (X 2) i1 i2) (va_up_eta _ _)) ((hX.sh sh2).ob _) m_X1_putOnTop rfl ml_RX4_140 (Nat.le_of_ble_eq_true rfl) (Nat.le_of_ble_eq_true rfl) rfl (Nat.le_of_ble_eq_true rfl) dd_X4_fold_26 (fun q3 => ?_)
      refine J_letS (fun X4 => ?_)
      refine J_aload_n hE dd_X4_fold_29 0 rfl rfl ?_
      refine J_get hE (hX.rt.ob _) jc_X4 1 (by decide) fl_RX4_19 (v := .ref (ob 2)) rfl dd_X4_fold_30 ?_
      refine J_get hE ((hX.sh sh2).ob _) jc_X1 6 (by decide) fl_RX4_131 (v := .ref ((aa 2) 6)) rfl dd_X4_fold_33 ?_
      refine J_iload_n hE dd_X4_fold_36 2 rfl rfl ?_
      refine J_ald hE ((hX.sh sh2).arr 6 (n := 3) (ty := .int) (by decide) _) dd_X4_fold_37 ?_
      exact J_iret hE dd_X4_fold_38 rfl rfl
    · refine J_iconst hE (v := (-1 : Int32)) dd_X4_fold_18 (by decide) ?_
      exact J_iret hE dd_X4_fold_19 rfl rfl
theorem dd_X4_under_0 : jd cX4_under 0 (.aload_n 0) 1 1 := ⟨by decide +kernel, rfl⟩
theorem dd_X4_under_1 : jd cX4_under 1 (.getfield 19) 3 4 := ⟨by decide +kernel, rfl⟩
theorem dd_X4_under_4 : jd cX4_under 4 (.iload_n 1) 1 5 := ⟨by decide +kernel, rfl⟩
theorem dd_X4_under_5 : jd cX4_under 5 (.invokevirtual 95) 3 8 := ⟨by decide +kernel, rfl⟩
theorem dd_X4_under_18 : jd cX4_under 18 (.iconst (-1)) 1 19 := ⟨by decide +kernel, rfl⟩
theorem dd_X4_under_19 : jd cX4_under 19 (.ireturn) 1 20 := ⟨by decide +kernel, rfl⟩
theorem dd_X4_under_11 : jd cX4_under 11 (.iload_n 2) 1 12 := ⟨by decide +kernel, rfl⟩
theorem dd_X4_under_12 : jd cX4_under 12 (.invokestatic 128) 3 15 := ⟨by decide +kernel, rfl⟩
theorem dd_X4_under_20 : jd cX4_under 20 (.aload_n 0) 1 21 := ⟨by decide +kernel, rfl⟩
theorem dd_X4_under_21 : jd cX4_under 21 (.getfield 19) 3 24 := ⟨by decide +kernel, rfl⟩
theorem dd_X4_under_24 : jd cX4_under 24 (.iload_n 1) 1 25 := ⟨by decide +kernel, rfl⟩
theorem ml_RX4_144 : (Cond.methodLink "MothCustoms" 144 yX1_takeOut : Cond) ∈ jj_tb := jj_m (List.mem_of_getElem? (i := 547) (by decide +kernel)) rfl
theorem dd_X4_under_25 : jd cX4_under 25 (.invokevirtual 144) 3 28 := ⟨by decide +kernel, rfl⟩
theorem dd_X4_under_28 : jd cX4_under 28 (.aload_n 0) 1 29 := ⟨by decide +kernel, rfl⟩
theorem dd_X4_under_29 : jd cX4_under 29 (.getfield 19) 3 32 := ⟨by decide +kernel, rfl⟩
theorem dd_X4_under_32 : jd cX4_under 32 (.iload_n 1) 1 33 := ⟨by decide +kernel, rfl⟩
theorem dd_X4_under_33 : jd cX4_under 33 (.iload_n 2) 1 34 := ⟨by decide +kernel, rfl⟩
theorem ml_RX4_148 : (Cond.methodLink "MothCustoms" 148 yX1_putBelow : Cond) ∈ jj_tb := jj_m (List.mem_of_getElem? (i := 548) (by decide +kernel)) rfl
theorem dd_X4_under_34 : jd cX4_under 34 (.invokevirtual 148) 3 37 := ⟨by decide +kernel, rfl⟩
theorem dd_X4_under_37 : jd cX4_under 37 (.aload_n 0) 1 38 := ⟨by decide +kernel, rfl⟩
theorem dd_X4_under_38 : jd cX4_under 38 (.getfield 19) 3 41 := ⟨by decide +kernel, rfl⟩
theorem dd_X4_under_41 : jd cX4_under 41 (.getfield 131) 3 44 := ⟨by decide +kernel, rfl⟩
theorem dd_X4_under_44 : jd cX4_under 44 (.iload_n 2) 1 45 := ⟨by decide +kernel, rfl⟩
theorem dd_X4_under_45 : jd cX4_under 45 (.iaload) 1 46 := ⟨by decide +kernel, rfl⟩
theorem dd_X4_under_46 : jd cX4_under 46 (.ireturn) 1 47 := ⟨by decide +kernel, rfl⟩
theorem dd_X4_under_15 : jd cX4_under 15 (.ifCond .ne 5) 3 18 := ⟨by decide +kernel, rfl⟩
theorem dd_X4_under_8 : jd cX4_under 8 (.ifCond .eq 10) 3 11 := ⟨by decide +kernel, rfl⟩
theorem m_X4_under : jmV yX4_under cX4_under 3 (some .int) 2 := ⟨⟨(jj_m (w := Cond.code yX4_under cX4_under 3 (some .int)) (List.mem_of_getElem? (i := 546) (by decide +kernel)) rfl), (jj_m (w := Cond.initialized yX4_under.cls) (List.mem_of_getElem? (i := 64) (by decide +kernel)) rfl), ⟨by decide, by decide⟩, by decide +kernel⟩, (jj_m (w := Cond.instanceMethod yX4_under) (List.mem_of_getElem? (i := 544) (by decide +kernel)) rfl), (jj_m (w := Cond.selects yX4_under.cls yX4_under yX4_under) (List.mem_of_getElem? (i := 545) (by decide +kernel)) rfl)⟩
def fX4_under (i1 : Int32) (i2 : Int32) (X : M3) : Option (Int32 × M3) :=
  (fX1_hasBolt i1 (X 2)).bind fun r1 =>
  if r1 = 0 then
    some ((-1 : Int32), X)
  else
    (fX4_isBale i2).bind fun r2 =>
    if r2 = 0 then
      some ((-1 : Int32), X)
    else
      (fX1_takeOut i1 (X 2)).bind fun q3 =>
      lt ((va_up X 2 q3)) fun X4 =>
      (fX1_putBelow i1 i2 (X4 2)).bind fun q5 =>
      lt ((va_up X4 2 q5)) fun X6 =>
      bnd i2 3 <|
      some (((X6 2) 6 i2.toNatClampNeg), X6)

set_option maxHeartbeats 4000000 in
set_option maxRecDepth 100000 in
theorem tX4_under (l : Launch) {V : JV M3} {ob : Nat → Nat} {aa : Nat → Nat → Nat} (hX : vX4 V ob aa) (X : M3) (i1 : Int32) (i2 : Int32) : JC l V yX4_under cX4_under 3 (some .int) jj_i 2 [.ref (ob 0), .int i1, .int i2] X ((fX4_under i1 i2 X).map (fun q => (q.1, q.2))) := by
  refine jj_of (by decide) (Nat.le_of_ble_eq_true rfl) (fun E hlE hE => ?_)
  unfold fX4_under
  refine J_sub (L' := [(0, .ref (ob 0)), (1, .int i1), (2, .int i2)]) [0, 1, 2] rfl ?_
  refine J_aload_n hE dd_X4_under_0 0 rfl rfl ?_
  refine J_get hE (hX.rt.ob _) jc_X4 1 (by decide) fl_RX4_19 (v := .ref (ob 2)) rfl dd_X4_under_1 ?_
  refine J_iload_n hE dd_X4_under_4 1 rfl rfl ?_
  refine J_invVri hE (As := [.int i1]) (st := []) (JC.lift_r (e := fun S => va_up X 2 S) (tX1_hasBolt E.2.1 (hX.shS X sh2) (X 2) i1) (va_up_eta _ _)) ((hX.sh sh2).ob _) m_X1_hasBolt rfl ml_RX4_95 (Nat.le_of_ble_eq_true rfl) (Nat.le_of_ble_eq_true rfl) rfl (Nat.le_of_ble_eq_true rfl) dd_X4_under_5 (fun r1 => ?_)
  refine J_if_eq hE (tgt := 18) dd_X4_under_8 (by decide) (fun c8 => ?_) (fun c8 => ?_)
  · refine J_iconst hE (v := (-1 : Int32)) dd_X4_under_18 (by decide) ?_
    exact J_iret hE dd_X4_under_19 rfl rfl
  · refine J_iload_n hE dd_X4_under_11 2 rfl rfl ?_
    refine J_invSri hE (As := [.int i2]) (st := []) (tX4_isBale E.2.1 V X i2) m_X4_isBale s_X4_isBale rfl ml_RX4_128 (Nat.le_of_ble_eq_true rfl) (Nat.le_of_ble_eq_true rfl) rfl (Nat.le_of_ble_eq_true rfl) dd_X4_under_12 (fun r2 => ?_)
    refine J_if_ne hE (tgt := 20) dd_X4_under_15 (by decide) (fun c7 => ?_) (fun c7 => ?_)
    · refine J_aload_n hE dd_X4_under_20 0 rfl rfl ?_
      refine J_get hE (hX.rt.ob _) jc_X4 1 (by decide) fl_RX4_19 (v := .ref (ob 2)) rfl dd_X4_under_21 ?_
      refine J_iload_n hE dd_X4_under_24 1 rfl rfl ?_
      refine J_invVwv hE (e := fun S => va_up X 2 S) (As := [.int i1]) (st := []) (JC.lift_v (e := fun S => va_up X 2 S) (tX1_takeOut E.2.1 (hX.shS X sh2) (X 2) i1) (va_up_eta _ _)) ((hX.sh sh2).ob _) m_X1_takeOut rfl ml_RX4_144 (Nat.le_of_ble_eq_true rfl) (Nat.le_of_ble_eq_true rfl) rfl (Nat.le_of_ble_eq_true rfl) dd_X4_under_25 (fun q3 => ?_)
      refine J_letS (fun X4 => ?_)
      refine J_aload_n hE dd_X4_under_28 0 rfl rfl ?_
      refine J_get hE (hX.rt.ob _) jc_X4 1 (by decide) fl_RX4_19 (v := .ref (ob 2)) rfl dd_X4_under_29 ?_
      refine J_iload_n hE dd_X4_under_32 1 rfl rfl ?_
      refine J_iload_n hE dd_X4_under_33 2 rfl rfl ?_
      refine J_invVwv hE (e := fun S => va_up X4 2 S) (As := [.int i1, .int i2]) (st := []) (JC.lift_v (e := fun S => va_up X4 2 S) (tX1_putBelow E.2.1 (hX.shS X4 sh2) (X4 2) i1 i2) (va_up_eta _ _)) ((hX.sh sh2).ob _) m_X1_putBelow rfl ml_RX4_148 (Nat.le_of_ble_eq_true rfl) (Nat.le_of_ble_eq_true rfl) rfl (Nat.le_of_ble_eq_true rfl) dd_X4_under_34 (fun q5 => ?_)
      refine J_letS (fun X6 => ?_)
      refine J_aload_n hE dd_X4_under_37 0 rfl rfl ?_
      refine J_get hE (hX.rt.ob _) jc_X4 1 (by decide) fl_RX4_19 (v := .ref (ob 2)) rfl dd_X4_under_38 ?_
      refine J_get hE ((hX.sh sh2).ob _) jc_X1 6 (by decide) fl_RX4_131 (v := .ref ((aa 2) 6)) rfl dd_X4_under_41 ?_
      refine J_iload_n hE dd_X4_under_44 2 rfl rfl ?_
      refine J_ald hE ((hX.sh sh2).arr 6 (n := 3) (ty := .int) (by decide) _) dd_X4_under_45 ?_
      exact J_iret hE dd_X4_under_46 rfl rfl
    · refine J_iconst hE (v := (-1 : Int32)) dd_X4_under_18 (by decide) ?_
      exact J_iret hE dd_X4_under_19 rfl rfl
theorem dd_X4_swap_0 : jd cX4_swap 0 (.aload_n 0) 1 1 := ⟨by decide +kernel, rfl⟩
theorem dd_X4_swap_1 : jd cX4_swap 1 (.getfield 19) 3 4 := ⟨by decide +kernel, rfl⟩
theorem dd_X4_swap_4 : jd cX4_swap 4 (.iload_n 1) 1 5 := ⟨by decide +kernel, rfl⟩
theorem dd_X4_swap_5 : jd cX4_swap 5 (.invokevirtual 95) 3 8 := ⟨by decide +kernel, rfl⟩
theorem dd_X4_swap_27 : jd cX4_swap 27 (.iconst (-1)) 1 28 := ⟨by decide +kernel, rfl⟩
theorem dd_X4_swap_28 : jd cX4_swap 28 (.ireturn) 1 29 := ⟨by decide +kernel, rfl⟩
theorem dd_X4_swap_11 : jd cX4_swap 11 (.aload_n 0) 1 12 := ⟨by decide +kernel, rfl⟩
theorem dd_X4_swap_12 : jd cX4_swap 12 (.getfield 19) 3 15 := ⟨by decide +kernel, rfl⟩
theorem dd_X4_swap_15 : jd cX4_swap 15 (.iload_n 2) 1 16 := ⟨by decide +kernel, rfl⟩
theorem dd_X4_swap_16 : jd cX4_swap 16 (.invokevirtual 95) 3 19 := ⟨by decide +kernel, rfl⟩
theorem dd_X4_swap_22 : jd cX4_swap 22 (.iload_n 1) 1 23 := ⟨by decide +kernel, rfl⟩
theorem dd_X4_swap_23 : jd cX4_swap 23 (.iload_n 2) 1 24 := ⟨by decide +kernel, rfl⟩
theorem dd_X4_swap_29 : jd cX4_swap 29 (.aload_n 0) 1 30 := ⟨by decide +kernel, rfl⟩
theorem dd_X4_swap_30 : jd cX4_swap 30 (.getfield 19) 3 33 := ⟨by decide +kernel, rfl⟩
theorem dd_X4_swap_33 : jd cX4_swap 33 (.iload_n 1) 1 34 := ⟨by decide +kernel, rfl⟩
theorem ml_RX4_151 : (Cond.methodLink "MothCustoms" 151 yX1_spotOf : Cond) ∈ jj_tb := jj_m (List.mem_of_getElem? (i := 553) (by decide +kernel)) rfl
theorem dd_X4_swap_34 : jd cX4_swap 34 (.invokevirtual 151) 3 37 := ⟨by decide +kernel, rfl⟩
theorem dd_X4_swap_37 : jd cX4_swap 37 (.istore_n 3) 1 38 := ⟨by decide +kernel, rfl⟩
theorem dd_X4_swap_38 : jd cX4_swap 38 (.aload_n 0) 1 39 := ⟨by decide +kernel, rfl⟩
theorem dd_X4_swap_39 : jd cX4_swap 39 (.getfield 19) 3 42 := ⟨by decide +kernel, rfl⟩
theorem dd_X4_swap_42 : jd cX4_swap 42 (.iload_n 2) 1 43 := ⟨by decide +kernel, rfl⟩
theorem dd_X4_swap_43 : jd cX4_swap 43 (.invokevirtual 151) 3 46 := ⟨by decide +kernel, rfl⟩
theorem dd_X4_swap_46 : jd cX4_swap 46 (.istore 4) 2 48 := ⟨by decide +kernel, rfl⟩
theorem dd_X4_swap_48 : jd cX4_swap 48 (.aload_n 0) 1 49 := ⟨by decide +kernel, rfl⟩
theorem dd_X4_swap_49 : jd cX4_swap 49 (.getfield 19) 3 52 := ⟨by decide +kernel, rfl⟩
theorem dd_X4_swap_52 : jd cX4_swap 52 (.getfield 137) 3 55 := ⟨by decide +kernel, rfl⟩
theorem dd_X4_swap_55 : jd cX4_swap 55 (.iload_n 3) 1 56 := ⟨by decide +kernel, rfl⟩
theorem dd_X4_swap_56 : jd cX4_swap 56 (.iload_n 2) 1 57 := ⟨by decide +kernel, rfl⟩
theorem dd_X4_swap_57 : jd cX4_swap 57 (.iastore) 1 58 := ⟨by decide +kernel, rfl⟩
theorem dd_X4_swap_58 : jd cX4_swap 58 (.aload_n 0) 1 59 := ⟨by decide +kernel, rfl⟩
theorem dd_X4_swap_59 : jd cX4_swap 59 (.getfield 19) 3 62 := ⟨by decide +kernel, rfl⟩
theorem dd_X4_swap_62 : jd cX4_swap 62 (.getfield 137) 3 65 := ⟨by decide +kernel, rfl⟩
theorem dd_X4_swap_65 : jd cX4_swap 65 (.iload 4) 2 67 := ⟨by decide +kernel, rfl⟩
theorem dd_X4_swap_67 : jd cX4_swap 67 (.iload_n 1) 1 68 := ⟨by decide +kernel, rfl⟩
theorem dd_X4_swap_68 : jd cX4_swap 68 (.iastore) 1 69 := ⟨by decide +kernel, rfl⟩
theorem dd_X4_swap_69 : jd cX4_swap 69 (.aload_n 0) 1 70 := ⟨by decide +kernel, rfl⟩
theorem dd_X4_swap_70 : jd cX4_swap 70 (.getfield 19) 3 73 := ⟨by decide +kernel, rfl⟩
theorem dd_X4_swap_73 : jd cX4_swap 73 (.iload_n 1) 1 74 := ⟨by decide +kernel, rfl⟩
theorem dd_X4_swap_74 : jd cX4_swap 74 (.invokevirtual 108) 3 77 := ⟨by decide +kernel, rfl⟩
theorem dd_X4_swap_77 : jd cX4_swap 77 (.ireturn) 1 78 := ⟨by decide +kernel, rfl⟩
theorem dd_X4_swap_24 : jd cX4_swap 24 (.if_icmp .ne 5) 3 27 := ⟨by decide +kernel, rfl⟩
theorem dd_X4_swap_19 : jd cX4_swap 19 (.ifCond .eq 8) 3 22 := ⟨by decide +kernel, rfl⟩
theorem dd_X4_swap_8 : jd cX4_swap 8 (.ifCond .eq 19) 3 11 := ⟨by decide +kernel, rfl⟩
theorem m_X4_swap : jmV yX4_swap cX4_swap 5 (some .int) 2 := ⟨⟨(jj_m (w := Cond.code yX4_swap cX4_swap 5 (some .int)) (List.mem_of_getElem? (i := 552) (by decide +kernel)) rfl), (jj_m (w := Cond.initialized yX4_swap.cls) (List.mem_of_getElem? (i := 64) (by decide +kernel)) rfl), ⟨by decide, by decide⟩, by decide +kernel⟩, (jj_m (w := Cond.instanceMethod yX4_swap) (List.mem_of_getElem? (i := 550) (by decide +kernel)) rfl), (jj_m (w := Cond.selects yX4_swap.cls yX4_swap yX4_swap) (List.mem_of_getElem? (i := 551) (by decide +kernel)) rfl)⟩
def fX4_swap (i1 : Int32) (i2 : Int32) (X : M3) : Option (Int32 × M3) :=
  (fX1_hasBolt i1 (X 2)).bind fun r1 =>
  if r1 = 0 then
    some ((-1 : Int32), X)
  else
    (fX1_hasBolt i2 (X 2)).bind fun r2 =>
    if r2 = 0 then
      some ((-1 : Int32), X)
    else
      if i1 = i2 then
        some ((-1 : Int32), X)
      else
        (fX1_spotOf i1 (X 2)).bind fun r3 =>
        (fX1_spotOf i2 (X 2)).bind fun r4 =>
        bnd r3 15 <|
        lt ((va_up X 2 (va_up (X 2) 5 (upd ((X 2) 5) r3.toNatClampNeg i2)))) fun X5 =>
        bnd r4 15 <|
        lt ((va_up X5 2 (va_up (X5 2) 5 (upd ((X5 2) 5) r4.toNatClampNeg i1)))) fun X6 =>
        (fX1_baleOf i1 (X6 2)).bind fun r7 =>
        some (r7, X6)

set_option maxHeartbeats 4000000 in
set_option maxRecDepth 100000 in
theorem tX4_swap (l : Launch) {V : JV M3} {ob : Nat → Nat} {aa : Nat → Nat → Nat} (hX : vX4 V ob aa) (X : M3) (i1 : Int32) (i2 : Int32) : JC l V yX4_swap cX4_swap 5 (some .int) jj_i 2 [.ref (ob 0), .int i1, .int i2] X ((fX4_swap i1 i2 X).map (fun q => (q.1, q.2))) := by
  refine jj_of (by decide) (Nat.le_of_ble_eq_true rfl) (fun E hlE hE => ?_)
  unfold fX4_swap
  refine J_sub (L' := [(0, .ref (ob 0)), (1, .int i1), (2, .int i2)]) [0, 1, 2] rfl ?_
  refine J_aload_n hE dd_X4_swap_0 0 rfl rfl ?_
  refine J_get hE (hX.rt.ob _) jc_X4 1 (by decide) fl_RX4_19 (v := .ref (ob 2)) rfl dd_X4_swap_1 ?_
  refine J_iload_n hE dd_X4_swap_4 1 rfl rfl ?_
  refine J_invVri hE (As := [.int i1]) (st := []) (JC.lift_r (e := fun S => va_up X 2 S) (tX1_hasBolt E.2.1 (hX.shS X sh2) (X 2) i1) (va_up_eta _ _)) ((hX.sh sh2).ob _) m_X1_hasBolt rfl ml_RX4_95 (Nat.le_of_ble_eq_true rfl) (Nat.le_of_ble_eq_true rfl) rfl (Nat.le_of_ble_eq_true rfl) dd_X4_swap_5 (fun r1 => ?_)
  refine J_if_eq hE (tgt := 27) dd_X4_swap_8 (by decide) (fun c10 => ?_) (fun c10 => ?_)
  · refine J_iconst hE (v := (-1 : Int32)) dd_X4_swap_27 (by decide) ?_
    exact J_iret hE dd_X4_swap_28 rfl rfl
  · refine J_aload_n hE dd_X4_swap_11 0 rfl rfl ?_
    refine J_get hE (hX.rt.ob _) jc_X4 1 (by decide) fl_RX4_19 (v := .ref (ob 2)) rfl dd_X4_swap_12 ?_
    refine J_iload_n hE dd_X4_swap_15 2 rfl rfl ?_
    refine J_invVri hE (As := [.int i2]) (st := []) (JC.lift_r (e := fun S => va_up X 2 S) (tX1_hasBolt E.2.1 (hX.shS X sh2) (X 2) i2) (va_up_eta _ _)) ((hX.sh sh2).ob _) m_X1_hasBolt rfl ml_RX4_95 (Nat.le_of_ble_eq_true rfl) (Nat.le_of_ble_eq_true rfl) rfl (Nat.le_of_ble_eq_true rfl) dd_X4_swap_16 (fun r2 => ?_)
    refine J_if_eq hE (tgt := 27) dd_X4_swap_19 (by decide) (fun c9 => ?_) (fun c9 => ?_)
    · refine J_iconst hE (v := (-1 : Int32)) dd_X4_swap_27 (by decide) ?_
      exact J_iret hE dd_X4_swap_28 rfl rfl
    · refine J_iload_n hE dd_X4_swap_22 1 rfl rfl ?_
      refine J_iload_n hE dd_X4_swap_23 2 rfl rfl ?_
      refine J_icmp_ne hE (tgt := 29) dd_X4_swap_24 (by decide) (fun c8 => ?_) (fun c8 => ?_)
      · refine J_aload_n hE dd_X4_swap_29 0 rfl rfl ?_
        refine J_get hE (hX.rt.ob _) jc_X4 1 (by decide) fl_RX4_19 (v := .ref (ob 2)) rfl dd_X4_swap_30 ?_
        refine J_iload_n hE dd_X4_swap_33 1 rfl rfl ?_
        refine J_invVri hE (As := [.int i1]) (st := []) (JC.lift_r (e := fun S => va_up X 2 S) (tX1_spotOf E.2.1 (hX.shS X sh2) (X 2) i1) (va_up_eta _ _)) ((hX.sh sh2).ob _) m_X1_spotOf rfl ml_RX4_151 (Nat.le_of_ble_eq_true rfl) (Nat.le_of_ble_eq_true rfl) rfl (Nat.le_of_ble_eq_true rfl) dd_X4_swap_34 (fun r3 => ?_)
        refine J_istore_n hE (L' := [(3, .int r3), (0, .ref (ob 0)), (1, .int i1), (2, .int i2)]) dd_X4_swap_37 (Nat.le_of_ble_eq_true rfl) rfl rfl ?_
        refine J_aload_n hE dd_X4_swap_38 1 rfl rfl ?_
        refine J_get hE (hX.rt.ob _) jc_X4 1 (by decide) fl_RX4_19 (v := .ref (ob 2)) rfl dd_X4_swap_39 ?_
        refine J_iload_n hE dd_X4_swap_42 3 rfl rfl ?_
        refine J_invVri hE (As := [.int i2]) (st := []) (JC.lift_r (e := fun S => va_up X 2 S) (tX1_spotOf E.2.1 (hX.shS X sh2) (X 2) i2) (va_up_eta _ _)) ((hX.sh sh2).ob _) m_X1_spotOf rfl ml_RX4_151 (Nat.le_of_ble_eq_true rfl) (Nat.le_of_ble_eq_true rfl) rfl (Nat.le_of_ble_eq_true rfl) dd_X4_swap_43 (fun r4 => ?_)
        refine J_istore hE (L' := [(4, .int r4), (3, .int r3), (0, .ref (ob 0)), (1, .int i1), (2, .int i2)]) dd_X4_swap_46 (Nat.le_of_ble_eq_true rfl) rfl ?_
        refine J_aload_n hE dd_X4_swap_48 2 rfl rfl ?_
        refine J_get hE (hX.rt.ob _) jc_X4 1 (by decide) fl_RX4_19 (v := .ref (ob 2)) rfl dd_X4_swap_49 ?_
        refine J_get hE ((hX.sh sh2).ob _) jc_X1 5 (by decide) fl_RX4_137 (v := .ref ((aa 2) 5)) rfl dd_X4_swap_52 ?_
        refine J_iload_n hE dd_X4_swap_55 1 rfl rfl ?_
        refine J_iload_n hE dd_X4_swap_56 4 rfl rfl ?_
        refine J_ast hE (hX.sh sh2) 5 (N := 15) (by decide) dd_X4_swap_57 ?_
        refine J_letS (fun X5 => ?_)
        refine J_aload_n hE dd_X4_swap_58 2 rfl rfl ?_
        refine J_get hE (hX.rt.ob _) jc_X4 1 (by decide) fl_RX4_19 (v := .ref (ob 2)) rfl dd_X4_swap_59 ?_
        refine J_get hE ((hX.sh sh2).ob _) jc_X1 5 (by decide) fl_RX4_137 (v := .ref ((aa 2) 5)) rfl dd_X4_swap_62 ?_
        refine J_iload hE dd_X4_swap_65 0 rfl ?_
        refine J_iload_n hE dd_X4_swap_67 3 rfl rfl ?_
        refine J_ast hE (hX.sh sh2) 5 (N := 15) (by decide) dd_X4_swap_68 ?_
        refine J_letS (fun X6 => ?_)
        refine J_aload_n hE dd_X4_swap_69 2 rfl rfl ?_
        refine J_get hE (hX.rt.ob _) jc_X4 1 (by decide) fl_RX4_19 (v := .ref (ob 2)) rfl dd_X4_swap_70 ?_
        refine J_iload_n hE dd_X4_swap_73 3 rfl rfl ?_
        refine J_invVri hE (As := [.int i1]) (st := []) (JC.lift_r (e := fun S => va_up X6 2 S) (tX1_baleOf E.2.1 (hX.shS X6 sh2) (X6 2) i1) (va_up_eta _ _)) ((hX.sh sh2).ob _) m_X1_baleOf rfl ml_RX4_108 (Nat.le_of_ble_eq_true rfl) (Nat.le_of_ble_eq_true rfl) rfl (Nat.le_of_ble_eq_true rfl) dd_X4_swap_74 (fun r7 => ?_)
        exact J_iret hE dd_X4_swap_77 rfl rfl
      · refine J_iconst hE (v := (-1 : Int32)) dd_X4_swap_27 (by decide) ?_
        exact J_iret hE dd_X4_swap_28 rfl rfl
theorem dd_X4_camphor_0 : jd cX4_camphor 0 (.aload_n 0) 1 1 := ⟨by decide +kernel, rfl⟩
theorem dd_X4_camphor_1 : jd cX4_camphor 1 (.getfield 19) 3 4 := ⟨by decide +kernel, rfl⟩
theorem dd_X4_camphor_4 : jd cX4_camphor 4 (.iload_n 1) 1 5 := ⟨by decide +kernel, rfl⟩
theorem dd_X4_camphor_5 : jd cX4_camphor 5 (.invokevirtual 95) 3 8 := ⟨by decide +kernel, rfl⟩
theorem dd_X4_camphor_13 : jd cX4_camphor 13 (.aload_n 0) 1 14 := ⟨by decide +kernel, rfl⟩
theorem dd_X4_camphor_14 : jd cX4_camphor 14 (.getfield 19) 3 17 := ⟨by decide +kernel, rfl⟩
theorem dd_X4_camphor_17 : jd cX4_camphor 17 (.getfield 88) 3 20 := ⟨by decide +kernel, rfl⟩
theorem dd_X4_camphor_20 : jd cX4_camphor 20 (.iload_n 1) 1 21 := ⟨by decide +kernel, rfl⟩
theorem dd_X4_camphor_21 : jd cX4_camphor 21 (.ishr) 1 22 := ⟨by decide +kernel, rfl⟩
theorem dd_X4_camphor_22 : jd cX4_camphor 22 (.iconst 1) 1 23 := ⟨by decide +kernel, rfl⟩
theorem dd_X4_camphor_23 : jd cX4_camphor 23 (.iand) 1 24 := ⟨by decide +kernel, rfl⟩
theorem dd_X4_camphor_24 : jd cX4_camphor 24 (.istore_n 3) 1 25 := ⟨by decide +kernel, rfl⟩
theorem dd_X4_camphor_25 : jd cX4_camphor 25 (.aload_n 0) 1 26 := ⟨by decide +kernel, rfl⟩
theorem dd_X4_camphor_26 : jd cX4_camphor 26 (.getfield 19) 3 29 := ⟨by decide +kernel, rfl⟩
theorem dd_X4_camphor_29 : jd cX4_camphor 29 (.iload_n 2) 1 30 := ⟨by decide +kernel, rfl⟩
theorem dd_X4_camphor_47 : jd cX4_camphor 47 (.aload_n 0) 1 48 := ⟨by decide +kernel, rfl⟩
theorem dd_X4_camphor_48 : jd cX4_camphor 48 (.getfield 19) 3 51 := ⟨by decide +kernel, rfl⟩
theorem dd_X4_camphor_51 : jd cX4_camphor 51 (.getfield 88) 3 54 := ⟨by decide +kernel, rfl⟩
theorem dd_X4_camphor_54 : jd cX4_camphor 54 (.iconst 1) 1 55 := ⟨by decide +kernel, rfl⟩
theorem dd_X4_camphor_55 : jd cX4_camphor 55 (.iload_n 1) 1 56 := ⟨by decide +kernel, rfl⟩
theorem dd_X4_camphor_56 : jd cX4_camphor 56 (.ishl) 1 57 := ⟨by decide +kernel, rfl⟩
theorem dd_X4_camphor_57 : jd cX4_camphor 57 (.iconst (-1)) 1 58 := ⟨by decide +kernel, rfl⟩
theorem dd_X4_camphor_58 : jd cX4_camphor 58 (.ixor) 1 59 := ⟨by decide +kernel, rfl⟩
theorem dd_X4_camphor_59 : jd cX4_camphor 59 (.iand) 1 60 := ⟨by decide +kernel, rfl⟩
theorem dd_X4_camphor_60 : jd cX4_camphor 60 (.putfield 88) 3 63 := ⟨by decide +kernel, rfl⟩
theorem dd_X4_camphor_63 : jd cX4_camphor 63 (.iload_n 3) 1 64 := ⟨by decide +kernel, rfl⟩
theorem dd_X4_camphor_64 : jd cX4_camphor 64 (.ireturn) 1 65 := ⟨by decide +kernel, rfl⟩
theorem dd_X4_camphor_33 : jd cX4_camphor 33 (.aload_n 0) 1 34 := ⟨by decide +kernel, rfl⟩
theorem dd_X4_camphor_34 : jd cX4_camphor 34 (.getfield 19) 3 37 := ⟨by decide +kernel, rfl⟩
theorem dd_X4_camphor_37 : jd cX4_camphor 37 (.getfield 88) 3 40 := ⟨by decide +kernel, rfl⟩
theorem dd_X4_camphor_40 : jd cX4_camphor 40 (.iconst 1) 1 41 := ⟨by decide +kernel, rfl⟩
theorem dd_X4_camphor_41 : jd cX4_camphor 41 (.iload_n 1) 1 42 := ⟨by decide +kernel, rfl⟩
theorem dd_X4_camphor_42 : jd cX4_camphor 42 (.ishl) 1 43 := ⟨by decide +kernel, rfl⟩
theorem dd_X4_camphor_43 : jd cX4_camphor 43 (.ior) 1 44 := ⟨by decide +kernel, rfl⟩
theorem dd_X4_camphor_44 : jd cX4_camphor 44 (.goto 16) 3 47 := ⟨by decide +kernel, rfl⟩
theorem dd_X4_camphor_30 : jd cX4_camphor 30 (.ifCond .eq 17) 3 33 := ⟨by decide +kernel, rfl⟩
theorem dd_X4_camphor_11 : jd cX4_camphor 11 (.iconst (-1)) 1 12 := ⟨by decide +kernel, rfl⟩
theorem dd_X4_camphor_12 : jd cX4_camphor 12 (.ireturn) 1 13 := ⟨by decide +kernel, rfl⟩
theorem dd_X4_camphor_8 : jd cX4_camphor 8 (.ifCond .ne 5) 3 11 := ⟨by decide +kernel, rfl⟩
theorem m_X4_camphor : jmV yX4_camphor cX4_camphor 4 (some .int) 2 := ⟨⟨(jj_m (w := Cond.code yX4_camphor cX4_camphor 4 (some .int)) (List.mem_of_getElem? (i := 557) (by decide +kernel)) rfl), (jj_m (w := Cond.initialized yX4_camphor.cls) (List.mem_of_getElem? (i := 64) (by decide +kernel)) rfl), ⟨by decide, by decide⟩, by decide +kernel⟩, (jj_m (w := Cond.instanceMethod yX4_camphor) (List.mem_of_getElem? (i := 555) (by decide +kernel)) rfl), (jj_m (w := Cond.selects yX4_camphor.cls yX4_camphor yX4_camphor) (List.mem_of_getElem? (i := 556) (by decide +kernel)) rfl)⟩
def fX4_camphor (i1 : Int32) (i2 : Int32) (X : M3) : Option (Int32 × M3) :=
  (fX1_hasBolt i1 (X 2)).bind fun r1 =>
  if r1 = 0 then
    some ((-1 : Int32), X)
  else
    lt (((((X 2) 4 0) >>> (i1 &&& 31)) &&& (1 : Int32))) fun x2 =>
    if i2 = 0 then
      lt ((va_up X 2 (va_up (X 2) 4 (fun _ => (((X 2) 4 0) &&& (((1 : Int32) <<< (i1 &&& 31)) ^^^ (-1 : Int32))))))) fun X3 =>
      some (x2, X3)
    else
      lt ((va_up X 2 (va_up (X 2) 4 (fun _ => (((X 2) 4 0) ||| ((1 : Int32) <<< (i1 &&& 31))))))) fun X4 =>
      some (x2, X4)

set_option maxHeartbeats 4000000 in
set_option maxRecDepth 100000 in
theorem tX4_camphor (l : Launch) {V : JV M3} {ob : Nat → Nat} {aa : Nat → Nat → Nat} (hX : vX4 V ob aa) (X : M3) (i1 : Int32) (i2 : Int32) : JC l V yX4_camphor cX4_camphor 4 (some .int) jj_i 2 [.ref (ob 0), .int i1, .int i2] X ((fX4_camphor i1 i2 X).map (fun q => (q.1, q.2))) := by
  refine jj_of (by decide) (Nat.le_of_ble_eq_true rfl) (fun E hlE hE => ?_)
  unfold fX4_camphor
  refine J_sub (L' := [(0, .ref (ob 0)), (1, .int i1), (2, .int i2)]) [0, 1, 2] rfl ?_
  refine J_aload_n hE dd_X4_camphor_0 0 rfl rfl ?_
  refine J_get hE (hX.rt.ob _) jc_X4 1 (by decide) fl_RX4_19 (v := .ref (ob 2)) rfl dd_X4_camphor_1 ?_
  refine J_iload_n hE dd_X4_camphor_4 1 rfl rfl ?_
  refine J_invVri hE (As := [.int i1]) (st := []) (JC.lift_r (e := fun S => va_up X 2 S) (tX1_hasBolt E.2.1 (hX.shS X sh2) (X 2) i1) (va_up_eta _ _)) ((hX.sh sh2).ob _) m_X1_hasBolt rfl ml_RX4_95 (Nat.le_of_ble_eq_true rfl) (Nat.le_of_ble_eq_true rfl) rfl (Nat.le_of_ble_eq_true rfl) dd_X4_camphor_5 (fun r1 => ?_)
  refine J_if_ne hE (tgt := 13) dd_X4_camphor_8 (by decide) (fun c6 => ?_) (fun c6 => ?_)
  · refine J_aload_n hE dd_X4_camphor_13 0 rfl rfl ?_
    refine J_get hE (hX.rt.ob _) jc_X4 1 (by decide) fl_RX4_19 (v := .ref (ob 2)) rfl dd_X4_camphor_14 ?_
    refine J_get hE ((hX.sh sh2).ob _) jc_X1 4 (by decide) fl_RX4_88 (v := .int ((X 2) 4 0)) rfl dd_X4_camphor_17 ?_
    refine J_iload_n hE dd_X4_camphor_20 1 rfl rfl ?_
    refine J_ishr hE dd_X4_camphor_21 ?_
    refine J_iconst hE (v := (1 : Int32)) dd_X4_camphor_22 (by decide) ?_
    refine J_iand hE dd_X4_camphor_23 ?_
    refine J_leti (fun x2 => ?_)
    refine J_istore_n hE (L' := [(3, .int x2), (0, .ref (ob 0)), (1, .int i1), (2, .int i2)]) dd_X4_camphor_24 (Nat.le_of_ble_eq_true rfl) rfl rfl ?_
    refine J_aload_n hE dd_X4_camphor_25 1 rfl rfl ?_
    refine J_get hE (hX.rt.ob _) jc_X4 1 (by decide) fl_RX4_19 (v := .ref (ob 2)) rfl dd_X4_camphor_26 ?_
    refine J_iload_n hE dd_X4_camphor_29 3 rfl rfl ?_
    refine J_if_eq hE (tgt := 47) dd_X4_camphor_30 (by decide) (fun c5 => ?_) (fun c5 => ?_)
    · refine J_aload_n hE dd_X4_camphor_47 1 rfl rfl ?_
      refine J_get hE (hX.rt.ob _) jc_X4 1 (by decide) fl_RX4_19 (v := .ref (ob 2)) rfl dd_X4_camphor_48 ?_
      refine J_get hE ((hX.sh sh2).ob _) jc_X1 4 (by decide) fl_RX4_88 (v := .int ((X 2) 4 0)) rfl dd_X4_camphor_51 ?_
      refine J_iconst hE (v := (1 : Int32)) dd_X4_camphor_54 (by decide) ?_
      refine J_iload_n hE dd_X4_camphor_55 2 rfl rfl ?_
      refine J_ishl hE dd_X4_camphor_56 ?_
      refine J_iconst hE (v := (-1 : Int32)) dd_X4_camphor_57 (by decide) ?_
      refine J_ixor hE dd_X4_camphor_58 ?_
      refine J_iand hE dd_X4_camphor_59 ?_
      refine J_put hE (hX.sh sh2) jc_X1 4 (by decide) (by decide) fl_RX4_88 rfl rfl rfl (Nat.le_of_ble_eq_true rfl) dd_X4_camphor_60 ?_
      refine J_letS (fun X3 => ?_)
      refine J_iload_n hE dd_X4_camphor_63 0 rfl rfl ?_
      exact J_iret hE dd_X4_camphor_64 rfl rfl
    · refine J_aload_n hE dd_X4_camphor_33 1 rfl rfl ?_
      refine J_get hE (hX.rt.ob _) jc_X4 1 (by decide) fl_RX4_19 (v := .ref (ob 2)) rfl dd_X4_camphor_34 ?_
      refine J_get hE ((hX.sh sh2).ob _) jc_X1 4 (by decide) fl_RX4_88 (v := .int ((X 2) 4 0)) rfl dd_X4_camphor_37 ?_
      refine J_iconst hE (v := (1 : Int32)) dd_X4_camphor_40 (by decide) ?_
      refine J_iload_n hE dd_X4_camphor_41 2 rfl rfl ?_
      refine J_ishl hE dd_X4_camphor_42 ?_
      refine J_ior hE dd_X4_camphor_43 ?_
      refine J_goto hE (tgt := 60) dd_X4_camphor_44 (by decide) ?_
      refine J_put hE (hX.sh sh2) jc_X1 4 (by decide) (by decide) fl_RX4_88 rfl rfl rfl (Nat.le_of_ble_eq_true rfl) dd_X4_camphor_60 ?_
      refine J_letS (fun X4 => ?_)
      refine J_iload_n hE dd_X4_camphor_63 0 rfl rfl ?_
      exact J_iret hE dd_X4_camphor_64 rfl rfl
  · refine J_iconst hE (v := (-1 : Int32)) dd_X4_camphor_11 (by decide) ?_
    exact J_iret hE dd_X4_camphor_12 rfl rfl
theorem dd_X4_patch_0 : jd cX4_patch 0 (.aload_n 0) 1 1 := ⟨by decide +kernel, rfl⟩
theorem dd_X4_patch_1 : jd cX4_patch 1 (.getfield 19) 3 4 := ⟨by decide +kernel, rfl⟩
theorem dd_X4_patch_4 : jd cX4_patch 4 (.iload_n 1) 1 5 := ⟨by decide +kernel, rfl⟩
theorem dd_X4_patch_5 : jd cX4_patch 5 (.invokevirtual 95) 3 8 := ⟨by decide +kernel, rfl⟩
theorem dd_X4_patch_21 : jd cX4_patch 21 (.iconst (-1)) 1 22 := ⟨by decide +kernel, rfl⟩
theorem dd_X4_patch_22 : jd cX4_patch 22 (.ireturn) 1 23 := ⟨by decide +kernel, rfl⟩
theorem dd_X4_patch_11 : jd cX4_patch 11 (.iload_n 2) 1 12 := ⟨by decide +kernel, rfl⟩
theorem dd_X4_patch_12 : jd cX4_patch 12 (.iconst 0) 1 13 := ⟨by decide +kernel, rfl⟩
theorem dd_X4_patch_13 : jd cX4_patch 13 (.bipush 9) 2 15 := ⟨by decide +kernel, rfl⟩
theorem dd_X4_patch_15 : jd cX4_patch 15 (.invokestatic 44) 3 18 := ⟨by decide +kernel, rfl⟩
theorem dd_X4_patch_23 : jd cX4_patch 23 (.aload_n 0) 1 24 := ⟨by decide +kernel, rfl⟩
theorem dd_X4_patch_24 : jd cX4_patch 24 (.getfield 19) 3 27 := ⟨by decide +kernel, rfl⟩
theorem dd_X4_patch_27 : jd cX4_patch 27 (.getfield 105) 3 30 := ⟨by decide +kernel, rfl⟩
theorem dd_X4_patch_30 : jd cX4_patch 30 (.iload_n 1) 1 31 := ⟨by decide +kernel, rfl⟩
theorem dd_X4_patch_31 : jd cX4_patch 31 (.iaload) 1 32 := ⟨by decide +kernel, rfl⟩
theorem dd_X4_patch_32 : jd cX4_patch 32 (.iload_n 2) 1 33 := ⟨by decide +kernel, rfl⟩
theorem dd_X4_patch_39 : jd cX4_patch 39 (.aload_n 0) 1 40 := ⟨by decide +kernel, rfl⟩
theorem dd_X4_patch_40 : jd cX4_patch 40 (.getfield 19) 3 43 := ⟨by decide +kernel, rfl⟩
theorem dd_X4_patch_43 : jd cX4_patch 43 (.getfield 105) 3 46 := ⟨by decide +kernel, rfl⟩
theorem dd_X4_patch_46 : jd cX4_patch 46 (.iload_n 1) 1 47 := ⟨by decide +kernel, rfl⟩
theorem dd_X4_patch_47 : jd cX4_patch 47 (.dup2) 1 48 := ⟨by decide +kernel, rfl⟩
theorem dd_X4_patch_48 : jd cX4_patch 48 (.iaload) 1 49 := ⟨by decide +kernel, rfl⟩
theorem dd_X4_patch_49 : jd cX4_patch 49 (.iload_n 2) 1 50 := ⟨by decide +kernel, rfl⟩
theorem dd_X4_patch_50 : jd cX4_patch 50 (.isub) 1 51 := ⟨by decide +kernel, rfl⟩
theorem dd_X4_patch_51 : jd cX4_patch 51 (.iastore) 1 52 := ⟨by decide +kernel, rfl⟩
theorem dd_X4_patch_52 : jd cX4_patch 52 (.aload_n 0) 1 53 := ⟨by decide +kernel, rfl⟩
theorem dd_X4_patch_53 : jd cX4_patch 53 (.getfield 19) 3 56 := ⟨by decide +kernel, rfl⟩
theorem dd_X4_patch_56 : jd cX4_patch 56 (.getfield 105) 3 59 := ⟨by decide +kernel, rfl⟩
theorem dd_X4_patch_59 : jd cX4_patch 59 (.iload_n 1) 1 60 := ⟨by decide +kernel, rfl⟩
theorem dd_X4_patch_60 : jd cX4_patch 60 (.iaload) 1 61 := ⟨by decide +kernel, rfl⟩
theorem dd_X4_patch_61 : jd cX4_patch 61 (.ireturn) 1 62 := ⟨by decide +kernel, rfl⟩
theorem dd_X4_patch_36 : jd cX4_patch 36 (.bipush (-2)) 2 38 := ⟨by decide +kernel, rfl⟩
theorem dd_X4_patch_38 : jd cX4_patch 38 (.ireturn) 1 39 := ⟨by decide +kernel, rfl⟩
theorem dd_X4_patch_33 : jd cX4_patch 33 (.if_icmp .ge 6) 3 36 := ⟨by decide +kernel, rfl⟩
theorem dd_X4_patch_18 : jd cX4_patch 18 (.ifCond .ne 5) 3 21 := ⟨by decide +kernel, rfl⟩
theorem dd_X4_patch_8 : jd cX4_patch 8 (.ifCond .eq 13) 3 11 := ⟨by decide +kernel, rfl⟩
theorem m_X4_patch : jmV yX4_patch cX4_patch 3 (some .int) 2 := ⟨⟨(jj_m (w := Cond.code yX4_patch cX4_patch 3 (some .int)) (List.mem_of_getElem? (i := 561) (by decide +kernel)) rfl), (jj_m (w := Cond.initialized yX4_patch.cls) (List.mem_of_getElem? (i := 64) (by decide +kernel)) rfl), ⟨by decide, by decide⟩, by decide +kernel⟩, (jj_m (w := Cond.instanceMethod yX4_patch) (List.mem_of_getElem? (i := 559) (by decide +kernel)) rfl), (jj_m (w := Cond.selects yX4_patch.cls yX4_patch yX4_patch) (List.mem_of_getElem? (i := 560) (by decide +kernel)) rfl)⟩
def fX4_patch (i1 : Int32) (i2 : Int32) (X : M3) : Option (Int32 × M3) :=
  (fX1_hasBolt i1 (X 2)).bind fun r1 =>
  if r1 = 0 then
    some ((-1 : Int32), X)
  else
    (fX4_within i2 (0 : Int32) (9 : Int32)).bind fun r2 =>
    if r2 = 0 then
      some ((-1 : Int32), X)
    else
      bnd i1 5 <|
      if i2 ≤ ((X 2) 3 i1.toNatClampNeg) then
        bnd i1 5 <|
        bnd i1 5 <|
        lt ((va_up X 2 (va_up (X 2) 3 (upd ((X 2) 3) i1.toNatClampNeg (((X 2) 3 i1.toNatClampNeg) - i2))))) fun X3 =>
        bnd i1 5 <|
        some (((X3 2) 3 i1.toNatClampNeg), X3)
      else
        some ((-2 : Int32), X)

set_option maxHeartbeats 4000000 in
set_option maxRecDepth 100000 in
theorem tX4_patch (l : Launch) {V : JV M3} {ob : Nat → Nat} {aa : Nat → Nat → Nat} (hX : vX4 V ob aa) (X : M3) (i1 : Int32) (i2 : Int32) : JC l V yX4_patch cX4_patch 3 (some .int) jj_i 2 [.ref (ob 0), .int i1, .int i2] X ((fX4_patch i1 i2 X).map (fun q => (q.1, q.2))) := by
  refine jj_of (by decide) (Nat.le_of_ble_eq_true rfl) (fun E hlE hE => ?_)
  unfold fX4_patch
  refine J_sub (L' := [(0, .ref (ob 0)), (1, .int i1), (2, .int i2)]) [0, 1, 2] rfl ?_
  refine J_aload_n hE dd_X4_patch_0 0 rfl rfl ?_
  refine J_get hE (hX.rt.ob _) jc_X4 1 (by decide) fl_RX4_19 (v := .ref (ob 2)) rfl dd_X4_patch_1 ?_
  refine J_iload_n hE dd_X4_patch_4 1 rfl rfl ?_
  refine J_invVri hE (As := [.int i1]) (st := []) (JC.lift_r (e := fun S => va_up X 2 S) (tX1_hasBolt E.2.1 (hX.shS X sh2) (X 2) i1) (va_up_eta _ _)) ((hX.sh sh2).ob _) m_X1_hasBolt rfl ml_RX4_95 (Nat.le_of_ble_eq_true rfl) (Nat.le_of_ble_eq_true rfl) rfl (Nat.le_of_ble_eq_true rfl) dd_X4_patch_5 (fun r1 => ?_)
  refine J_if_eq hE (tgt := 21) dd_X4_patch_8 (by decide) (fun c6 => ?_) (fun c6 => ?_)
  · refine J_iconst hE (v := (-1 : Int32)) dd_X4_patch_21 (by decide) ?_
    exact J_iret hE dd_X4_patch_22 rfl rfl
  · refine J_iload_n hE dd_X4_patch_11 2 rfl rfl ?_
    refine J_iconst hE (v := (0 : Int32)) dd_X4_patch_12 (by decide) ?_
    refine J_bipush hE (v := (9 : Int32)) dd_X4_patch_13 (by decide) ?_
    refine J_invSri hE (As := [.int i2, .int (0 : Int32), .int (9 : Int32)]) (st := []) (tX4_within E.2.1 V X i2 (0 : Int32) (9 : Int32)) m_X4_within s_X4_within rfl ml_RX4_44 (Nat.le_of_ble_eq_true rfl) (Nat.le_of_ble_eq_true rfl) rfl (Nat.le_of_ble_eq_true rfl) dd_X4_patch_15 (fun r2 => ?_)
    refine J_if_ne hE (tgt := 23) dd_X4_patch_18 (by decide) (fun c5 => ?_) (fun c5 => ?_)
    · refine J_aload_n hE dd_X4_patch_23 0 rfl rfl ?_
      refine J_get hE (hX.rt.ob _) jc_X4 1 (by decide) fl_RX4_19 (v := .ref (ob 2)) rfl dd_X4_patch_24 ?_
      refine J_get hE ((hX.sh sh2).ob _) jc_X1 3 (by decide) fl_RX4_105 (v := .ref ((aa 2) 3)) rfl dd_X4_patch_27 ?_
      refine J_iload_n hE dd_X4_patch_30 1 rfl rfl ?_
      refine J_ald hE ((hX.sh sh2).arr 3 (n := 5) (ty := .int) (by decide) _) dd_X4_patch_31 ?_
      refine J_iload_n hE dd_X4_patch_32 2 rfl rfl ?_
      refine J_icmp_ge hE (tgt := 39) dd_X4_patch_33 (by decide) (fun c4 => ?_) (fun c4 => ?_)
      · refine J_aload_n hE dd_X4_patch_39 0 rfl rfl ?_
        refine J_get hE (hX.rt.ob _) jc_X4 1 (by decide) fl_RX4_19 (v := .ref (ob 2)) rfl dd_X4_patch_40 ?_
        refine J_get hE ((hX.sh sh2).ob _) jc_X1 3 (by decide) fl_RX4_105 (v := .ref ((aa 2) 3)) rfl dd_X4_patch_43 ?_
        refine J_iload_n hE dd_X4_patch_46 1 rfl rfl ?_
        refine J_dup2 hE dd_X4_patch_47 rfl rfl ?_
        refine J_ald hE ((hX.sh sh2).arr 3 (n := 5) (ty := .int) (by decide) _) dd_X4_patch_48 ?_
        refine J_iload_n hE dd_X4_patch_49 2 rfl rfl ?_
        refine J_isub hE dd_X4_patch_50 ?_
        refine J_ast hE (hX.sh sh2) 3 (N := 5) (by decide) dd_X4_patch_51 ?_
        refine J_letS (fun X3 => ?_)
        refine J_aload_n hE dd_X4_patch_52 0 rfl rfl ?_
        refine J_get hE (hX.rt.ob _) jc_X4 1 (by decide) fl_RX4_19 (v := .ref (ob 2)) rfl dd_X4_patch_53 ?_
        refine J_get hE ((hX.sh sh2).ob _) jc_X1 3 (by decide) fl_RX4_105 (v := .ref ((aa 2) 3)) rfl dd_X4_patch_56 ?_
        refine J_iload_n hE dd_X4_patch_59 1 rfl rfl ?_
        refine J_ald hE ((hX.sh sh2).arr 3 (n := 5) (ty := .int) (by decide) _) dd_X4_patch_60 ?_
        exact J_iret hE dd_X4_patch_61 rfl rfl
      · refine J_bipush hE (v := (-2 : Int32)) dd_X4_patch_36 (by decide) ?_
        exact J_iret hE dd_X4_patch_38 rfl rfl
    · refine J_iconst hE (v := (-1 : Int32)) dd_X4_patch_21 (by decide) ?_
      exact J_iret hE dd_X4_patch_22 rfl rfl
theorem dd_X4_prick_0 : jd cX4_prick 0 (.aload_n 0) 1 1 := ⟨by decide +kernel, rfl⟩
theorem dd_X4_prick_1 : jd cX4_prick 1 (.getfield 19) 3 4 := ⟨by decide +kernel, rfl⟩
theorem dd_X4_prick_4 : jd cX4_prick 4 (.iload_n 1) 1 5 := ⟨by decide +kernel, rfl⟩
theorem dd_X4_prick_5 : jd cX4_prick 5 (.invokevirtual 95) 3 8 := ⟨by decide +kernel, rfl⟩
theorem dd_X4_prick_13 : jd cX4_prick 13 (.aload_n 0) 1 14 := ⟨by decide +kernel, rfl⟩
theorem dd_X4_prick_14 : jd cX4_prick 14 (.getfield 19) 3 17 := ⟨by decide +kernel, rfl⟩
theorem dd_X4_prick_17 : jd cX4_prick 17 (.getfield 105) 3 20 := ⟨by decide +kernel, rfl⟩
theorem dd_X4_prick_20 : jd cX4_prick 20 (.iload_n 1) 1 21 := ⟨by decide +kernel, rfl⟩
theorem dd_X4_prick_21 : jd cX4_prick 21 (.iaload) 1 22 := ⟨by decide +kernel, rfl⟩
theorem dd_X4_prick_22 : jd cX4_prick 22 (.aload_n 0) 1 23 := ⟨by decide +kernel, rfl⟩
theorem dd_X4_prick_23 : jd cX4_prick 23 (.getfield 19) 3 26 := ⟨by decide +kernel, rfl⟩
theorem dd_X4_prick_26 : jd cX4_prick 26 (.getfield 102) 3 29 := ⟨by decide +kernel, rfl⟩
theorem dd_X4_prick_29 : jd cX4_prick 29 (.iload_n 1) 1 30 := ⟨by decide +kernel, rfl⟩
theorem dd_X4_prick_30 : jd cX4_prick 30 (.iaload) 1 31 := ⟨by decide +kernel, rfl⟩
theorem dd_X4_prick_37 : jd cX4_prick 37 (.aload_n 0) 1 38 := ⟨by decide +kernel, rfl⟩
theorem dd_X4_prick_38 : jd cX4_prick 38 (.getfield 19) 3 41 := ⟨by decide +kernel, rfl⟩
theorem dd_X4_prick_41 : jd cX4_prick 41 (.getfield 105) 3 44 := ⟨by decide +kernel, rfl⟩
theorem dd_X4_prick_44 : jd cX4_prick 44 (.iload_n 1) 1 45 := ⟨by decide +kernel, rfl⟩
theorem dd_X4_prick_45 : jd cX4_prick 45 (.dup2) 1 46 := ⟨by decide +kernel, rfl⟩
theorem dd_X4_prick_46 : jd cX4_prick 46 (.iaload) 1 47 := ⟨by decide +kernel, rfl⟩
theorem dd_X4_prick_47 : jd cX4_prick 47 (.iconst 1) 1 48 := ⟨by decide +kernel, rfl⟩
theorem dd_X4_prick_48 : jd cX4_prick 48 (.iadd) 1 49 := ⟨by decide +kernel, rfl⟩
theorem dd_X4_prick_49 : jd cX4_prick 49 (.iastore) 1 50 := ⟨by decide +kernel, rfl⟩
theorem dd_X4_prick_50 : jd cX4_prick 50 (.aload_n 0) 1 51 := ⟨by decide +kernel, rfl⟩
theorem dd_X4_prick_51 : jd cX4_prick 51 (.getfield 19) 3 54 := ⟨by decide +kernel, rfl⟩
theorem dd_X4_prick_54 : jd cX4_prick 54 (.getfield 105) 3 57 := ⟨by decide +kernel, rfl⟩
theorem dd_X4_prick_57 : jd cX4_prick 57 (.iload_n 1) 1 58 := ⟨by decide +kernel, rfl⟩
theorem dd_X4_prick_58 : jd cX4_prick 58 (.iaload) 1 59 := ⟨by decide +kernel, rfl⟩
theorem dd_X4_prick_59 : jd cX4_prick 59 (.ireturn) 1 60 := ⟨by decide +kernel, rfl⟩
theorem dd_X4_prick_34 : jd cX4_prick 34 (.bipush (-3)) 2 36 := ⟨by decide +kernel, rfl⟩
theorem dd_X4_prick_36 : jd cX4_prick 36 (.ireturn) 1 37 := ⟨by decide +kernel, rfl⟩
theorem dd_X4_prick_31 : jd cX4_prick 31 (.if_icmp .lt 6) 3 34 := ⟨by decide +kernel, rfl⟩
theorem dd_X4_prick_11 : jd cX4_prick 11 (.iconst (-1)) 1 12 := ⟨by decide +kernel, rfl⟩
theorem dd_X4_prick_12 : jd cX4_prick 12 (.ireturn) 1 13 := ⟨by decide +kernel, rfl⟩
theorem dd_X4_prick_8 : jd cX4_prick 8 (.ifCond .ne 5) 3 11 := ⟨by decide +kernel, rfl⟩
theorem m_X4_prick : jmV yX4_prick cX4_prick 2 (some .int) 1 := ⟨⟨(jj_m (w := Cond.code yX4_prick cX4_prick 2 (some .int)) (List.mem_of_getElem? (i := 565) (by decide +kernel)) rfl), (jj_m (w := Cond.initialized yX4_prick.cls) (List.mem_of_getElem? (i := 64) (by decide +kernel)) rfl), ⟨by decide, by decide⟩, by decide +kernel⟩, (jj_m (w := Cond.instanceMethod yX4_prick) (List.mem_of_getElem? (i := 563) (by decide +kernel)) rfl), (jj_m (w := Cond.selects yX4_prick.cls yX4_prick yX4_prick) (List.mem_of_getElem? (i := 564) (by decide +kernel)) rfl)⟩
def fX4_prick (i1 : Int32) (X : M3) : Option (Int32 × M3) :=
  (fX1_hasBolt i1 (X 2)).bind fun r1 =>
  if r1 = 0 then
    some ((-1 : Int32), X)
  else
    bnd i1 5 <|
    bnd i1 5 <|
    if ((X 2) 3 i1.toNatClampNeg) < ((X 2) 2 i1.toNatClampNeg) then
      bnd i1 5 <|
      bnd i1 5 <|
      lt ((va_up X 2 (va_up (X 2) 3 (upd ((X 2) 3) i1.toNatClampNeg (((X 2) 3 i1.toNatClampNeg) + (1 : Int32)))))) fun X2 =>
      bnd i1 5 <|
      some (((X2 2) 3 i1.toNatClampNeg), X2)
    else
      some ((-3 : Int32), X)

set_option maxHeartbeats 4000000 in
set_option maxRecDepth 100000 in
theorem tX4_prick (l : Launch) {V : JV M3} {ob : Nat → Nat} {aa : Nat → Nat → Nat} (hX : vX4 V ob aa) (X : M3) (i1 : Int32) : JC l V yX4_prick cX4_prick 2 (some .int) jj_i 2 [.ref (ob 0), .int i1] X ((fX4_prick i1 X).map (fun q => (q.1, q.2))) := by
  refine jj_of (by decide) (Nat.le_of_ble_eq_true rfl) (fun E hlE hE => ?_)
  unfold fX4_prick
  refine J_sub (L' := [(0, .ref (ob 0)), (1, .int i1)]) [0, 1] rfl ?_
  refine J_aload_n hE dd_X4_prick_0 0 rfl rfl ?_
  refine J_get hE (hX.rt.ob _) jc_X4 1 (by decide) fl_RX4_19 (v := .ref (ob 2)) rfl dd_X4_prick_1 ?_
  refine J_iload_n hE dd_X4_prick_4 1 rfl rfl ?_
  refine J_invVri hE (As := [.int i1]) (st := []) (JC.lift_r (e := fun S => va_up X 2 S) (tX1_hasBolt E.2.1 (hX.shS X sh2) (X 2) i1) (va_up_eta _ _)) ((hX.sh sh2).ob _) m_X1_hasBolt rfl ml_RX4_95 (Nat.le_of_ble_eq_true rfl) (Nat.le_of_ble_eq_true rfl) rfl (Nat.le_of_ble_eq_true rfl) dd_X4_prick_5 (fun r1 => ?_)
  refine J_if_ne hE (tgt := 13) dd_X4_prick_8 (by decide) (fun c4 => ?_) (fun c4 => ?_)
  · refine J_aload_n hE dd_X4_prick_13 0 rfl rfl ?_
    refine J_get hE (hX.rt.ob _) jc_X4 1 (by decide) fl_RX4_19 (v := .ref (ob 2)) rfl dd_X4_prick_14 ?_
    refine J_get hE ((hX.sh sh2).ob _) jc_X1 3 (by decide) fl_RX4_105 (v := .ref ((aa 2) 3)) rfl dd_X4_prick_17 ?_
    refine J_iload_n hE dd_X4_prick_20 1 rfl rfl ?_
    refine J_ald hE ((hX.sh sh2).arr 3 (n := 5) (ty := .int) (by decide) _) dd_X4_prick_21 ?_
    refine J_aload_n hE dd_X4_prick_22 0 rfl rfl ?_
    refine J_get hE (hX.rt.ob _) jc_X4 1 (by decide) fl_RX4_19 (v := .ref (ob 2)) rfl dd_X4_prick_23 ?_
    refine J_get hE ((hX.sh sh2).ob _) jc_X1 2 (by decide) fl_RX4_102 (v := .ref ((aa 2) 2)) rfl dd_X4_prick_26 ?_
    refine J_iload_n hE dd_X4_prick_29 1 rfl rfl ?_
    refine J_ald hE ((hX.sh sh2).arr 2 (n := 5) (ty := .int) (by decide) _) dd_X4_prick_30 ?_
    refine J_icmp_lt hE (tgt := 37) dd_X4_prick_31 (by decide) (fun c3 => ?_) (fun c3 => ?_)
    · refine J_aload_n hE dd_X4_prick_37 0 rfl rfl ?_
      refine J_get hE (hX.rt.ob _) jc_X4 1 (by decide) fl_RX4_19 (v := .ref (ob 2)) rfl dd_X4_prick_38 ?_
      refine J_get hE ((hX.sh sh2).ob _) jc_X1 3 (by decide) fl_RX4_105 (v := .ref ((aa 2) 3)) rfl dd_X4_prick_41 ?_
      refine J_iload_n hE dd_X4_prick_44 1 rfl rfl ?_
      refine J_dup2 hE dd_X4_prick_45 rfl rfl ?_
      refine J_ald hE ((hX.sh sh2).arr 3 (n := 5) (ty := .int) (by decide) _) dd_X4_prick_46 ?_
      refine J_iconst hE (v := (1 : Int32)) dd_X4_prick_47 (by decide) ?_
      refine J_iadd hE dd_X4_prick_48 ?_
      refine J_ast hE (hX.sh sh2) 3 (N := 5) (by decide) dd_X4_prick_49 ?_
      refine J_letS (fun X2 => ?_)
      refine J_aload_n hE dd_X4_prick_50 0 rfl rfl ?_
      refine J_get hE (hX.rt.ob _) jc_X4 1 (by decide) fl_RX4_19 (v := .ref (ob 2)) rfl dd_X4_prick_51 ?_
      refine J_get hE ((hX.sh sh2).ob _) jc_X1 3 (by decide) fl_RX4_105 (v := .ref ((aa 2) 3)) rfl dd_X4_prick_54 ?_
      refine J_iload_n hE dd_X4_prick_57 1 rfl rfl ?_
      refine J_ald hE ((hX.sh sh2).arr 3 (n := 5) (ty := .int) (by decide) _) dd_X4_prick_58 ?_
      exact J_iret hE dd_X4_prick_59 rfl rfl
    · refine J_bipush hE (v := (-3 : Int32)) dd_X4_prick_34 (by decide) ?_
      exact J_iret hE dd_X4_prick_36 rfl rfl
  · refine J_iconst hE (v := (-1 : Int32)) dd_X4_prick_11 (by decide) ?_
    exact J_iret hE dd_X4_prick_12 rfl rfl
theorem dd_X4_alter_0 : jd cX4_alter 0 (.aload_n 0) 1 1 := ⟨by decide +kernel, rfl⟩
theorem dd_X4_alter_1 : jd cX4_alter 1 (.getfield 19) 3 4 := ⟨by decide +kernel, rfl⟩
theorem dd_X4_alter_4 : jd cX4_alter 4 (.iload_n 1) 1 5 := ⟨by decide +kernel, rfl⟩
theorem dd_X4_alter_5 : jd cX4_alter 5 (.invokevirtual 115) 3 8 := ⟨by decide +kernel, rfl⟩
theorem dd_X4_alter_32 : jd cX4_alter 32 (.iconst (-1)) 1 33 := ⟨by decide +kernel, rfl⟩
theorem dd_X4_alter_33 : jd cX4_alter 33 (.ireturn) 1 34 := ⟨by decide +kernel, rfl⟩
theorem dd_X4_alter_11 : jd cX4_alter 11 (.iload_n 2) 1 12 := ⟨by decide +kernel, rfl⟩
theorem dd_X4_alter_12 : jd cX4_alter 12 (.iconst 0) 1 13 := ⟨by decide +kernel, rfl⟩
theorem dd_X4_alter_13 : jd cX4_alter 13 (.iconst 3) 1 14 := ⟨by decide +kernel, rfl⟩
theorem dd_X4_alter_14 : jd cX4_alter 14 (.invokestatic 44) 3 17 := ⟨by decide +kernel, rfl⟩
theorem dd_X4_alter_20 : jd cX4_alter 20 (.iload_n 3) 1 21 := ⟨by decide +kernel, rfl⟩
theorem dd_X4_alter_21 : jd cX4_alter 21 (.iconst 0) 1 22 := ⟨by decide +kernel, rfl⟩
theorem dd_X4_alter_22 : jd cX4_alter 22 (.iload_n 2) 1 23 := ⟨by decide +kernel, rfl⟩
theorem ml_RX4_154 : (Cond.methodLink "MothCustoms" 154 yX4_mostOfTrait : Cond) ∈ jj_tb := jj_m (List.mem_of_getElem? (i := 570) (by decide +kernel)) rfl
theorem dd_X4_alter_23 : jd cX4_alter 23 (.invokestatic 154) 3 26 := ⟨by decide +kernel, rfl⟩
theorem dd_X4_alter_26 : jd cX4_alter 26 (.invokestatic 44) 3 29 := ⟨by decide +kernel, rfl⟩
theorem dd_X4_alter_34 : jd cX4_alter 34 (.aload_n 0) 1 35 := ⟨by decide +kernel, rfl⟩
theorem dd_X4_alter_35 : jd cX4_alter 35 (.getfield 19) 3 38 := ⟨by decide +kernel, rfl⟩
theorem dd_X4_alter_38 : jd cX4_alter 38 (.iload_n 1) 1 39 := ⟨by decide +kernel, rfl⟩
theorem dd_X4_alter_39 : jd cX4_alter 39 (.iload_n 2) 1 40 := ⟨by decide +kernel, rfl⟩
theorem dd_X4_alter_40 : jd cX4_alter 40 (.invokevirtual 124) 3 43 := ⟨by decide +kernel, rfl⟩
theorem dd_X4_alter_43 : jd cX4_alter 43 (.istore 4) 2 45 := ⟨by decide +kernel, rfl⟩
theorem dd_X4_alter_45 : jd cX4_alter 45 (.aload_n 0) 1 46 := ⟨by decide +kernel, rfl⟩
theorem dd_X4_alter_46 : jd cX4_alter 46 (.getfield 19) 3 49 := ⟨by decide +kernel, rfl⟩
theorem dd_X4_alter_49 : jd cX4_alter 49 (.iload_n 1) 1 50 := ⟨by decide +kernel, rfl⟩
theorem dd_X4_alter_50 : jd cX4_alter 50 (.iload_n 2) 1 51 := ⟨by decide +kernel, rfl⟩
theorem dd_X4_alter_51 : jd cX4_alter 51 (.iload_n 3) 1 52 := ⟨by decide +kernel, rfl⟩
theorem ml_RX4_157 : (Cond.methodLink "MothCustoms" 157 yX1_setTrait : Cond) ∈ jj_tb := jj_m (List.mem_of_getElem? (i := 571) (by decide +kernel)) rfl
theorem dd_X4_alter_52 : jd cX4_alter 52 (.invokevirtual 157) 3 55 := ⟨by decide +kernel, rfl⟩
theorem dd_X4_alter_55 : jd cX4_alter 55 (.iload 4) 2 57 := ⟨by decide +kernel, rfl⟩
theorem dd_X4_alter_57 : jd cX4_alter 57 (.ireturn) 1 58 := ⟨by decide +kernel, rfl⟩
theorem dd_X4_alter_29 : jd cX4_alter 29 (.ifCond .ne 5) 3 32 := ⟨by decide +kernel, rfl⟩
theorem dd_X4_alter_17 : jd cX4_alter 17 (.ifCond .eq 15) 3 20 := ⟨by decide +kernel, rfl⟩
theorem dd_X4_alter_8 : jd cX4_alter 8 (.ifCond .eq 24) 3 11 := ⟨by decide +kernel, rfl⟩
theorem m_X4_alter : jmV yX4_alter cX4_alter 5 (some .int) 3 := ⟨⟨(jj_m (w := Cond.code yX4_alter cX4_alter 5 (some .int)) (List.mem_of_getElem? (i := 569) (by decide +kernel)) rfl), (jj_m (w := Cond.initialized yX4_alter.cls) (List.mem_of_getElem? (i := 64) (by decide +kernel)) rfl), ⟨by decide, by decide⟩, by decide +kernel⟩, (jj_m (w := Cond.instanceMethod yX4_alter) (List.mem_of_getElem? (i := 567) (by decide +kernel)) rfl), (jj_m (w := Cond.selects yX4_alter.cls yX4_alter yX4_alter) (List.mem_of_getElem? (i := 568) (by decide +kernel)) rfl)⟩
def fX4_alter (i1 : Int32) (i2 : Int32) (i3 : Int32) (X : M3) : Option (Int32 × M3) :=
  (fX1_hasMoth i1 (X 2)).bind fun r1 =>
  if r1 = 0 then
    some ((-1 : Int32), X)
  else
    (fX4_within i2 (0 : Int32) (3 : Int32)).bind fun r2 =>
    if r2 = 0 then
      some ((-1 : Int32), X)
    else
      (fX4_mostOfTrait i2).bind fun r3 =>
      (fX4_within i3 (0 : Int32) r3).bind fun r4 =>
      if r4 = 0 then
        some ((-1 : Int32), X)
      else
        (fX1_trait i1 i2 (X 2)).bind fun r5 =>
        (fX1_setTrait i1 i2 i3 (X 2)).bind fun q6 =>
        lt ((va_up X 2 q6)) fun X7 =>
        some (r5, X7)

set_option maxHeartbeats 4000000 in
set_option maxRecDepth 100000 in
theorem tX4_alter (l : Launch) {V : JV M3} {ob : Nat → Nat} {aa : Nat → Nat → Nat} (hX : vX4 V ob aa) (X : M3) (i1 : Int32) (i2 : Int32) (i3 : Int32) : JC l V yX4_alter cX4_alter 5 (some .int) jj_i 2 [.ref (ob 0), .int i1, .int i2, .int i3] X ((fX4_alter i1 i2 i3 X).map (fun q => (q.1, q.2))) := by
  refine jj_of (by decide) (Nat.le_of_ble_eq_true rfl) (fun E hlE hE => ?_)
  unfold fX4_alter
  refine J_sub (L' := [(0, .ref (ob 0)), (1, .int i1), (2, .int i2), (3, .int i3)]) [0, 1, 2, 3] rfl ?_
  refine J_aload_n hE dd_X4_alter_0 0 rfl rfl ?_
  refine J_get hE (hX.rt.ob _) jc_X4 1 (by decide) fl_RX4_19 (v := .ref (ob 2)) rfl dd_X4_alter_1 ?_
  refine J_iload_n hE dd_X4_alter_4 1 rfl rfl ?_
  refine J_invVri hE (As := [.int i1]) (st := []) (JC.lift_r (e := fun S => va_up X 2 S) (tX1_hasMoth E.2.1 (hX.shS X sh2) (X 2) i1) (va_up_eta _ _)) ((hX.sh sh2).ob _) m_X1_hasMoth rfl ml_RX4_115 (Nat.le_of_ble_eq_true rfl) (Nat.le_of_ble_eq_true rfl) rfl (Nat.le_of_ble_eq_true rfl) dd_X4_alter_5 (fun r1 => ?_)
  refine J_if_eq hE (tgt := 32) dd_X4_alter_8 (by decide) (fun c10 => ?_) (fun c10 => ?_)
  · refine J_iconst hE (v := (-1 : Int32)) dd_X4_alter_32 (by decide) ?_
    exact J_iret hE dd_X4_alter_33 rfl rfl
  · refine J_iload_n hE dd_X4_alter_11 2 rfl rfl ?_
    refine J_iconst hE (v := (0 : Int32)) dd_X4_alter_12 (by decide) ?_
    refine J_iconst hE (v := (3 : Int32)) dd_X4_alter_13 (by decide) ?_
    refine J_invSri hE (As := [.int i2, .int (0 : Int32), .int (3 : Int32)]) (st := []) (tX4_within E.2.1 V X i2 (0 : Int32) (3 : Int32)) m_X4_within s_X4_within rfl ml_RX4_44 (Nat.le_of_ble_eq_true rfl) (Nat.le_of_ble_eq_true rfl) rfl (Nat.le_of_ble_eq_true rfl) dd_X4_alter_14 (fun r2 => ?_)
    refine J_if_eq hE (tgt := 32) dd_X4_alter_17 (by decide) (fun c9 => ?_) (fun c9 => ?_)
    · refine J_iconst hE (v := (-1 : Int32)) dd_X4_alter_32 (by decide) ?_
      exact J_iret hE dd_X4_alter_33 rfl rfl
    · refine J_iload_n hE dd_X4_alter_20 3 rfl rfl ?_
      refine J_iconst hE (v := (0 : Int32)) dd_X4_alter_21 (by decide) ?_
      refine J_iload_n hE dd_X4_alter_22 2 rfl rfl ?_
      refine J_invSri hE (As := [.int i2]) (st := [.int (0 : Int32), .int i3]) (tX4_mostOfTrait E.2.1 V X i2) m_X4_mostOfTrait s_X4_mostOfTrait rfl ml_RX4_154 (Nat.le_of_ble_eq_true rfl) (Nat.le_of_ble_eq_true rfl) rfl (Nat.le_of_ble_eq_true rfl) dd_X4_alter_23 (fun r3 => ?_)
      refine J_invSri hE (As := [.int i3, .int (0 : Int32), .int r3]) (st := []) (tX4_within E.2.1 V X i3 (0 : Int32) r3) m_X4_within s_X4_within rfl ml_RX4_44 (Nat.le_of_ble_eq_true rfl) (Nat.le_of_ble_eq_true rfl) rfl (Nat.le_of_ble_eq_true rfl) dd_X4_alter_26 (fun r4 => ?_)
      refine J_if_ne hE (tgt := 34) dd_X4_alter_29 (by decide) (fun c8 => ?_) (fun c8 => ?_)
      · refine J_aload_n hE dd_X4_alter_34 0 rfl rfl ?_
        refine J_get hE (hX.rt.ob _) jc_X4 1 (by decide) fl_RX4_19 (v := .ref (ob 2)) rfl dd_X4_alter_35 ?_
        refine J_iload_n hE dd_X4_alter_38 1 rfl rfl ?_
        refine J_iload_n hE dd_X4_alter_39 2 rfl rfl ?_
        refine J_invVri hE (As := [.int i1, .int i2]) (st := []) (JC.lift_r (e := fun S => va_up X 2 S) (tX1_trait E.2.1 (hX.shS X sh2) (X 2) i1 i2) (va_up_eta _ _)) ((hX.sh sh2).ob _) m_X1_trait rfl ml_RX4_124 (Nat.le_of_ble_eq_true rfl) (Nat.le_of_ble_eq_true rfl) rfl (Nat.le_of_ble_eq_true rfl) dd_X4_alter_40 (fun r5 => ?_)
        refine J_istore hE (L' := [(4, .int r5), (0, .ref (ob 0)), (1, .int i1), (2, .int i2), (3, .int i3)]) dd_X4_alter_43 (Nat.le_of_ble_eq_true rfl) rfl ?_
        refine J_aload_n hE dd_X4_alter_45 1 rfl rfl ?_
        refine J_get hE (hX.rt.ob _) jc_X4 1 (by decide) fl_RX4_19 (v := .ref (ob 2)) rfl dd_X4_alter_46 ?_
        refine J_iload_n hE dd_X4_alter_49 2 rfl rfl ?_
        refine J_iload_n hE dd_X4_alter_50 3 rfl rfl ?_
        refine J_iload_n hE dd_X4_alter_51 4 rfl rfl ?_
        refine J_invVwv hE (e := fun S => va_up X 2 S) (As := [.int i1, .int i2, .int i3]) (st := []) (JC.lift_v (e := fun S => va_up X 2 S) (tX1_setTrait E.2.1 (hX.shS X sh2) (X 2) i1 i2 i3) (va_up_eta _ _)) ((hX.sh sh2).ob _) m_X1_setTrait rfl ml_RX4_157 (Nat.le_of_ble_eq_true rfl) (Nat.le_of_ble_eq_true rfl) rfl (Nat.le_of_ble_eq_true rfl) dd_X4_alter_52 (fun q6 => ?_)
        refine J_letS (fun X7 => ?_)
        refine J_iload hE dd_X4_alter_55 0 rfl ?_
        exact J_iret hE dd_X4_alter_57 rfl rfl
      · refine J_iconst hE (v := (-1 : Int32)) dd_X4_alter_32 (by decide) ?_
        exact J_iret hE dd_X4_alter_33 rfl rfl
