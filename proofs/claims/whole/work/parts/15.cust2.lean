theorem dd_X4_luck_0 : jd cX4_luck 0 (.iload_n 1) 1 1 := ⟨by decide +kernel, rfl⟩
theorem dd_X4_luck_1 : jd cX4_luck 1 (.iconst 0) 1 2 := ⟨by decide +kernel, rfl⟩
theorem dd_X4_luck_2 : jd cX4_luck 2 (.bipush 10) 2 4 := ⟨by decide +kernel, rfl⟩
theorem dd_X4_luck_4 : jd cX4_luck 4 (.invokestatic 44) 3 7 := ⟨by decide +kernel, rfl⟩
theorem dd_X4_luck_30 : jd cX4_luck 30 (.ldc2_w 195) 3 33 := ⟨by decide +kernel, rfl⟩
theorem dd_X4_luck_33 : jd cX4_luck 33 (.lreturn) 1 34 := ⟨by decide +kernel, rfl⟩
theorem dd_X4_luck_10 : jd cX4_luck 10 (.aload_n 0) 1 11 := ⟨by decide +kernel, rfl⟩
theorem dd_X4_luck_11 : jd cX4_luck 11 (.getfield 19) 3 14 := ⟨by decide +kernel, rfl⟩
theorem dd_X4_luck_14 : jd cX4_luck 14 (.iload_n 2) 1 15 := ⟨by decide +kernel, rfl⟩
theorem dd_X4_luck_15 : jd cX4_luck 15 (.invokevirtual 95) 3 18 := ⟨by decide +kernel, rfl⟩
theorem dd_X4_luck_21 : jd cX4_luck 21 (.iload_n 3) 1 22 := ⟨by decide +kernel, rfl⟩
theorem dd_X4_luck_22 : jd cX4_luck 22 (.iconst 0) 1 23 := ⟨by decide +kernel, rfl⟩
theorem dd_X4_luck_23 : jd cX4_luck 23 (.iconst 1) 1 24 := ⟨by decide +kernel, rfl⟩
theorem dd_X4_luck_24 : jd cX4_luck 24 (.invokestatic 44) 3 27 := ⟨by decide +kernel, rfl⟩
theorem dd_X4_luck_34 : jd cX4_luck 34 (.lconst 0) 1 35 := ⟨by decide +kernel, rfl⟩
theorem dd_X4_luck_35 : jd cX4_luck 35 (.lstore 4) 2 37 := ⟨by decide +kernel, rfl⟩
theorem dd_X4_luck_37 : jd cX4_luck 37 (.iconst 0) 1 38 := ⟨by decide +kernel, rfl⟩
theorem dd_X4_luck_38 : jd cX4_luck 38 (.istore 6) 2 40 := ⟨by decide +kernel, rfl⟩
theorem dd_X4_luck_40 : jd cX4_luck 40 (.iload 6) 2 42 := ⟨by decide +kernel, rfl⟩
theorem dd_X4_luck_42 : jd cX4_luck 42 (.iconst 1) 1 43 := ⟨by decide +kernel, rfl⟩
theorem dd_X4_luck_43 : jd cX4_luck 43 (.aload_n 0) 1 44 := ⟨by decide +kernel, rfl⟩
theorem dd_X4_luck_44 : jd cX4_luck 44 (.getfield 19) 3 47 := ⟨by decide +kernel, rfl⟩
theorem dd_X4_luck_47 : jd cX4_luck 47 (.getfield 76) 3 50 := ⟨by decide +kernel, rfl⟩
theorem dd_X4_luck_50 : jd cX4_luck 50 (.ishl) 1 51 := ⟨by decide +kernel, rfl⟩
theorem dd_X4_luck_54 : jd cX4_luck 54 (.aload_n 0) 1 55 := ⟨by decide +kernel, rfl⟩
theorem dd_X4_luck_55 : jd cX4_luck 55 (.iload 6) 2 57 := ⟨by decide +kernel, rfl⟩
theorem dd_X4_luck_57 : jd cX4_luck 57 (.invokevirtual 173) 3 60 := ⟨by decide +kernel, rfl⟩
theorem dd_X4_luck_60 : jd cX4_luck 60 (.lload 4) 2 62 := ⟨by decide +kernel, rfl⟩
theorem dd_X4_luck_62 : jd cX4_luck 62 (.aload_n 0) 1 63 := ⟨by decide +kernel, rfl⟩
theorem dd_X4_luck_63 : jd cX4_luck 63 (.getfield 23) 3 66 := ⟨by decide +kernel, rfl⟩
theorem dd_X4_luck_66 : jd cX4_luck 66 (.iload_n 2) 1 67 := ⟨by decide +kernel, rfl⟩
theorem dd_X4_luck_67 : jd cX4_luck 67 (.invokevirtual 170) 3 70 := ⟨by decide +kernel, rfl⟩
theorem dd_X4_luck_83 : jd cX4_luck 83 (.lconst 0) 1 84 := ⟨by decide +kernel, rfl⟩
theorem dd_X4_luck_73 : jd cX4_luck 73 (.aload_n 0) 1 74 := ⟨by decide +kernel, rfl⟩
theorem dd_X4_luck_74 : jd cX4_luck 74 (.iload_n 1) 1 75 := ⟨by decide +kernel, rfl⟩
theorem dd_X4_luck_75 : jd cX4_luck 75 (.iload 6) 2 77 := ⟨by decide +kernel, rfl⟩
theorem dd_X4_luck_77 : jd cX4_luck 77 (.invokevirtual 197) 3 80 := ⟨by decide +kernel, rfl⟩
theorem dd_X4_luck_80 : jd cX4_luck 80 (.goto 4) 3 83 := ⟨by decide +kernel, rfl⟩
theorem dd_X4_luck_70 : jd cX4_luck 70 (.ifCond .eq 13) 3 73 := ⟨by decide +kernel, rfl⟩
theorem dd_X4_luck_84 : jd cX4_luck 84 (.ladd) 1 85 := ⟨by decide +kernel, rfl⟩
theorem dd_X4_luck_85 : jd cX4_luck 85 (.lstore 4) 2 87 := ⟨by decide +kernel, rfl⟩
theorem dd_X4_luck_87 : jd cX4_luck 87 (.iinc 6 1) 3 90 := ⟨by decide +kernel, rfl⟩
theorem dd_X4_luck_90 : jd cX4_luck 90 (.goto (-50)) 3 93 := ⟨by decide +kernel, rfl⟩
theorem dd_X4_luck_51 : jd cX4_luck 51 (.if_icmp .ge 42) 3 54 := ⟨by decide +kernel, rfl⟩
theorem dd_X4_luck_93 : jd cX4_luck 93 (.aload_n 0) 1 94 := ⟨by decide +kernel, rfl⟩
theorem dd_X4_luck_94 : jd cX4_luck 94 (.lload 4) 2 96 := ⟨by decide +kernel, rfl⟩
theorem dd_X4_luck_96 : jd cX4_luck 96 (.iload_n 3) 1 97 := ⟨by decide +kernel, rfl⟩
theorem dd_X4_luck_97 : jd cX4_luck 97 (.invokevirtual 201) 3 100 := ⟨by decide +kernel, rfl⟩
theorem dd_X4_luck_100 : jd cX4_luck 100 (.lreturn) 1 101 := ⟨by decide +kernel, rfl⟩
theorem dd_X4_luck_27 : jd cX4_luck 27 (.ifCond .ne 7) 3 30 := ⟨by decide +kernel, rfl⟩
theorem dd_X4_luck_18 : jd cX4_luck 18 (.ifCond .eq 12) 3 21 := ⟨by decide +kernel, rfl⟩
theorem dd_X4_luck_7 : jd cX4_luck 7 (.ifCond .eq 23) 3 10 := ⟨by decide +kernel, rfl⟩
theorem m_X4_luck : jmV yX4_luck cX4_luck 7 (some .long) 3 := ⟨⟨(jj_m (w := Cond.code yX4_luck cX4_luck 7 (some .long)) (List.mem_of_getElem? (i := 684) (by decide +kernel)) rfl), (jj_m (w := Cond.initialized yX4_luck.cls) (List.mem_of_getElem? (i := 64) (by decide +kernel)) rfl), ⟨by decide, by decide⟩, by decide +kernel⟩, (jj_m (w := Cond.instanceMethod yX4_luck) (List.mem_of_getElem? (i := 682) (by decide +kernel)) rfl), (jj_m (w := Cond.selects yX4_luck.cls yX4_luck yX4_luck) (List.mem_of_getElem? (i := 683) (by decide +kernel)) rfl)⟩
def fX4_luck_L40 (i1 : Int32) (i2 : Int32) (i3 : Int32) (k93 : (Int64 × M3) → Option (Int64 × M3)) : Nat → Int64 → Int32 → M3 → Option (Int64 × M3)
  | 0, _, _, _ => none
  | n_ + 1, w4, v5, X6 =>
    if ((1 : Int32) <<< (((X6 2) 7 0) &&& 31)) ≤ v5 then
      k93 (w4, X6)
    else
      (fX4_tryNight v5 X6).bind fun q7 =>
      lt (q7) fun X8 =>
      (fX1_isEatenUp i2 (X8 3)).bind fun r9 =>
      jn (α := Option (Int64 × M3)) (β := Int64) (fun j10 =>
        if r9 = 0 then
          j10 (0 : Int64)
        else
          (fX4_weight i1 v5 X8).bind fun r11 =>
          j10 r11) (fun p13 => 
        lt ((w4 + p13)) fun y14 =>
        lt (v5 + (1 : Int32)) fun x15 =>
        fX4_luck_L40 i1 i2 i3 k93 n_ y14 x15 X8)

def fX4_luck (i1 : Int32) (i2 : Int32) (i3 : Int32) (X : M3) : Option (Int64 × M3) :=
  (fX4_within i1 (0 : Int32) (10 : Int32)).bind fun r1 =>
  if r1 = 0 then
    some ((-1 : Int64), X)
  else
    (fX1_hasBolt i2 (X 2)).bind fun r2 =>
    if r2 = 0 then
      some ((-1 : Int64), X)
    else
      (fX4_within i3 (0 : Int32) (1 : Int32)).bind fun r3 =>
      if r3 = 0 then
        some ((-1 : Int64), X)
      else
        fX4_luck_L40 i1 i2 i3
          (fun p17 =>
            (fX4_partOfFraction p17.1 i3 p17.2).bind fun r18 =>
            some (r18, p17.2))
          400 (0 : Int64) (0 : Int32) X

set_option maxHeartbeats 4000000 in
set_option maxRecDepth 100000 in
theorem tX4_luck_L40 {V : JV M3} {ob : Nat → Nat} {aa : Nat → Nat → Nat} (hX : vX4 V ob aa) (i1 : Int32) (i2 : Int32) (i3 : Int32) {E : JE (M3) Int64} (hE : JOk V E cX4_luck yX4_luck.cls 7 5 (some .long) jj_l) {k93 : (Int64 × M3) → Option (Int64 × M3)} (hk93 : ∀ p, J V E (fun q => (q.1, q.2)) (k93 p) 93 [(0, .ref (ob 0)), (3, .int i3), (4, .long p.1)] [] p.2) : ∀ (n_ : Nat) (w4 : Int64) (v5 : Int32) (X6 : M3), J V E (fun q => (q.1, q.2)) (fX4_luck_L40 i1 i2 i3 k93 n_ w4 v5 X6) 40 [(0, .ref (ob 0)), (1, .int i1), (2, .int i2), (3, .int i3), (4, .long w4), (6, .int v5)] [] X6 := by
  intro n_
  induction n_ with
  | zero =>
    intros
    exact J_none
  | succ n_ ih =>
    intros w4 v5 X6
    rw [fX4_luck_L40]
    refine J_iload hE dd_X4_luck_40 5 rfl ?_
    refine J_iconst hE (v := (1 : Int32)) dd_X4_luck_42 (by decide) ?_
    refine J_aload_n hE dd_X4_luck_43 0 rfl rfl ?_
    refine J_get hE (hX.rt.ob _) jc_X4 1 (by decide) fl_RX4_19 (v := .ref (ob 2)) rfl dd_X4_luck_44 ?_
    refine J_get hE ((hX.sh sh2).ob _) jc_X1 7 (by decide) fl_RX4_76 (v := .int ((X6 2) 7 0)) rfl dd_X4_luck_47 ?_
    refine J_ishl hE dd_X4_luck_50 ?_
    refine J_icmp_ge hE (tgt := 93) dd_X4_luck_51 (by decide) (fun c16 => ?_) (fun c16 => ?_)
    · refine J_sub [0, 3, 4] rfl ?_
      exact hk93 (w4, X6)
    · refine J_aload_n hE dd_X4_luck_54 0 rfl rfl ?_
      refine J_iload hE dd_X4_luck_55 5 rfl ?_
      refine J_invVwv hE (e := fun x => x) (As := [.int v5]) (st := []) (tX4_tryNight E.2.1 hX X6 v5) (hX.rt.ob _) m_X4_tryNight rfl ml_RX4_173 (Nat.le_of_ble_eq_true rfl) (Nat.le_of_ble_eq_true rfl) rfl (Nat.le_of_ble_eq_true rfl) dd_X4_luck_57 (fun q7 => ?_)
      refine J_letS (fun X8 => ?_)
      refine J_lload hE dd_X4_luck_60 4 rfl ?_
      refine J_aload_n hE dd_X4_luck_62 0 rfl rfl ?_
      refine J_get hE (hX.rt.ob _) jc_X4 2 (by decide) fl_RX4_23 (v := .ref (ob 3)) rfl dd_X4_luck_63 ?_
      refine J_iload_n hE dd_X4_luck_66 2 rfl rfl ?_
      refine J_invVri hE (As := [.int i2]) (st := [.long w4]) (JC.lift_r (e := fun S => va_up X8 3 S) (tX1_isEatenUp E.2.1 (hX.shS X8 sh3) (X8 3) i2) (va_up_eta _ _)) ((hX.sh sh3).ob _) m_X1_isEatenUp rfl ml_RX4_170 (Nat.le_of_ble_eq_true rfl) (Nat.le_of_ble_eq_true rfl) rfl (Nat.le_of_ble_eq_true rfl) dd_X4_luck_67 (fun r9 => ?_)
      refine J_jn (m := 84) (Lf := fun p13 => [(0, .ref (ob 0)), (1, .int i1), (2, .int i2), (3, .int i3), (6, .int v5)]) (sf := fun p13 => [.long p13, .long w4]) (Xf := fun p13 => X8) (fun p13 => ?_) (fun hj10 => ?_)
      · show J V E _ _ 84 [(0, .ref (ob 0)), (1, .int i1), (2, .int i2), (3, .int i3), (6, .int v5)] [.long p13, .long w4] X8
        refine J_ladd hE dd_X4_luck_84 ?_
        refine J_letl (fun y14 => ?_)
        refine J_lstore hE (L' := [(4, .long y14), (0, .ref (ob 0)), (1, .int i1), (2, .int i2), (3, .int i3), (6, .int v5)]) dd_X4_luck_85 (Nat.le_of_ble_eq_true rfl) rfl ?_
        refine J_iincL hE (v := (v5 + (1 : Int32))) (Lf := fun x15 => [(6, .int x15), (4, .long y14), (0, .ref (ob 0)), (1, .int i1), (2, .int i2), (3, .int i3)]) dd_X4_luck_87 (j := 5) rfl (congrArg (v5 + ·) (by decide)) (Nat.le_of_ble_eq_true rfl) (fun _ => rfl) (fun x15 => ?_)
        refine J_goto hE (tgt := 40) dd_X4_luck_90 (by decide) ?_
        refine J_sub [2, 3, 4, 5, 1, 0] rfl ?_
        exact ih y14 x15 X8
      · refine J_if_eq hE (tgt := 83) dd_X4_luck_70 (by decide) (fun c12 => ?_) (fun c12 => ?_)
        · refine J_lconst hE (v := (0 : Int64)) dd_X4_luck_83 (by decide) ?_
          refine J_sub [0, 1, 2, 3, 5] rfl ?_
          exact hj10 (0 : Int64)
        · refine J_aload_n hE dd_X4_luck_73 0 rfl rfl ?_
          refine J_iload_n hE dd_X4_luck_74 1 rfl rfl ?_
          refine J_iload hE dd_X4_luck_75 5 rfl ?_
          refine J_invVrl hE (As := [.int i1, .int v5]) (st := [.long w4]) (tX4_weight E.2.1 hX X8 i1 v5) (hX.rt.ob _) m_X4_weight rfl ml_RX4_197 (Nat.le_of_ble_eq_true rfl) (Nat.le_of_ble_eq_true rfl) rfl (Nat.le_of_ble_eq_true rfl) dd_X4_luck_77 (fun r11 => ?_)
          refine J_goto hE (tgt := 84) dd_X4_luck_80 (by decide) ?_
          refine J_sub [0, 1, 2, 3, 5] rfl ?_
          exact hj10 r11
set_option maxHeartbeats 4000000 in
set_option maxRecDepth 100000 in
theorem tX4_luck (l : Launch) {V : JV M3} {ob : Nat → Nat} {aa : Nat → Nat → Nat} (hX : vX4 V ob aa) (X : M3) (i1 : Int32) (i2 : Int32) (i3 : Int32) : JC l V yX4_luck cX4_luck 7 (some .long) jj_l 5 [.ref (ob 0), .int i1, .int i2, .int i3] X ((fX4_luck i1 i2 i3 X).map (fun q => (q.1, q.2))) := by
  refine jj_of (by decide) (Nat.le_of_ble_eq_true rfl) (fun E hlE hE => ?_)
  unfold fX4_luck
  refine J_sub (L' := [(0, .ref (ob 0)), (1, .int i1), (2, .int i2), (3, .int i3)]) [0, 1, 2, 3] rfl ?_
  refine J_iload_n hE dd_X4_luck_0 1 rfl rfl ?_
  refine J_iconst hE (v := (0 : Int32)) dd_X4_luck_1 (by decide) ?_
  refine J_bipush hE (v := (10 : Int32)) dd_X4_luck_2 (by decide) ?_
  refine J_invSri hE (As := [.int i1, .int (0 : Int32), .int (10 : Int32)]) (st := []) (tX4_within E.2.1 V X i1 (0 : Int32) (10 : Int32)) m_X4_within s_X4_within rfl ml_RX4_44 (Nat.le_of_ble_eq_true rfl) (Nat.le_of_ble_eq_true rfl) rfl (Nat.le_of_ble_eq_true rfl) dd_X4_luck_4 (fun r1 => ?_)
  refine J_if_eq hE (tgt := 30) dd_X4_luck_7 (by decide) (fun c21 => ?_) (fun c21 => ?_)
  · refine J_ldc2 hE (v := (-1 : Int64)) dd_X4_luck_30 cl_RX4_195 ?_
    exact J_lret hE dd_X4_luck_33 rfl rfl
  · refine J_aload_n hE dd_X4_luck_10 0 rfl rfl ?_
    refine J_get hE (hX.rt.ob _) jc_X4 1 (by decide) fl_RX4_19 (v := .ref (ob 2)) rfl dd_X4_luck_11 ?_
    refine J_iload_n hE dd_X4_luck_14 2 rfl rfl ?_
    refine J_invVri hE (As := [.int i2]) (st := []) (JC.lift_r (e := fun S => va_up X 2 S) (tX1_hasBolt E.2.1 (hX.shS X sh2) (X 2) i2) (va_up_eta _ _)) ((hX.sh sh2).ob _) m_X1_hasBolt rfl ml_RX4_95 (Nat.le_of_ble_eq_true rfl) (Nat.le_of_ble_eq_true rfl) rfl (Nat.le_of_ble_eq_true rfl) dd_X4_luck_15 (fun r2 => ?_)
    refine J_if_eq hE (tgt := 30) dd_X4_luck_18 (by decide) (fun c20 => ?_) (fun c20 => ?_)
    · refine J_ldc2 hE (v := (-1 : Int64)) dd_X4_luck_30 cl_RX4_195 ?_
      exact J_lret hE dd_X4_luck_33 rfl rfl
    · refine J_iload_n hE dd_X4_luck_21 3 rfl rfl ?_
      refine J_iconst hE (v := (0 : Int32)) dd_X4_luck_22 (by decide) ?_
      refine J_iconst hE (v := (1 : Int32)) dd_X4_luck_23 (by decide) ?_
      refine J_invSri hE (As := [.int i3, .int (0 : Int32), .int (1 : Int32)]) (st := []) (tX4_within E.2.1 V X i3 (0 : Int32) (1 : Int32)) m_X4_within s_X4_within rfl ml_RX4_44 (Nat.le_of_ble_eq_true rfl) (Nat.le_of_ble_eq_true rfl) rfl (Nat.le_of_ble_eq_true rfl) dd_X4_luck_24 (fun r3 => ?_)
      refine J_if_ne hE (tgt := 34) dd_X4_luck_27 (by decide) (fun c19 => ?_) (fun c19 => ?_)
      · refine J_lconst hE (v := (0 : Int64)) dd_X4_luck_34 (by decide) ?_
        refine J_lstore hE (L' := [(4, .long (0 : Int64)), (0, .ref (ob 0)), (1, .int i1), (2, .int i2), (3, .int i3)]) dd_X4_luck_35 (Nat.le_of_ble_eq_true rfl) rfl ?_
        refine J_iconst hE (v := (0 : Int32)) dd_X4_luck_37 (by decide) ?_
        refine J_istore hE (L' := [(6, .int (0 : Int32)), (4, .long (0 : Int64)), (0, .ref (ob 0)), (1, .int i1), (2, .int i2), (3, .int i3)]) dd_X4_luck_38 (Nat.le_of_ble_eq_true rfl) rfl ?_
        refine J_sub [2, 3, 4, 5, 1, 0] rfl ?_
        refine tX4_luck_L40 hX i1 i2 i3 hE (fun p17 => ?_) 400 (0 : Int64) (0 : Int32) X
        show J V E _ _ 93 [(0, .ref (ob 0)), (3, .int i3), (4, .long p17.1)] [] p17.2
        refine J_aload_n hE dd_X4_luck_93 0 rfl rfl ?_
        refine J_lload hE dd_X4_luck_94 2 rfl ?_
        refine J_iload_n hE dd_X4_luck_96 1 rfl rfl ?_
        refine J_invVrl hE (As := [.long p17.1, .int i3]) (st := []) (tX4_partOfFraction E.2.1 hX p17.2 p17.1 i3) (hX.rt.ob _) m_X4_partOfFraction rfl ml_RX4_201 (Nat.le_of_ble_eq_true rfl) (Nat.le_of_ble_eq_true rfl) rfl (Nat.le_of_ble_eq_true rfl) dd_X4_luck_97 (fun r18 => ?_)
        exact J_lret hE dd_X4_luck_100 rfl rfl
      · refine J_ldc2 hE (v := (-1 : Int64)) dd_X4_luck_30 cl_RX4_195 ?_
        exact J_lret hE dd_X4_luck_33 rfl rfl
theorem dd_X4_see_0 : jd cX4_see 0 (.aload_n 0) 1 1 := ⟨by decide +kernel, rfl⟩
theorem dd_X4_see_1 : jd cX4_see 1 (.getfield 19) 3 4 := ⟨by decide +kernel, rfl⟩
theorem dd_X4_see_4 : jd cX4_see 4 (.iload_n 1) 1 5 := ⟨by decide +kernel, rfl⟩
theorem dd_X4_see_5 : jd cX4_see 5 (.invokevirtual 95) 3 8 := ⟨by decide +kernel, rfl⟩
theorem dd_X4_see_21 : jd cX4_see 21 (.iconst (-1)) 1 22 := ⟨by decide +kernel, rfl⟩
theorem dd_X4_see_22 : jd cX4_see 22 (.ireturn) 1 23 := ⟨by decide +kernel, rfl⟩
theorem dd_X4_see_11 : jd cX4_see 11 (.iload_n 2) 1 12 := ⟨by decide +kernel, rfl⟩
theorem dd_X4_see_12 : jd cX4_see 12 (.iconst 0) 1 13 := ⟨by decide +kernel, rfl⟩
theorem dd_X4_see_13 : jd cX4_see 13 (.bipush 9) 2 15 := ⟨by decide +kernel, rfl⟩
theorem dd_X4_see_15 : jd cX4_see 15 (.invokestatic 44) 3 18 := ⟨by decide +kernel, rfl⟩
theorem dd_X4_see_23 : jd cX4_see 23 (.aload_n 0) 1 24 := ⟨by decide +kernel, rfl⟩
theorem dd_X4_see_24 : jd cX4_see 24 (.getfield 19) 3 27 := ⟨by decide +kernel, rfl⟩
theorem fl_RX4_205 : (Cond.fieldLink "MothCustoms" 205 "MothCustoms$Shed" "seen" "I" : Cond) ∈ jj_tb := jj_m (List.mem_of_getElem? (i := 173) (by decide +kernel)) rfl
theorem dd_X4_see_27 : jd cX4_see 27 (.getfield 205) 3 30 := ⟨by decide +kernel, rfl⟩
theorem dd_X4_see_30 : jd cX4_see 30 (.bipush 6) 2 32 := ⟨by decide +kernel, rfl⟩
theorem dd_X4_see_38 : jd cX4_see 38 (.aload_n 0) 1 39 := ⟨by decide +kernel, rfl⟩
theorem dd_X4_see_39 : jd cX4_see 39 (.getfield 19) 3 42 := ⟨by decide +kernel, rfl⟩
theorem fl_RX4_208 : (Cond.fieldLink "MothCustoms" 208 "MothCustoms$Shed" "seenBolt" "[I" : Cond) ∈ jj_tb := jj_m (List.mem_of_getElem? (i := 175) (by decide +kernel)) rfl
theorem dd_X4_see_42 : jd cX4_see 42 (.getfield 208) 3 45 := ⟨by decide +kernel, rfl⟩
theorem dd_X4_see_45 : jd cX4_see 45 (.aload_n 0) 1 46 := ⟨by decide +kernel, rfl⟩
theorem dd_X4_see_46 : jd cX4_see 46 (.getfield 19) 3 49 := ⟨by decide +kernel, rfl⟩
theorem dd_X4_see_49 : jd cX4_see 49 (.getfield 205) 3 52 := ⟨by decide +kernel, rfl⟩
theorem dd_X4_see_52 : jd cX4_see 52 (.iload_n 1) 1 53 := ⟨by decide +kernel, rfl⟩
theorem dd_X4_see_53 : jd cX4_see 53 (.iastore) 1 54 := ⟨by decide +kernel, rfl⟩
theorem dd_X4_see_54 : jd cX4_see 54 (.aload_n 0) 1 55 := ⟨by decide +kernel, rfl⟩
theorem dd_X4_see_55 : jd cX4_see 55 (.getfield 19) 3 58 := ⟨by decide +kernel, rfl⟩
theorem fl_RX4_211 : (Cond.fieldLink "MothCustoms" 211 "MothCustoms$Shed" "seenHoles" "[I" : Cond) ∈ jj_tb := jj_m (List.mem_of_getElem? (i := 177) (by decide +kernel)) rfl
theorem dd_X4_see_58 : jd cX4_see 58 (.getfield 211) 3 61 := ⟨by decide +kernel, rfl⟩
theorem dd_X4_see_61 : jd cX4_see 61 (.aload_n 0) 1 62 := ⟨by decide +kernel, rfl⟩
theorem dd_X4_see_62 : jd cX4_see 62 (.getfield 19) 3 65 := ⟨by decide +kernel, rfl⟩
theorem dd_X4_see_65 : jd cX4_see 65 (.getfield 205) 3 68 := ⟨by decide +kernel, rfl⟩
theorem dd_X4_see_68 : jd cX4_see 68 (.iload_n 2) 1 69 := ⟨by decide +kernel, rfl⟩
theorem dd_X4_see_69 : jd cX4_see 69 (.iastore) 1 70 := ⟨by decide +kernel, rfl⟩
theorem dd_X4_see_70 : jd cX4_see 70 (.aload_n 0) 1 71 := ⟨by decide +kernel, rfl⟩
theorem dd_X4_see_71 : jd cX4_see 71 (.getfield 19) 3 74 := ⟨by decide +kernel, rfl⟩
theorem dd_X4_see_74 : jd cX4_see 74 (.dup) 1 75 := ⟨by decide +kernel, rfl⟩
theorem dd_X4_see_75 : jd cX4_see 75 (.getfield 205) 3 78 := ⟨by decide +kernel, rfl⟩
theorem dd_X4_see_78 : jd cX4_see 78 (.iconst 1) 1 79 := ⟨by decide +kernel, rfl⟩
theorem dd_X4_see_79 : jd cX4_see 79 (.iadd) 1 80 := ⟨by decide +kernel, rfl⟩
theorem dd_X4_see_80 : jd cX4_see 80 (.putfield 205) 3 83 := ⟨by decide +kernel, rfl⟩
theorem dd_X4_see_83 : jd cX4_see 83 (.aload_n 0) 1 84 := ⟨by decide +kernel, rfl⟩
theorem dd_X4_see_84 : jd cX4_see 84 (.getfield 19) 3 87 := ⟨by decide +kernel, rfl⟩
theorem dd_X4_see_87 : jd cX4_see 87 (.getfield 205) 3 90 := ⟨by decide +kernel, rfl⟩
theorem dd_X4_see_90 : jd cX4_see 90 (.ireturn) 1 91 := ⟨by decide +kernel, rfl⟩
theorem dd_X4_see_35 : jd cX4_see 35 (.bipush (-3)) 2 37 := ⟨by decide +kernel, rfl⟩
theorem dd_X4_see_37 : jd cX4_see 37 (.ireturn) 1 38 := ⟨by decide +kernel, rfl⟩
theorem dd_X4_see_32 : jd cX4_see 32 (.if_icmp .lt 6) 3 35 := ⟨by decide +kernel, rfl⟩
theorem dd_X4_see_18 : jd cX4_see 18 (.ifCond .ne 5) 3 21 := ⟨by decide +kernel, rfl⟩
theorem dd_X4_see_8 : jd cX4_see 8 (.ifCond .eq 13) 3 11 := ⟨by decide +kernel, rfl⟩
theorem m_X4_see : jmV yX4_see cX4_see 3 (some .int) 2 := ⟨⟨(jj_m (w := Cond.code yX4_see cX4_see 3 (some .int)) (List.mem_of_getElem? (i := 688) (by decide +kernel)) rfl), (jj_m (w := Cond.initialized yX4_see.cls) (List.mem_of_getElem? (i := 64) (by decide +kernel)) rfl), ⟨by decide, by decide⟩, by decide +kernel⟩, (jj_m (w := Cond.instanceMethod yX4_see) (List.mem_of_getElem? (i := 686) (by decide +kernel)) rfl), (jj_m (w := Cond.selects yX4_see.cls yX4_see yX4_see) (List.mem_of_getElem? (i := 687) (by decide +kernel)) rfl)⟩
def fX4_see (i1 : Int32) (i2 : Int32) (X : M3) : Option (Int32 × M3) :=
  (fX1_hasBolt i1 (X 2)).bind fun r1 =>
  if r1 = 0 then
    some ((-1 : Int32), X)
  else
    (fX4_within i2 (0 : Int32) (9 : Int32)).bind fun r2 =>
    if r2 = 0 then
      some ((-1 : Int32), X)
    else
      if ((X 2) 15 0) < (6 : Int32) then
        bnd ((X 2) 15 0) 6 <|
        lt ((va_up X 2 (va_up (X 2) 16 (upd ((X 2) 16) ((X 2) 15 0).toNatClampNeg i1)))) fun X3 =>
        bnd ((X3 2) 15 0) 6 <|
        lt ((va_up X3 2 (va_up (X3 2) 17 (upd ((X3 2) 17) ((X3 2) 15 0).toNatClampNeg i2)))) fun X4 =>
        lt ((va_up X4 2 (va_up (X4 2) 15 (fun _ => (((X4 2) 15 0) + (1 : Int32)))))) fun X5 =>
        some (((X5 2) 15 0), X5)
      else
        some ((-3 : Int32), X)

set_option maxHeartbeats 4000000 in
set_option maxRecDepth 100000 in
theorem tX4_see (l : Launch) {V : JV M3} {ob : Nat → Nat} {aa : Nat → Nat → Nat} (hX : vX4 V ob aa) (X : M3) (i1 : Int32) (i2 : Int32) : JC l V yX4_see cX4_see 3 (some .int) jj_i 2 [.ref (ob 0), .int i1, .int i2] X ((fX4_see i1 i2 X).map (fun q => (q.1, q.2))) := by
  refine jj_of (by decide) (Nat.le_of_ble_eq_true rfl) (fun E hlE hE => ?_)
  unfold fX4_see
  refine J_sub (L' := [(0, .ref (ob 0)), (1, .int i1), (2, .int i2)]) [0, 1, 2] rfl ?_
  refine J_aload_n hE dd_X4_see_0 0 rfl rfl ?_
  refine J_get hE (hX.rt.ob _) jc_X4 1 (by decide) fl_RX4_19 (v := .ref (ob 2)) rfl dd_X4_see_1 ?_
  refine J_iload_n hE dd_X4_see_4 1 rfl rfl ?_
  refine J_invVri hE (As := [.int i1]) (st := []) (JC.lift_r (e := fun S => va_up X 2 S) (tX1_hasBolt E.2.1 (hX.shS X sh2) (X 2) i1) (va_up_eta _ _)) ((hX.sh sh2).ob _) m_X1_hasBolt rfl ml_RX4_95 (Nat.le_of_ble_eq_true rfl) (Nat.le_of_ble_eq_true rfl) rfl (Nat.le_of_ble_eq_true rfl) dd_X4_see_5 (fun r1 => ?_)
  refine J_if_eq hE (tgt := 21) dd_X4_see_8 (by decide) (fun c8 => ?_) (fun c8 => ?_)
  · refine J_iconst hE (v := (-1 : Int32)) dd_X4_see_21 (by decide) ?_
    exact J_iret hE dd_X4_see_22 rfl rfl
  · refine J_iload_n hE dd_X4_see_11 2 rfl rfl ?_
    refine J_iconst hE (v := (0 : Int32)) dd_X4_see_12 (by decide) ?_
    refine J_bipush hE (v := (9 : Int32)) dd_X4_see_13 (by decide) ?_
    refine J_invSri hE (As := [.int i2, .int (0 : Int32), .int (9 : Int32)]) (st := []) (tX4_within E.2.1 V X i2 (0 : Int32) (9 : Int32)) m_X4_within s_X4_within rfl ml_RX4_44 (Nat.le_of_ble_eq_true rfl) (Nat.le_of_ble_eq_true rfl) rfl (Nat.le_of_ble_eq_true rfl) dd_X4_see_15 (fun r2 => ?_)
    refine J_if_ne hE (tgt := 23) dd_X4_see_18 (by decide) (fun c7 => ?_) (fun c7 => ?_)
    · refine J_aload_n hE dd_X4_see_23 0 rfl rfl ?_
      refine J_get hE (hX.rt.ob _) jc_X4 1 (by decide) fl_RX4_19 (v := .ref (ob 2)) rfl dd_X4_see_24 ?_
      refine J_get hE ((hX.sh sh2).ob _) jc_X1 15 (by decide) fl_RX4_205 (v := .int ((X 2) 15 0)) rfl dd_X4_see_27 ?_
      refine J_bipush hE (v := (6 : Int32)) dd_X4_see_30 (by decide) ?_
      refine J_icmp_lt hE (tgt := 38) dd_X4_see_32 (by decide) (fun c6 => ?_) (fun c6 => ?_)
      · refine J_aload_n hE dd_X4_see_38 0 rfl rfl ?_
        refine J_get hE (hX.rt.ob _) jc_X4 1 (by decide) fl_RX4_19 (v := .ref (ob 2)) rfl dd_X4_see_39 ?_
        refine J_get hE ((hX.sh sh2).ob _) jc_X1 16 (by decide) fl_RX4_208 (v := .ref ((aa 2) 16)) rfl dd_X4_see_42 ?_
        refine J_aload_n hE dd_X4_see_45 0 rfl rfl ?_
        refine J_get hE (hX.rt.ob _) jc_X4 1 (by decide) fl_RX4_19 (v := .ref (ob 2)) rfl dd_X4_see_46 ?_
        refine J_get hE ((hX.sh sh2).ob _) jc_X1 15 (by decide) fl_RX4_205 (v := .int ((X 2) 15 0)) rfl dd_X4_see_49 ?_
        refine J_iload_n hE dd_X4_see_52 1 rfl rfl ?_
        refine J_ast hE (hX.sh sh2) 16 (N := 6) (by decide) dd_X4_see_53 ?_
        refine J_letS (fun X3 => ?_)
        refine J_aload_n hE dd_X4_see_54 0 rfl rfl ?_
        refine J_get hE (hX.rt.ob _) jc_X4 1 (by decide) fl_RX4_19 (v := .ref (ob 2)) rfl dd_X4_see_55 ?_
        refine J_get hE ((hX.sh sh2).ob _) jc_X1 17 (by decide) fl_RX4_211 (v := .ref ((aa 2) 17)) rfl dd_X4_see_58 ?_
        refine J_aload_n hE dd_X4_see_61 0 rfl rfl ?_
        refine J_get hE (hX.rt.ob _) jc_X4 1 (by decide) fl_RX4_19 (v := .ref (ob 2)) rfl dd_X4_see_62 ?_
        refine J_get hE ((hX.sh sh2).ob _) jc_X1 15 (by decide) fl_RX4_205 (v := .int ((X3 2) 15 0)) rfl dd_X4_see_65 ?_
        refine J_iload_n hE dd_X4_see_68 2 rfl rfl ?_
        refine J_ast hE (hX.sh sh2) 17 (N := 6) (by decide) dd_X4_see_69 ?_
        refine J_letS (fun X4 => ?_)
        refine J_aload_n hE dd_X4_see_70 0 rfl rfl ?_
        refine J_get hE (hX.rt.ob _) jc_X4 1 (by decide) fl_RX4_19 (v := .ref (ob 2)) rfl dd_X4_see_71 ?_
        refine J_dup hE dd_X4_see_74 rfl ?_
        refine J_get hE ((hX.sh sh2).ob _) jc_X1 15 (by decide) fl_RX4_205 (v := .int ((X4 2) 15 0)) rfl dd_X4_see_75 ?_
        refine J_iconst hE (v := (1 : Int32)) dd_X4_see_78 (by decide) ?_
        refine J_iadd hE dd_X4_see_79 ?_
        refine J_put hE (hX.sh sh2) jc_X1 15 (by decide) (by decide) fl_RX4_205 rfl rfl rfl (Nat.le_of_ble_eq_true rfl) dd_X4_see_80 ?_
        refine J_letS (fun X5 => ?_)
        refine J_aload_n hE dd_X4_see_83 0 rfl rfl ?_
        refine J_get hE (hX.rt.ob _) jc_X4 1 (by decide) fl_RX4_19 (v := .ref (ob 2)) rfl dd_X4_see_84 ?_
        refine J_get hE ((hX.sh sh2).ob _) jc_X1 15 (by decide) fl_RX4_205 (v := .int ((X5 2) 15 0)) rfl dd_X4_see_87 ?_
        exact J_iret hE dd_X4_see_90 rfl rfl
      · refine J_bipush hE (v := (-3 : Int32)) dd_X4_see_35 (by decide) ?_
        exact J_iret hE dd_X4_see_37 rfl rfl
    · refine J_iconst hE (v := (-1 : Int32)) dd_X4_see_21 (by decide) ?_
      exact J_iret hE dd_X4_see_22 rfl rfl
theorem dd_X4_forget_0 : jd cX4_forget 0 (.iload_n 1) 1 1 := ⟨by decide +kernel, rfl⟩
theorem dd_X4_forget_1 : jd cX4_forget 1 (.iconst 0) 1 2 := ⟨by decide +kernel, rfl⟩
theorem dd_X4_forget_2 : jd cX4_forget 2 (.aload_n 0) 1 3 := ⟨by decide +kernel, rfl⟩
theorem dd_X4_forget_3 : jd cX4_forget 3 (.getfield 19) 3 6 := ⟨by decide +kernel, rfl⟩
theorem dd_X4_forget_6 : jd cX4_forget 6 (.getfield 205) 3 9 := ⟨by decide +kernel, rfl⟩
theorem dd_X4_forget_9 : jd cX4_forget 9 (.invokestatic 44) 3 12 := ⟨by decide +kernel, rfl⟩
theorem dd_X4_forget_17 : jd cX4_forget 17 (.aload_n 0) 1 18 := ⟨by decide +kernel, rfl⟩
theorem dd_X4_forget_18 : jd cX4_forget 18 (.getfield 19) 3 21 := ⟨by decide +kernel, rfl⟩
theorem dd_X4_forget_21 : jd cX4_forget 21 (.getfield 205) 3 24 := ⟨by decide +kernel, rfl⟩
theorem dd_X4_forget_24 : jd cX4_forget 24 (.istore_n 2) 1 25 := ⟨by decide +kernel, rfl⟩
theorem dd_X4_forget_25 : jd cX4_forget 25 (.aload_n 0) 1 26 := ⟨by decide +kernel, rfl⟩
theorem dd_X4_forget_26 : jd cX4_forget 26 (.getfield 19) 3 29 := ⟨by decide +kernel, rfl⟩
theorem dd_X4_forget_29 : jd cX4_forget 29 (.iload_n 1) 1 30 := ⟨by decide +kernel, rfl⟩
theorem dd_X4_forget_30 : jd cX4_forget 30 (.putfield 205) 3 33 := ⟨by decide +kernel, rfl⟩
theorem dd_X4_forget_33 : jd cX4_forget 33 (.iload_n 2) 1 34 := ⟨by decide +kernel, rfl⟩
theorem dd_X4_forget_34 : jd cX4_forget 34 (.ireturn) 1 35 := ⟨by decide +kernel, rfl⟩
theorem dd_X4_forget_15 : jd cX4_forget 15 (.iconst (-1)) 1 16 := ⟨by decide +kernel, rfl⟩
theorem dd_X4_forget_16 : jd cX4_forget 16 (.ireturn) 1 17 := ⟨by decide +kernel, rfl⟩
theorem dd_X4_forget_12 : jd cX4_forget 12 (.ifCond .ne 5) 3 15 := ⟨by decide +kernel, rfl⟩
theorem m_X4_forget : jmV yX4_forget cX4_forget 3 (some .int) 1 := ⟨⟨(jj_m (w := Cond.code yX4_forget cX4_forget 3 (some .int)) (List.mem_of_getElem? (i := 692) (by decide +kernel)) rfl), (jj_m (w := Cond.initialized yX4_forget.cls) (List.mem_of_getElem? (i := 64) (by decide +kernel)) rfl), ⟨by decide, by decide⟩, by decide +kernel⟩, (jj_m (w := Cond.instanceMethod yX4_forget) (List.mem_of_getElem? (i := 690) (by decide +kernel)) rfl), (jj_m (w := Cond.selects yX4_forget.cls yX4_forget yX4_forget) (List.mem_of_getElem? (i := 691) (by decide +kernel)) rfl)⟩
def fX4_forget (i1 : Int32) (X : M3) : Option (Int32 × M3) :=
  (fX4_within i1 (0 : Int32) ((X 2) 15 0)).bind fun r1 =>
  if r1 = 0 then
    some ((-1 : Int32), X)
  else
    lt (((X 2) 15 0)) fun x2 =>
    lt ((va_up X 2 (va_up (X 2) 15 (fun _ => i1)))) fun X3 =>
    some (x2, X3)

set_option maxHeartbeats 4000000 in
set_option maxRecDepth 100000 in
theorem tX4_forget (l : Launch) {V : JV M3} {ob : Nat → Nat} {aa : Nat → Nat → Nat} (hX : vX4 V ob aa) (X : M3) (i1 : Int32) : JC l V yX4_forget cX4_forget 3 (some .int) jj_i 1 [.ref (ob 0), .int i1] X ((fX4_forget i1 X).map (fun q => (q.1, q.2))) := by
  refine jj_of (by decide) (Nat.le_of_ble_eq_true rfl) (fun E hlE hE => ?_)
  unfold fX4_forget
  refine J_sub (L' := [(0, .ref (ob 0)), (1, .int i1)]) [0, 1] rfl ?_
  refine J_iload_n hE dd_X4_forget_0 1 rfl rfl ?_
  refine J_iconst hE (v := (0 : Int32)) dd_X4_forget_1 (by decide) ?_
  refine J_aload_n hE dd_X4_forget_2 0 rfl rfl ?_
  refine J_get hE (hX.rt.ob _) jc_X4 1 (by decide) fl_RX4_19 (v := .ref (ob 2)) rfl dd_X4_forget_3 ?_
  refine J_get hE ((hX.sh sh2).ob _) jc_X1 15 (by decide) fl_RX4_205 (v := .int ((X 2) 15 0)) rfl dd_X4_forget_6 ?_
  refine J_invSri hE (As := [.int i1, .int (0 : Int32), .int ((X 2) 15 0)]) (st := []) (tX4_within E.2.1 V X i1 (0 : Int32) ((X 2) 15 0)) m_X4_within s_X4_within rfl ml_RX4_44 (Nat.le_of_ble_eq_true rfl) (Nat.le_of_ble_eq_true rfl) rfl (Nat.le_of_ble_eq_true rfl) dd_X4_forget_9 (fun r1 => ?_)
  refine J_if_ne hE (tgt := 17) dd_X4_forget_12 (by decide) (fun c4 => ?_) (fun c4 => ?_)
  · refine J_aload_n hE dd_X4_forget_17 0 rfl rfl ?_
    refine J_get hE (hX.rt.ob _) jc_X4 1 (by decide) fl_RX4_19 (v := .ref (ob 2)) rfl dd_X4_forget_18 ?_
    refine J_get hE ((hX.sh sh2).ob _) jc_X1 15 (by decide) fl_RX4_205 (v := .int ((X 2) 15 0)) rfl dd_X4_forget_21 ?_
    refine J_leti (fun x2 => ?_)
    refine J_istore_n hE (L' := [(2, .int x2), (0, .ref (ob 0)), (1, .int i1)]) dd_X4_forget_24 (Nat.le_of_ble_eq_true rfl) rfl rfl ?_
    refine J_aload_n hE dd_X4_forget_25 1 rfl rfl ?_
    refine J_get hE (hX.rt.ob _) jc_X4 1 (by decide) fl_RX4_19 (v := .ref (ob 2)) rfl dd_X4_forget_26 ?_
    refine J_iload_n hE dd_X4_forget_29 2 rfl rfl ?_
    refine J_put hE (hX.sh sh2) jc_X1 15 (by decide) (by decide) fl_RX4_205 rfl rfl rfl (Nat.le_of_ble_eq_true rfl) dd_X4_forget_30 ?_
    refine J_letS (fun X3 => ?_)
    refine J_iload_n hE dd_X4_forget_33 0 rfl rfl ?_
    exact J_iret hE dd_X4_forget_34 rfl rfl
  · refine J_iconst hE (v := (-1 : Int32)) dd_X4_forget_15 (by decide) ?_
    exact J_iret hE dd_X4_forget_16 rfl rfl
theorem dd_X4_tastes_0 : jd cX4_tastes 0 (.aload_n 0) 1 1 := ⟨by decide +kernel, rfl⟩
theorem dd_X4_tastes_1 : jd cX4_tastes 1 (.getfield 19) 3 4 := ⟨by decide +kernel, rfl⟩
theorem dd_X4_tastes_4 : jd cX4_tastes 4 (.iload_n 1) 1 5 := ⟨by decide +kernel, rfl⟩
theorem dd_X4_tastes_5 : jd cX4_tastes 5 (.invokevirtual 115) 3 8 := ⟨by decide +kernel, rfl⟩
theorem dd_X4_tastes_13 : jd cX4_tastes 13 (.iconst 0) 1 14 := ⟨by decide +kernel, rfl⟩
theorem dd_X4_tastes_14 : jd cX4_tastes 14 (.istore_n 2) 1 15 := ⟨by decide +kernel, rfl⟩
theorem dd_X4_tastes_15 : jd cX4_tastes 15 (.iconst 0) 1 16 := ⟨by decide +kernel, rfl⟩
theorem dd_X4_tastes_16 : jd cX4_tastes 16 (.istore_n 3) 1 17 := ⟨by decide +kernel, rfl⟩
theorem dd_X4_tastes_17 : jd cX4_tastes 17 (.iload_n 3) 1 18 := ⟨by decide +kernel, rfl⟩
theorem dd_X4_tastes_18 : jd cX4_tastes 18 (.iconst 5) 1 19 := ⟨by decide +kernel, rfl⟩
theorem dd_X4_tastes_22 : jd cX4_tastes 22 (.aload_n 0) 1 23 := ⟨by decide +kernel, rfl⟩
theorem dd_X4_tastes_23 : jd cX4_tastes 23 (.getfield 23) 3 26 := ⟨by decide +kernel, rfl⟩
theorem dd_X4_tastes_26 : jd cX4_tastes 26 (.aload_n 0) 1 27 := ⟨by decide +kernel, rfl⟩
theorem dd_X4_tastes_27 : jd cX4_tastes 27 (.getfield 19) 3 30 := ⟨by decide +kernel, rfl⟩
theorem dd_X4_tastes_30 : jd cX4_tastes 30 (.invokevirtual 66) 3 33 := ⟨by decide +kernel, rfl⟩
theorem dd_X4_tastes_33 : jd cX4_tastes 33 (.aload_n 0) 1 34 := ⟨by decide +kernel, rfl⟩
theorem dd_X4_tastes_34 : jd cX4_tastes 34 (.getfield 23) 3 37 := ⟨by decide +kernel, rfl⟩
theorem fl_RX4_214 : (Cond.fieldLink "MothCustoms" 214 "MothCustoms$Shed" "taste" "[I" : Cond) ∈ jj_tb := jj_m (List.mem_of_getElem? (i := 160) (by decide +kernel)) rfl
theorem dd_X4_tastes_37 : jd cX4_tastes 37 (.getfield 214) 3 40 := ⟨by decide +kernel, rfl⟩
theorem dd_X4_tastes_40 : jd cX4_tastes 40 (.iload_n 1) 1 41 := ⟨by decide +kernel, rfl⟩
theorem dd_X4_tastes_41 : jd cX4_tastes 41 (.iload_n 3) 1 42 := ⟨by decide +kernel, rfl⟩
theorem dd_X4_tastes_42 : jd cX4_tastes 42 (.iastore) 1 43 := ⟨by decide +kernel, rfl⟩
theorem dd_X4_tastes_43 : jd cX4_tastes 43 (.aload_n 0) 1 44 := ⟨by decide +kernel, rfl⟩
theorem dd_X4_tastes_44 : jd cX4_tastes 44 (.getfield 23) 3 47 := ⟨by decide +kernel, rfl⟩
theorem dd_X4_tastes_47 : jd cX4_tastes 47 (.bipush 15) 2 49 := ⟨by decide +kernel, rfl⟩
theorem dd_X4_tastes_49 : jd cX4_tastes 49 (.invokevirtual 192) 3 52 := ⟨by decide +kernel, rfl⟩
theorem dd_X4_tastes_52 : jd cX4_tastes 52 (.aload_n 0) 1 53 := ⟨by decide +kernel, rfl⟩
theorem dd_X4_tastes_53 : jd cX4_tastes 53 (.getfield 23) 3 56 := ⟨by decide +kernel, rfl⟩
theorem dd_X4_tastes_56 : jd cX4_tastes 56 (.iconst 0) 1 57 := ⟨by decide +kernel, rfl⟩
theorem ml_RX4_217 : (Cond.methodLink "MothCustoms" 217 yX1_isAsSeen : Cond) ∈ jj_tb := jj_m (List.mem_of_getElem? (i := 697) (by decide +kernel)) rfl
theorem dd_X4_tastes_57 : jd cX4_tastes 57 (.invokevirtual 217) 3 60 := ⟨by decide +kernel, rfl⟩
theorem dd_X4_tastes_63 : jd cX4_tastes 63 (.iload_n 2) 1 64 := ⟨by decide +kernel, rfl⟩
theorem dd_X4_tastes_64 : jd cX4_tastes 64 (.iconst 1) 1 65 := ⟨by decide +kernel, rfl⟩
theorem dd_X4_tastes_65 : jd cX4_tastes 65 (.iload_n 3) 1 66 := ⟨by decide +kernel, rfl⟩
theorem dd_X4_tastes_66 : jd cX4_tastes 66 (.ishl) 1 67 := ⟨by decide +kernel, rfl⟩
theorem dd_X4_tastes_67 : jd cX4_tastes 67 (.ior) 1 68 := ⟨by decide +kernel, rfl⟩
theorem dd_X4_tastes_68 : jd cX4_tastes 68 (.istore_n 2) 1 69 := ⟨by decide +kernel, rfl⟩
theorem dd_X4_tastes_60 : jd cX4_tastes 60 (.ifCond .eq 9) 3 63 := ⟨by decide +kernel, rfl⟩
theorem dd_X4_tastes_69 : jd cX4_tastes 69 (.iinc 3 1) 3 72 := ⟨by decide +kernel, rfl⟩
theorem dd_X4_tastes_72 : jd cX4_tastes 72 (.goto (-55)) 3 75 := ⟨by decide +kernel, rfl⟩
theorem dd_X4_tastes_19 : jd cX4_tastes 19 (.if_icmp .gt 56) 3 22 := ⟨by decide +kernel, rfl⟩
theorem dd_X4_tastes_75 : jd cX4_tastes 75 (.iload_n 2) 1 76 := ⟨by decide +kernel, rfl⟩
theorem dd_X4_tastes_76 : jd cX4_tastes 76 (.ireturn) 1 77 := ⟨by decide +kernel, rfl⟩
theorem dd_X4_tastes_11 : jd cX4_tastes 11 (.iconst (-1)) 1 12 := ⟨by decide +kernel, rfl⟩
theorem dd_X4_tastes_12 : jd cX4_tastes 12 (.ireturn) 1 13 := ⟨by decide +kernel, rfl⟩
theorem dd_X4_tastes_8 : jd cX4_tastes 8 (.ifCond .ne 5) 3 11 := ⟨by decide +kernel, rfl⟩
theorem m_X4_tastes : jmV yX4_tastes cX4_tastes 4 (some .int) 1 := ⟨⟨(jj_m (w := Cond.code yX4_tastes cX4_tastes 4 (some .int)) (List.mem_of_getElem? (i := 696) (by decide +kernel)) rfl), (jj_m (w := Cond.initialized yX4_tastes.cls) (List.mem_of_getElem? (i := 64) (by decide +kernel)) rfl), ⟨by decide, by decide⟩, by decide +kernel⟩, (jj_m (w := Cond.instanceMethod yX4_tastes) (List.mem_of_getElem? (i := 694) (by decide +kernel)) rfl), (jj_m (w := Cond.selects yX4_tastes.cls yX4_tastes yX4_tastes) (List.mem_of_getElem? (i := 695) (by decide +kernel)) rfl)⟩
def fX4_tastes_L17 (i1 : Int32) (k75 : (Int32 × M3) → Option (Int32 × M3)) : Nat → Int32 → Int32 → M3 → Option (Int32 × M3)
  | 0, _, _, _ => none
  | n_ + 1, v2, v3, X4 =>
    if (5 : Int32) < v3 then
      k75 (v2, X4)
    else
      (fX1_copyFrom  (X4 3) (X4 2)).bind fun q5 =>
      lt ((va_up X4 3 q5)) fun X6 =>
      bnd i1 4 <|
      lt ((va_up X6 3 (va_up (X6 3) 9 (upd ((X6 3) 9) i1.toNatClampNeg v3)))) fun X7 =>
      (fX1_letLoose (15 : Int32) (X7 3)).bind fun q8 =>
      lt ((va_up X7 3 q8)) fun X9 =>
      (fX1_isAsSeen (0 : Int32) (X9 3)).bind fun r10 =>
      jn (α := Option (Int32 × M3)) (β := Int32) (fun j11 =>
        if r10 = 0 then
          j11 v2
        else
          lt ((v2 ||| ((1 : Int32) <<< (v3 &&& 31)))) fun x12 =>
          j11 x12) (fun p14 => 
        lt (v3 + (1 : Int32)) fun x15 =>
        fX4_tastes_L17 i1 k75 n_ p14 x15 X9)

def fX4_tastes (i1 : Int32) (X : M3) : Option (Int32 × M3) :=
  (fX1_hasMoth i1 (X 2)).bind fun r1 =>
  if r1 = 0 then
    some ((-1 : Int32), X)
  else
    fX4_tastes_L17 i1
      (fun p17 =>
        some (p17.1, p17.2))
      400 (0 : Int32) (0 : Int32) X

set_option maxHeartbeats 4000000 in
set_option maxRecDepth 100000 in
theorem tX4_tastes_L17 {V : JV M3} {ob : Nat → Nat} {aa : Nat → Nat → Nat} (hX : vX4 V ob aa) (i1 : Int32) {E : JE (M3) Int32} (hE : JOk V E cX4_tastes yX4_tastes.cls 4 4 (some .int) jj_i) {k75 : (Int32 × M3) → Option (Int32 × M3)} (hk75 : ∀ p, J V E (fun q => (q.1, q.2)) (k75 p) 75 [(2, .int p.1)] [] p.2) : ∀ (n_ : Nat) (v2 : Int32) (v3 : Int32) (X4 : M3), J V E (fun q => (q.1, q.2)) (fX4_tastes_L17 i1 k75 n_ v2 v3 X4) 17 [(0, .ref (ob 0)), (1, .int i1), (2, .int v2), (3, .int v3)] [] X4 := by
  intro n_
  induction n_ with
  | zero =>
    intros
    exact J_none
  | succ n_ ih =>
    intros v2 v3 X4
    rw [fX4_tastes_L17]
    refine J_iload_n hE dd_X4_tastes_17 3 rfl rfl ?_
    refine J_iconst hE (v := (5 : Int32)) dd_X4_tastes_18 (by decide) ?_
    refine J_icmp_gt hE (tgt := 75) dd_X4_tastes_19 (by decide) (fun c16 => ?_) (fun c16 => ?_)
    · refine J_sub [2] rfl ?_
      exact hk75 (v2, X4)
    · refine J_aload_n hE dd_X4_tastes_22 0 rfl rfl ?_
      refine J_get hE (hX.rt.ob _) jc_X4 2 (by decide) fl_RX4_23 (v := .ref (ob 3)) rfl dd_X4_tastes_23 ?_
      refine J_aload_n hE dd_X4_tastes_26 0 rfl rfl ?_
      refine J_get hE (hX.rt.ob _) jc_X4 1 (by decide) fl_RX4_19 (v := .ref (ob 2)) rfl dd_X4_tastes_27 ?_
      refine J_invVwv hE (e := fun S => va_up X4 3 S) (As := [.ref (ob 2)]) (st := []) (JC.lift_v (e := fun S => va_up X4 3 S) (tX1_copyFrom E.2.1 (hX.shS X4 sh3) (hX.shR X4 3 sh2 (by decide)) (X4 3) ) (va_up_eta _ _)) ((hX.sh sh3).ob _) m_X1_copyFrom rfl ml_RX4_66 (Nat.le_of_ble_eq_true rfl) (Nat.le_of_ble_eq_true rfl) rfl (Nat.le_of_ble_eq_true rfl) dd_X4_tastes_30 (fun q5 => ?_)
      refine J_letS (fun X6 => ?_)
      refine J_aload_n hE dd_X4_tastes_33 0 rfl rfl ?_
      refine J_get hE (hX.rt.ob _) jc_X4 2 (by decide) fl_RX4_23 (v := .ref (ob 3)) rfl dd_X4_tastes_34 ?_
      refine J_get hE ((hX.sh sh3).ob _) jc_X1 9 (by decide) fl_RX4_214 (v := .ref ((aa 3) 9)) rfl dd_X4_tastes_37 ?_
      refine J_iload_n hE dd_X4_tastes_40 1 rfl rfl ?_
      refine J_iload_n hE dd_X4_tastes_41 3 rfl rfl ?_
      refine J_ast hE (hX.sh sh3) 9 (N := 4) (by decide) dd_X4_tastes_42 ?_
      refine J_letS (fun X7 => ?_)
      refine J_aload_n hE dd_X4_tastes_43 0 rfl rfl ?_
      refine J_get hE (hX.rt.ob _) jc_X4 2 (by decide) fl_RX4_23 (v := .ref (ob 3)) rfl dd_X4_tastes_44 ?_
      refine J_bipush hE (v := (15 : Int32)) dd_X4_tastes_47 (by decide) ?_
      refine J_invVwv hE (e := fun S => va_up X7 3 S) (As := [.int (15 : Int32)]) (st := []) (JC.lift_v (e := fun S => va_up X7 3 S) (tX1_letLoose E.2.1 (hX.shS X7 sh3) (X7 3) (15 : Int32)) (va_up_eta _ _)) ((hX.sh sh3).ob _) m_X1_letLoose rfl ml_RX4_192 (Nat.le_of_ble_eq_true rfl) (Nat.le_of_ble_eq_true rfl) rfl (Nat.le_of_ble_eq_true rfl) dd_X4_tastes_49 (fun q8 => ?_)
      refine J_letS (fun X9 => ?_)
      refine J_aload_n hE dd_X4_tastes_52 0 rfl rfl ?_
      refine J_get hE (hX.rt.ob _) jc_X4 2 (by decide) fl_RX4_23 (v := .ref (ob 3)) rfl dd_X4_tastes_53 ?_
      refine J_iconst hE (v := (0 : Int32)) dd_X4_tastes_56 (by decide) ?_
      refine J_invVri hE (As := [.int (0 : Int32)]) (st := []) (JC.lift_r (e := fun S => va_up X9 3 S) (tX1_isAsSeen E.2.1 (hX.shS X9 sh3) (X9 3) (0 : Int32)) (va_up_eta _ _)) ((hX.sh sh3).ob _) m_X1_isAsSeen rfl ml_RX4_217 (Nat.le_of_ble_eq_true rfl) (Nat.le_of_ble_eq_true rfl) rfl (Nat.le_of_ble_eq_true rfl) dd_X4_tastes_57 (fun r10 => ?_)
      refine J_jn (m := 69) (Lf := fun p14 => [(0, .ref (ob 0)), (1, .int i1), (2, .int p14), (3, .int v3)]) (sf := fun p14 => []) (Xf := fun p14 => X9) (fun p14 => ?_) (fun hj11 => ?_)
      · show J V E _ _ 69 [(0, .ref (ob 0)), (1, .int i1), (2, .int p14), (3, .int v3)] [] X9
        refine J_iincL hE (v := (v3 + (1 : Int32))) (Lf := fun x15 => [(3, .int x15), (0, .ref (ob 0)), (1, .int i1), (2, .int p14)]) dd_X4_tastes_69 (j := 3) rfl (congrArg (v3 + ·) (by decide)) (Nat.le_of_ble_eq_true rfl) (fun _ => rfl) (fun x15 => ?_)
        refine J_goto hE (tgt := 17) dd_X4_tastes_72 (by decide) ?_
        refine J_sub [1, 2, 3, 0] rfl ?_
        exact ih p14 x15 X9
      · refine J_if_eq hE (tgt := 69) dd_X4_tastes_60 (by decide) (fun c13 => ?_) (fun c13 => ?_)
        · refine J_sub [0, 1, 2, 3] rfl ?_
          exact hj11 v2
        · refine J_iload_n hE dd_X4_tastes_63 2 rfl rfl ?_
          refine J_iconst hE (v := (1 : Int32)) dd_X4_tastes_64 (by decide) ?_
          refine J_iload_n hE dd_X4_tastes_65 3 rfl rfl ?_
          refine J_ishl hE dd_X4_tastes_66 ?_
          refine J_ior hE dd_X4_tastes_67 ?_
          refine J_leti (fun x12 => ?_)
          refine J_istore_n hE (L' := [(2, .int x12), (0, .ref (ob 0)), (1, .int i1), (3, .int v3)]) dd_X4_tastes_68 (Nat.le_of_ble_eq_true rfl) rfl rfl ?_
          refine J_sub [1, 2, 0, 3] rfl ?_
          exact hj11 x12
set_option maxHeartbeats 4000000 in
set_option maxRecDepth 100000 in
theorem tX4_tastes (l : Launch) {V : JV M3} {ob : Nat → Nat} {aa : Nat → Nat → Nat} (hX : vX4 V ob aa) (X : M3) (i1 : Int32) : JC l V yX4_tastes cX4_tastes 4 (some .int) jj_i 4 [.ref (ob 0), .int i1] X ((fX4_tastes i1 X).map (fun q => (q.1, q.2))) := by
  refine jj_of (by decide) (Nat.le_of_ble_eq_true rfl) (fun E hlE hE => ?_)
  unfold fX4_tastes
  refine J_sub (L' := [(0, .ref (ob 0)), (1, .int i1)]) [0, 1] rfl ?_
  refine J_aload_n hE dd_X4_tastes_0 0 rfl rfl ?_
  refine J_get hE (hX.rt.ob _) jc_X4 1 (by decide) fl_RX4_19 (v := .ref (ob 2)) rfl dd_X4_tastes_1 ?_
  refine J_iload_n hE dd_X4_tastes_4 1 rfl rfl ?_
  refine J_invVri hE (As := [.int i1]) (st := []) (JC.lift_r (e := fun S => va_up X 2 S) (tX1_hasMoth E.2.1 (hX.shS X sh2) (X 2) i1) (va_up_eta _ _)) ((hX.sh sh2).ob _) m_X1_hasMoth rfl ml_RX4_115 (Nat.le_of_ble_eq_true rfl) (Nat.le_of_ble_eq_true rfl) rfl (Nat.le_of_ble_eq_true rfl) dd_X4_tastes_5 (fun r1 => ?_)
  refine J_if_ne hE (tgt := 13) dd_X4_tastes_8 (by decide) (fun c18 => ?_) (fun c18 => ?_)
  · refine J_iconst hE (v := (0 : Int32)) dd_X4_tastes_13 (by decide) ?_
    refine J_istore_n hE (L' := [(2, .int (0 : Int32)), (0, .ref (ob 0)), (1, .int i1)]) dd_X4_tastes_14 (Nat.le_of_ble_eq_true rfl) rfl rfl ?_
    refine J_iconst hE (v := (0 : Int32)) dd_X4_tastes_15 (by decide) ?_
    refine J_istore_n hE (L' := [(3, .int (0 : Int32)), (2, .int (0 : Int32)), (0, .ref (ob 0)), (1, .int i1)]) dd_X4_tastes_16 (Nat.le_of_ble_eq_true rfl) rfl rfl ?_
    refine J_sub [2, 3, 1, 0] rfl ?_
    refine tX4_tastes_L17 hX i1 hE (fun p17 => ?_) 400 (0 : Int32) (0 : Int32) X
    show J V E _ _ 75 [(2, .int p17.1)] [] p17.2
    refine J_iload_n hE dd_X4_tastes_75 0 rfl rfl ?_
    exact J_iret hE dd_X4_tastes_76 rfl rfl
  · refine J_iconst hE (v := (-1 : Int32)) dd_X4_tastes_11 (by decide) ?_
    exact J_iret hE dd_X4_tastes_12 rfl rfl
theorem dd_X4_bought_0 : jd cX4_bought 0 (.iconst 0) 1 1 := ⟨by decide +kernel, rfl⟩
theorem dd_X4_bought_1 : jd cX4_bought 1 (.istore_n 1) 1 2 := ⟨by decide +kernel, rfl⟩
theorem dd_X4_bought_2 : jd cX4_bought 2 (.iconst 0) 1 3 := ⟨by decide +kernel, rfl⟩
theorem dd_X4_bought_3 : jd cX4_bought 3 (.istore_n 2) 1 4 := ⟨by decide +kernel, rfl⟩
theorem dd_X4_bought_4 : jd cX4_bought 4 (.iload_n 2) 1 5 := ⟨by decide +kernel, rfl⟩
theorem dd_X4_bought_5 : jd cX4_bought 5 (.aload_n 0) 1 6 := ⟨by decide +kernel, rfl⟩
theorem dd_X4_bought_6 : jd cX4_bought 6 (.getfield 19) 3 9 := ⟨by decide +kernel, rfl⟩
theorem dd_X4_bought_9 : jd cX4_bought 9 (.getfield 76) 3 12 := ⟨by decide +kernel, rfl⟩
theorem dd_X4_bought_15 : jd cX4_bought 15 (.aload_n 0) 1 16 := ⟨by decide +kernel, rfl⟩
theorem dd_X4_bought_16 : jd cX4_bought 16 (.bipush 15) 2 18 := ⟨by decide +kernel, rfl⟩
theorem dd_X4_bought_18 : jd cX4_bought 18 (.iconst 1) 1 19 := ⟨by decide +kernel, rfl⟩
theorem dd_X4_bought_19 : jd cX4_bought 19 (.iload_n 2) 1 20 := ⟨by decide +kernel, rfl⟩
theorem dd_X4_bought_20 : jd cX4_bought 20 (.ishl) 1 21 := ⟨by decide +kernel, rfl⟩
theorem dd_X4_bought_21 : jd cX4_bought 21 (.iconst (-1)) 1 22 := ⟨by decide +kernel, rfl⟩
theorem dd_X4_bought_22 : jd cX4_bought 22 (.ixor) 1 23 := ⟨by decide +kernel, rfl⟩
theorem dd_X4_bought_23 : jd cX4_bought 23 (.iand) 1 24 := ⟨by decide +kernel, rfl⟩
theorem dd_X4_bought_24 : jd cX4_bought 24 (.invokevirtual 173) 3 27 := ⟨by decide +kernel, rfl⟩
theorem dd_X4_bought_27 : jd cX4_bought 27 (.aload_n 0) 1 28 := ⟨by decide +kernel, rfl⟩
theorem dd_X4_bought_28 : jd cX4_bought 28 (.getfield 23) 3 31 := ⟨by decide +kernel, rfl⟩
theorem dd_X4_bought_31 : jd cX4_bought 31 (.iconst 0) 1 32 := ⟨by decide +kernel, rfl⟩
theorem dd_X4_bought_32 : jd cX4_bought 32 (.invokevirtual 217) 3 35 := ⟨by decide +kernel, rfl⟩
theorem dd_X4_bought_38 : jd cX4_bought 38 (.iload_n 1) 1 39 := ⟨by decide +kernel, rfl⟩
theorem dd_X4_bought_39 : jd cX4_bought 39 (.iconst 1) 1 40 := ⟨by decide +kernel, rfl⟩
theorem dd_X4_bought_40 : jd cX4_bought 40 (.iload_n 2) 1 41 := ⟨by decide +kernel, rfl⟩
theorem dd_X4_bought_41 : jd cX4_bought 41 (.ishl) 1 42 := ⟨by decide +kernel, rfl⟩
theorem dd_X4_bought_42 : jd cX4_bought 42 (.ior) 1 43 := ⟨by decide +kernel, rfl⟩
theorem dd_X4_bought_43 : jd cX4_bought 43 (.istore_n 1) 1 44 := ⟨by decide +kernel, rfl⟩
theorem dd_X4_bought_35 : jd cX4_bought 35 (.ifCond .eq 9) 3 38 := ⟨by decide +kernel, rfl⟩
theorem dd_X4_bought_44 : jd cX4_bought 44 (.iinc 2 1) 3 47 := ⟨by decide +kernel, rfl⟩
theorem dd_X4_bought_47 : jd cX4_bought 47 (.goto (-43)) 3 50 := ⟨by decide +kernel, rfl⟩
theorem dd_X4_bought_12 : jd cX4_bought 12 (.if_icmp .ge 38) 3 15 := ⟨by decide +kernel, rfl⟩
theorem dd_X4_bought_50 : jd cX4_bought 50 (.iload_n 1) 1 51 := ⟨by decide +kernel, rfl⟩
theorem dd_X4_bought_51 : jd cX4_bought 51 (.ireturn) 1 52 := ⟨by decide +kernel, rfl⟩
theorem m_X4_bought : jmV yX4_bought cX4_bought 3 (some .int) 0 := ⟨⟨(jj_m (w := Cond.code yX4_bought cX4_bought 3 (some .int)) (List.mem_of_getElem? (i := 704) (by decide +kernel)) rfl), (jj_m (w := Cond.initialized yX4_bought.cls) (List.mem_of_getElem? (i := 64) (by decide +kernel)) rfl), ⟨by decide, by decide⟩, by decide +kernel⟩, (jj_m (w := Cond.instanceMethod yX4_bought) (List.mem_of_getElem? (i := 702) (by decide +kernel)) rfl), (jj_m (w := Cond.selects yX4_bought.cls yX4_bought yX4_bought) (List.mem_of_getElem? (i := 703) (by decide +kernel)) rfl)⟩
def fX4_bought_L4  (k50 : (Int32 × M3) → Option (Int32 × M3)) : Nat → Int32 → Int32 → M3 → Option (Int32 × M3)
  | 0, _, _, _ => none
  | n_ + 1, v1, v2, X3 =>
    if ((X3 2) 7 0) ≤ v2 then
      k50 (v1, X3)
    else
      (fX4_tryNight ((15 : Int32) &&& (((1 : Int32) <<< (v2 &&& 31)) ^^^ (-1 : Int32))) X3).bind fun q4 =>
      lt (q4) fun X5 =>
      (fX1_isAsSeen (0 : Int32) (X5 3)).bind fun r6 =>
      jn (α := Option (Int32 × M3)) (β := Int32) (fun j7 =>
        if r6 = 0 then
          j7 v1
        else
          lt ((v1 ||| ((1 : Int32) <<< (v2 &&& 31)))) fun x8 =>
          j7 x8) (fun p10 => 
        lt (v2 + (1 : Int32)) fun x11 =>
        fX4_bought_L4 k50 n_ p10 x11 X5)

def fX4_bought  (X : M3) : Option (Int32 × M3) :=
  fX4_bought_L4 
    (fun p13 =>
      some (p13.1, p13.2))
    400 (0 : Int32) (0 : Int32) X

set_option maxHeartbeats 4000000 in
set_option maxRecDepth 100000 in
theorem tX4_bought_L4 {V : JV M3} {ob : Nat → Nat} {aa : Nat → Nat → Nat} (hX : vX4 V ob aa)  {E : JE (M3) Int32} (hE : JOk V E cX4_bought yX4_bought.cls 3 5 (some .int) jj_i) {k50 : (Int32 × M3) → Option (Int32 × M3)} (hk50 : ∀ p, J V E (fun q => (q.1, q.2)) (k50 p) 50 [(1, .int p.1)] [] p.2) : ∀ (n_ : Nat) (v1 : Int32) (v2 : Int32) (X3 : M3), J V E (fun q => (q.1, q.2)) (fX4_bought_L4 k50 n_ v1 v2 X3) 4 [(0, .ref (ob 0)), (1, .int v1), (2, .int v2)] [] X3 := by
  intro n_
  induction n_ with
  | zero =>
    intros
    exact J_none
  | succ n_ ih =>
    intros v1 v2 X3
    rw [fX4_bought_L4]
    refine J_iload_n hE dd_X4_bought_4 2 rfl rfl ?_
    refine J_aload_n hE dd_X4_bought_5 0 rfl rfl ?_
    refine J_get hE (hX.rt.ob _) jc_X4 1 (by decide) fl_RX4_19 (v := .ref (ob 2)) rfl dd_X4_bought_6 ?_
    refine J_get hE ((hX.sh sh2).ob _) jc_X1 7 (by decide) fl_RX4_76 (v := .int ((X3 2) 7 0)) rfl dd_X4_bought_9 ?_
    refine J_icmp_ge hE (tgt := 50) dd_X4_bought_12 (by decide) (fun c12 => ?_) (fun c12 => ?_)
    · refine J_sub [1] rfl ?_
      exact hk50 (v1, X3)
    · refine J_aload_n hE dd_X4_bought_15 0 rfl rfl ?_
      refine J_bipush hE (v := (15 : Int32)) dd_X4_bought_16 (by decide) ?_
      refine J_iconst hE (v := (1 : Int32)) dd_X4_bought_18 (by decide) ?_
      refine J_iload_n hE dd_X4_bought_19 2 rfl rfl ?_
      refine J_ishl hE dd_X4_bought_20 ?_
      refine J_iconst hE (v := (-1 : Int32)) dd_X4_bought_21 (by decide) ?_
      refine J_ixor hE dd_X4_bought_22 ?_
      refine J_iand hE dd_X4_bought_23 ?_
      refine J_invVwv hE (e := fun x => x) (As := [.int ((15 : Int32) &&& (((1 : Int32) <<< (v2 &&& 31)) ^^^ (-1 : Int32)))]) (st := []) (tX4_tryNight E.2.1 hX X3 ((15 : Int32) &&& (((1 : Int32) <<< (v2 &&& 31)) ^^^ (-1 : Int32)))) (hX.rt.ob _) m_X4_tryNight rfl ml_RX4_173 (Nat.le_of_ble_eq_true rfl) (Nat.le_of_ble_eq_true rfl) rfl (Nat.le_of_ble_eq_true rfl) dd_X4_bought_24 (fun q4 => ?_)
      refine J_letS (fun X5 => ?_)
      refine J_aload_n hE dd_X4_bought_27 0 rfl rfl ?_
      refine J_get hE (hX.rt.ob _) jc_X4 2 (by decide) fl_RX4_23 (v := .ref (ob 3)) rfl dd_X4_bought_28 ?_
      refine J_iconst hE (v := (0 : Int32)) dd_X4_bought_31 (by decide) ?_
      refine J_invVri hE (As := [.int (0 : Int32)]) (st := []) (JC.lift_r (e := fun S => va_up X5 3 S) (tX1_isAsSeen E.2.1 (hX.shS X5 sh3) (X5 3) (0 : Int32)) (va_up_eta _ _)) ((hX.sh sh3).ob _) m_X1_isAsSeen rfl ml_RX4_217 (Nat.le_of_ble_eq_true rfl) (Nat.le_of_ble_eq_true rfl) rfl (Nat.le_of_ble_eq_true rfl) dd_X4_bought_32 (fun r6 => ?_)
      refine J_jn (m := 44) (Lf := fun p10 => [(0, .ref (ob 0)), (1, .int p10), (2, .int v2)]) (sf := fun p10 => []) (Xf := fun p10 => X5) (fun p10 => ?_) (fun hj7 => ?_)
      · show J V E _ _ 44 [(0, .ref (ob 0)), (1, .int p10), (2, .int v2)] [] X5
        refine J_iincL hE (v := (v2 + (1 : Int32))) (Lf := fun x11 => [(2, .int x11), (0, .ref (ob 0)), (1, .int p10)]) dd_X4_bought_44 (j := 2) rfl (congrArg (v2 + ·) (by decide)) (Nat.le_of_ble_eq_true rfl) (fun _ => rfl) (fun x11 => ?_)
        refine J_goto hE (tgt := 4) dd_X4_bought_47 (by decide) ?_
        refine J_sub [1, 2, 0] rfl ?_
        exact ih p10 x11 X5
      · refine J_if_eq hE (tgt := 44) dd_X4_bought_35 (by decide) (fun c9 => ?_) (fun c9 => ?_)
        · refine J_sub [0, 1, 2] rfl ?_
          exact hj7 v1
        · refine J_iload_n hE dd_X4_bought_38 1 rfl rfl ?_
          refine J_iconst hE (v := (1 : Int32)) dd_X4_bought_39 (by decide) ?_
          refine J_iload_n hE dd_X4_bought_40 2 rfl rfl ?_
          refine J_ishl hE dd_X4_bought_41 ?_
          refine J_ior hE dd_X4_bought_42 ?_
          refine J_leti (fun x8 => ?_)
          refine J_istore_n hE (L' := [(1, .int x8), (0, .ref (ob 0)), (2, .int v2)]) dd_X4_bought_43 (Nat.le_of_ble_eq_true rfl) rfl rfl ?_
          refine J_sub [1, 0, 2] rfl ?_
          exact hj7 x8
set_option maxHeartbeats 4000000 in
set_option maxRecDepth 100000 in
theorem tX4_bought (l : Launch) {V : JV M3} {ob : Nat → Nat} {aa : Nat → Nat → Nat} (hX : vX4 V ob aa) (X : M3)  : JC l V yX4_bought cX4_bought 3 (some .int) jj_i 5 [.ref (ob 0)] X ((fX4_bought  X).map (fun q => (q.1, q.2))) := by
  refine jj_of (by decide) (Nat.le_of_ble_eq_true rfl) (fun E hlE hE => ?_)
  unfold fX4_bought
  refine J_sub (L' := [(0, .ref (ob 0))]) [0] rfl ?_
  refine J_iconst hE (v := (0 : Int32)) dd_X4_bought_0 (by decide) ?_
  refine J_istore_n hE (L' := [(1, .int (0 : Int32)), (0, .ref (ob 0))]) dd_X4_bought_1 (Nat.le_of_ble_eq_true rfl) rfl rfl ?_
  refine J_iconst hE (v := (0 : Int32)) dd_X4_bought_2 (by decide) ?_
  refine J_istore_n hE (L' := [(2, .int (0 : Int32)), (1, .int (0 : Int32)), (0, .ref (ob 0))]) dd_X4_bought_3 (Nat.le_of_ble_eq_true rfl) rfl rfl ?_
  refine J_sub [2, 1, 0] rfl ?_
  refine tX4_bought_L4 hX  hE (fun p13 => ?_) 400 (0 : Int32) (0 : Int32) X
  show J V E _ _ 50 [(1, .int p13.1)] [] p13.2
  refine J_iload_n hE dd_X4_bought_50 0 rfl rfl ?_
  exact J_iret hE dd_X4_bought_51 rfl rfl
theorem dd_X4_pricked_0 : jd cX4_pricked 0 (.iload_n 1) 1 1 := ⟨by decide +kernel, rfl⟩
theorem dd_X4_pricked_1 : jd cX4_pricked 1 (.iconst 0) 1 2 := ⟨by decide +kernel, rfl⟩
theorem dd_X4_pricked_2 : jd cX4_pricked 2 (.iconst 1) 1 3 := ⟨by decide +kernel, rfl⟩
theorem dd_X4_pricked_3 : jd cX4_pricked 3 (.invokestatic 44) 3 6 := ⟨by decide +kernel, rfl⟩
theorem dd_X4_pricked_11 : jd cX4_pricked 11 (.aload_n 0) 1 12 := ⟨by decide +kernel, rfl⟩
theorem dd_X4_pricked_12 : jd cX4_pricked 12 (.bipush 15) 2 14 := ⟨by decide +kernel, rfl⟩
theorem dd_X4_pricked_14 : jd cX4_pricked 14 (.invokevirtual 173) 3 17 := ⟨by decide +kernel, rfl⟩
theorem dd_X4_pricked_17 : jd cX4_pricked 17 (.iconst 0) 1 18 := ⟨by decide +kernel, rfl⟩
theorem dd_X4_pricked_18 : jd cX4_pricked 18 (.istore_n 2) 1 19 := ⟨by decide +kernel, rfl⟩
theorem dd_X4_pricked_19 : jd cX4_pricked 19 (.bipush (-4)) 2 21 := ⟨by decide +kernel, rfl⟩
theorem dd_X4_pricked_21 : jd cX4_pricked 21 (.istore_n 3) 1 22 := ⟨by decide +kernel, rfl⟩
theorem dd_X4_pricked_22 : jd cX4_pricked 22 (.iconst 0) 1 23 := ⟨by decide +kernel, rfl⟩
theorem dd_X4_pricked_23 : jd cX4_pricked 23 (.istore 4) 2 25 := ⟨by decide +kernel, rfl⟩
theorem dd_X4_pricked_25 : jd cX4_pricked 25 (.iload 4) 2 27 := ⟨by decide +kernel, rfl⟩
theorem dd_X4_pricked_27 : jd cX4_pricked 27 (.iconst 1) 1 28 := ⟨by decide +kernel, rfl⟩
theorem dd_X4_pricked_28 : jd cX4_pricked 28 (.aload_n 0) 1 29 := ⟨by decide +kernel, rfl⟩
theorem dd_X4_pricked_29 : jd cX4_pricked 29 (.getfield 19) 3 32 := ⟨by decide +kernel, rfl⟩
theorem dd_X4_pricked_32 : jd cX4_pricked 32 (.getfield 73) 3 35 := ⟨by decide +kernel, rfl⟩
theorem dd_X4_pricked_35 : jd cX4_pricked 35 (.ishl) 1 36 := ⟨by decide +kernel, rfl⟩
theorem dd_X4_pricked_39 : jd cX4_pricked 39 (.aload_n 0) 1 40 := ⟨by decide +kernel, rfl⟩
theorem dd_X4_pricked_40 : jd cX4_pricked 40 (.getfield 23) 3 43 := ⟨by decide +kernel, rfl⟩
theorem dd_X4_pricked_43 : jd cX4_pricked 43 (.iload 4) 2 45 := ⟨by decide +kernel, rfl⟩
theorem dd_X4_pricked_45 : jd cX4_pricked 45 (.invokevirtual 217) 3 48 := ⟨by decide +kernel, rfl⟩
theorem dd_X4_pricked_51 : jd cX4_pricked 51 (.iinc 2 1) 3 54 := ⟨by decide +kernel, rfl⟩
theorem dd_X4_pricked_54 : jd cX4_pricked 54 (.iload_n 3) 1 55 := ⟨by decide +kernel, rfl⟩
theorem dd_X4_pricked_55 : jd cX4_pricked 55 (.bipush (-4)) 2 57 := ⟨by decide +kernel, rfl⟩
theorem dd_X4_pricked_65 : jd cX4_pricked 65 (.iload_n 3) 1 66 := ⟨by decide +kernel, rfl⟩
theorem dd_X4_pricked_60 : jd cX4_pricked 60 (.iload 4) 2 62 := ⟨by decide +kernel, rfl⟩
theorem dd_X4_pricked_62 : jd cX4_pricked 62 (.goto 4) 3 65 := ⟨by decide +kernel, rfl⟩
theorem dd_X4_pricked_57 : jd cX4_pricked 57 (.if_icmp .ne 8) 3 60 := ⟨by decide +kernel, rfl⟩
theorem dd_X4_pricked_66 : jd cX4_pricked 66 (.istore_n 3) 1 67 := ⟨by decide +kernel, rfl⟩
theorem dd_X4_pricked_48 : jd cX4_pricked 48 (.ifCond .eq 19) 3 51 := ⟨by decide +kernel, rfl⟩
theorem dd_X4_pricked_67 : jd cX4_pricked 67 (.iinc 4 1) 3 70 := ⟨by decide +kernel, rfl⟩
theorem dd_X4_pricked_70 : jd cX4_pricked 70 (.goto (-45)) 3 73 := ⟨by decide +kernel, rfl⟩
theorem dd_X4_pricked_36 : jd cX4_pricked 36 (.if_icmp .ge 37) 3 39 := ⟨by decide +kernel, rfl⟩
theorem dd_X4_pricked_73 : jd cX4_pricked 73 (.iload_n 1) 1 74 := ⟨by decide +kernel, rfl⟩
theorem dd_X4_pricked_81 : jd cX4_pricked 81 (.iload_n 3) 1 82 := ⟨by decide +kernel, rfl⟩
theorem dd_X4_pricked_82 : jd cX4_pricked 82 (.ireturn) 1 83 := ⟨by decide +kernel, rfl⟩
theorem dd_X4_pricked_77 : jd cX4_pricked 77 (.iload_n 2) 1 78 := ⟨by decide +kernel, rfl⟩
theorem dd_X4_pricked_78 : jd cX4_pricked 78 (.goto 4) 3 81 := ⟨by decide +kernel, rfl⟩
theorem dd_X4_pricked_74 : jd cX4_pricked 74 (.ifCond .ne 7) 3 77 := ⟨by decide +kernel, rfl⟩
theorem dd_X4_pricked_9 : jd cX4_pricked 9 (.iconst (-1)) 1 10 := ⟨by decide +kernel, rfl⟩
theorem dd_X4_pricked_10 : jd cX4_pricked 10 (.ireturn) 1 11 := ⟨by decide +kernel, rfl⟩
theorem dd_X4_pricked_6 : jd cX4_pricked 6 (.ifCond .ne 5) 3 9 := ⟨by decide +kernel, rfl⟩
theorem m_X4_pricked : jmV yX4_pricked cX4_pricked 5 (some .int) 1 := ⟨⟨(jj_m (w := Cond.code yX4_pricked cX4_pricked 5 (some .int)) (List.mem_of_getElem? (i := 708) (by decide +kernel)) rfl), (jj_m (w := Cond.initialized yX4_pricked.cls) (List.mem_of_getElem? (i := 64) (by decide +kernel)) rfl), ⟨by decide, by decide⟩, by decide +kernel⟩, (jj_m (w := Cond.instanceMethod yX4_pricked) (List.mem_of_getElem? (i := 706) (by decide +kernel)) rfl), (jj_m (w := Cond.selects yX4_pricked.cls yX4_pricked yX4_pricked) (List.mem_of_getElem? (i := 707) (by decide +kernel)) rfl)⟩
def fX4_pricked_L25 (i1 : Int32) (X3 : M3) (k73 : (Int32 × Int32) → Option (Int32 × M3)) : Nat → Int32 → Int32 → Int32 → Option (Int32 × M3)
  | 0, _, _, _ => none
  | n_ + 1, v4, v5, v6 =>
    if ((1 : Int32) <<< (((X3 2) 0 0) &&& 31)) ≤ v6 then
      k73 (v4, v5)
    else
      (fX1_isAsSeen v6 (X3 3)).bind fun r7 =>
      jn (α := Option (Int32 × M3)) (β := Int32 × Int32) (fun j8 =>
        if r7 = 0 then
          j8 (v4, v5)
        else
          lt (v4 + (1 : Int32)) fun x9 =>
          jn (α := Option (Int32 × M3)) (β := Int32) (fun j10 =>
            if v5 = (-4 : Int32) then
              j10 v6
            else
              j10 v5) (fun p12 => 
            j8 (x9, p12))) (fun p14 => 
        lt (v6 + (1 : Int32)) fun x15 =>
        fX4_pricked_L25 i1 X3 k73 n_ p14.1 p14.2 x15)

def fX4_pricked (i1 : Int32) (X : M3) : Option (Int32 × M3) :=
  (fX4_within i1 (0 : Int32) (1 : Int32)).bind fun r1 =>
  if r1 = 0 then
    some ((-1 : Int32), X)
  else
    (fX4_tryNight (15 : Int32) X).bind fun q2 =>
    lt (q2) fun X3 =>
    fX4_pricked_L25 i1 X3
      (fun p17 =>
        if i1 = 0 then
          some (p17.1, X3)
        else
          some (p17.2, X3))
      400 (0 : Int32) (-4 : Int32) (0 : Int32)

set_option maxHeartbeats 4000000 in
set_option maxRecDepth 100000 in
theorem tX4_pricked_L25 {V : JV M3} {ob : Nat → Nat} {aa : Nat → Nat → Nat} (hX : vX4 V ob aa) (i1 : Int32) (X3 : M3) {E : JE (M3) Int32} (hE : JOk V E cX4_pricked yX4_pricked.cls 5 5 (some .int) jj_i) {k73 : (Int32 × Int32) → Option (Int32 × M3)} (hk73 : ∀ p, J V E (fun q => (q.1, q.2)) (k73 p) 73 [(1, .int i1), (2, .int p.1), (3, .int p.2)] [] X3) : ∀ (n_ : Nat) (v4 : Int32) (v5 : Int32) (v6 : Int32), J V E (fun q => (q.1, q.2)) (fX4_pricked_L25 i1 X3 k73 n_ v4 v5 v6) 25 [(0, .ref (ob 0)), (1, .int i1), (2, .int v4), (3, .int v5), (4, .int v6)] [] X3 := by
  intro n_
  induction n_ with
  | zero =>
    intros
    exact J_none
  | succ n_ ih =>
    intros v4 v5 v6
    rw [fX4_pricked_L25]
    refine J_iload hE dd_X4_pricked_25 4 rfl ?_
    refine J_iconst hE (v := (1 : Int32)) dd_X4_pricked_27 (by decide) ?_
    refine J_aload_n hE dd_X4_pricked_28 0 rfl rfl ?_
    refine J_get hE (hX.rt.ob _) jc_X4 1 (by decide) fl_RX4_19 (v := .ref (ob 2)) rfl dd_X4_pricked_29 ?_
    refine J_get hE ((hX.sh sh2).ob _) jc_X1 0 (by decide) fl_RX4_73 (v := .int ((X3 2) 0 0)) rfl dd_X4_pricked_32 ?_
    refine J_ishl hE dd_X4_pricked_35 ?_
    refine J_icmp_ge hE (tgt := 73) dd_X4_pricked_36 (by decide) (fun c16 => ?_) (fun c16 => ?_)
    · refine J_sub [1, 2, 3] rfl ?_
      exact hk73 (v4, v5)
    · refine J_aload_n hE dd_X4_pricked_39 0 rfl rfl ?_
      refine J_get hE (hX.rt.ob _) jc_X4 2 (by decide) fl_RX4_23 (v := .ref (ob 3)) rfl dd_X4_pricked_40 ?_
      refine J_iload hE dd_X4_pricked_43 4 rfl ?_
      refine J_invVri hE (As := [.int v6]) (st := []) (JC.lift_r (e := fun S => va_up X3 3 S) (tX1_isAsSeen E.2.1 (hX.shS X3 sh3) (X3 3) v6) (va_up_eta _ _)) ((hX.sh sh3).ob _) m_X1_isAsSeen rfl ml_RX4_217 (Nat.le_of_ble_eq_true rfl) (Nat.le_of_ble_eq_true rfl) rfl (Nat.le_of_ble_eq_true rfl) dd_X4_pricked_45 (fun r7 => ?_)
      refine J_jn (m := 67) (Lf := fun p14 => [(0, .ref (ob 0)), (1, .int i1), (2, .int p14.1), (3, .int p14.2), (4, .int v6)]) (sf := fun p14 => []) (Xf := fun p14 => X3) (fun p14 => ?_) (fun hj8 => ?_)
      · show J V E _ _ 67 [(0, .ref (ob 0)), (1, .int i1), (2, .int p14.1), (3, .int p14.2), (4, .int v6)] [] X3
        refine J_iincL hE (v := (v6 + (1 : Int32))) (Lf := fun x15 => [(4, .int x15), (0, .ref (ob 0)), (1, .int i1), (2, .int p14.1), (3, .int p14.2)]) dd_X4_pricked_67 (j := 4) rfl (congrArg (v6 + ·) (by decide)) (Nat.le_of_ble_eq_true rfl) (fun _ => rfl) (fun x15 => ?_)
        refine J_goto hE (tgt := 25) dd_X4_pricked_70 (by decide) ?_
        refine J_sub [1, 2, 3, 4, 0] rfl ?_
        exact ih p14.1 p14.2 x15
      · refine J_if_eq hE (tgt := 67) dd_X4_pricked_48 (by decide) (fun c13 => ?_) (fun c13 => ?_)
        · refine J_sub [0, 1, 2, 3, 4] rfl ?_
          exact hj8 (v4, v5)
        · refine J_iincL hE (v := (v4 + (1 : Int32))) (Lf := fun x9 => [(2, .int x9), (0, .ref (ob 0)), (1, .int i1), (3, .int v5), (4, .int v6)]) dd_X4_pricked_51 (j := 2) rfl (congrArg (v4 + ·) (by decide)) (Nat.le_of_ble_eq_true rfl) (fun _ => rfl) (fun x9 => ?_)
          refine J_iload_n hE dd_X4_pricked_54 3 rfl rfl ?_
          refine J_bipush hE (v := (-4 : Int32)) dd_X4_pricked_55 (by decide) ?_
          refine J_jn (m := 66) (Lf := fun p12 => [(0, .ref (ob 0)), (1, .int i1), (2, .int x9), (4, .int v6)]) (sf := fun p12 => [.int p12]) (Xf := fun p12 => X3) (fun p12 => ?_) (fun hj10 => ?_)
          · show J V E _ _ 66 [(0, .ref (ob 0)), (1, .int i1), (2, .int x9), (4, .int v6)] [.int p12] X3
            refine J_istore_n hE (L' := [(3, .int p12), (0, .ref (ob 0)), (1, .int i1), (2, .int x9), (4, .int v6)]) dd_X4_pricked_66 (Nat.le_of_ble_eq_true rfl) rfl rfl ?_
            refine J_sub [1, 2, 3, 0, 4] rfl ?_
            exact hj8 (x9, p12)
          · refine J_icmp_ne hE (tgt := 65) dd_X4_pricked_57 (by decide) (fun c11 => ?_) (fun c11 => ?_)
            · refine J_iload_n hE dd_X4_pricked_65 3 rfl rfl ?_
              refine J_sub [1, 2, 0, 4] rfl ?_
              exact hj10 v5
            · refine J_iload hE dd_X4_pricked_60 4 rfl ?_
              refine J_goto hE (tgt := 66) dd_X4_pricked_62 (by decide) ?_
              refine J_sub [1, 2, 0, 4] rfl ?_
              exact hj10 v6
set_option maxHeartbeats 4000000 in
set_option maxRecDepth 100000 in
theorem tX4_pricked (l : Launch) {V : JV M3} {ob : Nat → Nat} {aa : Nat → Nat → Nat} (hX : vX4 V ob aa) (X : M3) (i1 : Int32) : JC l V yX4_pricked cX4_pricked 5 (some .int) jj_i 5 [.ref (ob 0), .int i1] X ((fX4_pricked i1 X).map (fun q => (q.1, q.2))) := by
  refine jj_of (by decide) (Nat.le_of_ble_eq_true rfl) (fun E hlE hE => ?_)
  unfold fX4_pricked
  refine J_sub (L' := [(0, .ref (ob 0)), (1, .int i1)]) [0, 1] rfl ?_
  refine J_iload_n hE dd_X4_pricked_0 1 rfl rfl ?_
  refine J_iconst hE (v := (0 : Int32)) dd_X4_pricked_1 (by decide) ?_
  refine J_iconst hE (v := (1 : Int32)) dd_X4_pricked_2 (by decide) ?_
  refine J_invSri hE (As := [.int i1, .int (0 : Int32), .int (1 : Int32)]) (st := []) (tX4_within E.2.1 V X i1 (0 : Int32) (1 : Int32)) m_X4_within s_X4_within rfl ml_RX4_44 (Nat.le_of_ble_eq_true rfl) (Nat.le_of_ble_eq_true rfl) rfl (Nat.le_of_ble_eq_true rfl) dd_X4_pricked_3 (fun r1 => ?_)
  refine J_if_ne hE (tgt := 11) dd_X4_pricked_6 (by decide) (fun c19 => ?_) (fun c19 => ?_)
  · refine J_aload_n hE dd_X4_pricked_11 0 rfl rfl ?_
    refine J_bipush hE (v := (15 : Int32)) dd_X4_pricked_12 (by decide) ?_
    refine J_invVwv hE (e := fun x => x) (As := [.int (15 : Int32)]) (st := []) (tX4_tryNight E.2.1 hX X (15 : Int32)) (hX.rt.ob _) m_X4_tryNight rfl ml_RX4_173 (Nat.le_of_ble_eq_true rfl) (Nat.le_of_ble_eq_true rfl) rfl (Nat.le_of_ble_eq_true rfl) dd_X4_pricked_14 (fun q2 => ?_)
    refine J_letS (fun X3 => ?_)
    refine J_iconst hE (v := (0 : Int32)) dd_X4_pricked_17 (by decide) ?_
    refine J_istore_n hE (L' := [(2, .int (0 : Int32)), (0, .ref (ob 0)), (1, .int i1)]) dd_X4_pricked_18 (Nat.le_of_ble_eq_true rfl) rfl rfl ?_
    refine J_bipush hE (v := (-4 : Int32)) dd_X4_pricked_19 (by decide) ?_
    refine J_istore_n hE (L' := [(3, .int (-4 : Int32)), (2, .int (0 : Int32)), (0, .ref (ob 0)), (1, .int i1)]) dd_X4_pricked_21 (Nat.le_of_ble_eq_true rfl) rfl rfl ?_
    refine J_iconst hE (v := (0 : Int32)) dd_X4_pricked_22 (by decide) ?_
    refine J_istore hE (L' := [(4, .int (0 : Int32)), (3, .int (-4 : Int32)), (2, .int (0 : Int32)), (0, .ref (ob 0)), (1, .int i1)]) dd_X4_pricked_23 (Nat.le_of_ble_eq_true rfl) rfl ?_
    refine J_sub [3, 4, 2, 1, 0] rfl ?_
    refine tX4_pricked_L25 hX i1 X3 hE (fun p17 => ?_) 400 (0 : Int32) (-4 : Int32) (0 : Int32)
    show J V E _ _ 73 [(1, .int i1), (2, .int p17.1), (3, .int p17.2)] [] X3
    refine J_iload_n hE dd_X4_pricked_73 0 rfl rfl ?_
    refine J_if_ne hE (tgt := 81) dd_X4_pricked_74 (by decide) (fun c18 => ?_) (fun c18 => ?_)
    · refine J_iload_n hE dd_X4_pricked_81 2 rfl rfl ?_
      exact J_iret hE dd_X4_pricked_82 rfl rfl
    · refine J_iload_n hE dd_X4_pricked_77 1 rfl rfl ?_
      refine J_goto hE (tgt := 82) dd_X4_pricked_78 (by decide) ?_
      exact J_iret hE dd_X4_pricked_82 rfl rfl
  · refine J_iconst hE (v := (-1 : Int32)) dd_X4_pricked_9 (by decide) ?_
    exact J_iret hE dd_X4_pricked_10 rfl rfl
theorem dd_X4_lain_0 : jd cX4_lain 0 (.iload_n 1) 1 1 := ⟨by decide +kernel, rfl⟩
theorem dd_X4_lain_1 : jd cX4_lain 1 (.invokestatic 128) 3 4 := ⟨by decide +kernel, rfl⟩
theorem dd_X4_lain_22 : jd cX4_lain 22 (.iconst (-1)) 1 23 := ⟨by decide +kernel, rfl⟩
theorem dd_X4_lain_23 : jd cX4_lain 23 (.ireturn) 1 24 := ⟨by decide +kernel, rfl⟩
theorem dd_X4_lain_7 : jd cX4_lain 7 (.aload_n 0) 1 8 := ⟨by decide +kernel, rfl⟩
theorem dd_X4_lain_8 : jd cX4_lain 8 (.getfield 40) 3 11 := ⟨by decide +kernel, rfl⟩
theorem dd_X4_lain_11 : jd cX4_lain 11 (.aload_n 0) 1 12 := ⟨by decide +kernel, rfl⟩
theorem dd_X4_lain_12 : jd cX4_lain 12 (.getfield 19) 3 15 := ⟨by decide +kernel, rfl⟩
theorem dd_X4_lain_15 : jd cX4_lain 15 (.iload_n 1) 1 16 := ⟨by decide +kernel, rfl⟩
theorem ml_RX4_220 : (Cond.methodLink "MothCustoms" 220 yX0_findTops : Cond) ∈ jj_tb := jj_m (List.mem_of_getElem? (i := 713) (by decide +kernel)) rfl
theorem dd_X4_lain_16 : jd cX4_lain 16 (.invokevirtual 220) 3 19 := ⟨by decide +kernel, rfl⟩
theorem dd_X4_lain_19 : jd cX4_lain 19 (.goto 4) 3 22 := ⟨by decide +kernel, rfl⟩
theorem dd_X4_lain_4 : jd cX4_lain 4 (.ifCond .eq 18) 3 7 := ⟨by decide +kernel, rfl⟩
theorem m_X4_lain : jmV yX4_lain cX4_lain 2 (some .int) 1 := ⟨⟨(jj_m (w := Cond.code yX4_lain cX4_lain 2 (some .int)) (List.mem_of_getElem? (i := 712) (by decide +kernel)) rfl), (jj_m (w := Cond.initialized yX4_lain.cls) (List.mem_of_getElem? (i := 64) (by decide +kernel)) rfl), ⟨by decide, by decide⟩, by decide +kernel⟩, (jj_m (w := Cond.instanceMethod yX4_lain) (List.mem_of_getElem? (i := 710) (by decide +kernel)) rfl), (jj_m (w := Cond.selects yX4_lain.cls yX4_lain yX4_lain) (List.mem_of_getElem? (i := 711) (by decide +kernel)) rfl)⟩
def fX4_lain (i1 : Int32) (X : M3) : Option (Int32 × M3) :=
  (fX4_isBale i1).bind fun r1 =>
  if r1 = 0 then
    some ((-1 : Int32), X)
  else
    (fX0_findTops i1 (X 10) (X 11) (X 2)).bind fun q2 =>
    lt ((va_up (va_up X 10 q2.2.1) 11 q2.2.2)) fun X3 =>
    some (q2.1, X3)

set_option maxHeartbeats 4000000 in
set_option maxRecDepth 100000 in
theorem tX4_lain (l : Launch) {V : JV M3} {ob : Nat → Nat} {aa : Nat → Nat → Nat} (hX : vX4 V ob aa) (X : M3) (i1 : Int32) : JC l V yX4_lain cX4_lain 2 (some .int) jj_i 13 [.ref (ob 0), .int i1] X ((fX4_lain i1 X).map (fun q => (q.1, q.2))) := by
  refine jj_of (by decide) (Nat.le_of_ble_eq_true rfl) (fun E hlE hE => ?_)
  unfold fX4_lain
  refine J_sub (L' := [(0, .ref (ob 0)), (1, .int i1)]) [0, 1] rfl ?_
  refine J_iload_n hE dd_X4_lain_0 1 rfl rfl ?_
  refine J_invSri hE (As := [.int i1]) (st := []) (tX4_isBale E.2.1 V X i1) m_X4_isBale s_X4_isBale rfl ml_RX4_128 (Nat.le_of_ble_eq_true rfl) (Nat.le_of_ble_eq_true rfl) rfl (Nat.le_of_ble_eq_true rfl) dd_X4_lain_1 (fun r1 => ?_)
  refine J_if_eq hE (tgt := 22) dd_X4_lain_4 (by decide) (fun c4 => ?_) (fun c4 => ?_)
  · refine J_iconst hE (v := (-1 : Int32)) dd_X4_lain_22 (by decide) ?_
    exact J_iret hE dd_X4_lain_23 rfl rfl
  · refine J_aload_n hE dd_X4_lain_7 0 rfl rfl ?_
    refine J_get hE (hX.rt.ob _) jc_X4 5 (by decide) fl_RX4_40 (v := .ref (ob 10)) rfl dd_X4_lain_8 ?_
    refine J_aload_n hE dd_X4_lain_11 0 rfl rfl ?_
    refine J_get hE (hX.rt.ob _) jc_X4 1 (by decide) fl_RX4_19 (v := .ref (ob 2)) rfl dd_X4_lain_12 ?_
    refine J_iload_n hE dd_X4_lain_15 1 rfl rfl ?_
    refine J_invVwi hE (e := fun p : M2 × M2 => va_up (va_up X 10 p.1) 11 p.2) (As := [.ref (ob 2), .int i1]) (st := []) (JC.lift_w (e := fun p : M2 × M2 => va_up (va_up X 10 p.1) 11 p.2) (tX0_findTops E.2.1 (hX.sr1 X) (hX.sr2 X) (hX.sr3 X) (X 10) (X 11) i1) (va_up_eta2 _ _ _)) (hX.sr.ob _) m_X0_findTops rfl ml_RX4_220 (Nat.le_of_ble_eq_true rfl) (Nat.le_of_ble_eq_true rfl) rfl (Nat.le_of_ble_eq_true rfl) dd_X4_lain_16 (fun q2 => ?_)
    refine J_letS (fun X3 => ?_)
    refine J_goto hE (tgt := 23) dd_X4_lain_19 (by decide) ?_
    exact J_iret hE dd_X4_lain_23 rfl rfl
theorem dd_X4_drift_0 : jd cX4_drift 0 (.iload_n 2) 1 1 := ⟨by decide +kernel, rfl⟩
theorem dd_X4_drift_1 : jd cX4_drift 1 (.iconst 1) 1 2 := ⟨by decide +kernel, rfl⟩
theorem dd_X4_drift_2 : jd cX4_drift 2 (.bipush 20) 2 4 := ⟨by decide +kernel, rfl⟩
theorem dd_X4_drift_4 : jd cX4_drift 4 (.invokestatic 44) 3 7 := ⟨by decide +kernel, rfl⟩
theorem dd_X4_drift_19 : jd cX4_drift 19 (.iconst (-1)) 1 20 := ⟨by decide +kernel, rfl⟩
theorem dd_X4_drift_20 : jd cX4_drift 20 (.ireturn) 1 21 := ⟨by decide +kernel, rfl⟩
theorem dd_X4_drift_10 : jd cX4_drift 10 (.iload_n 3) 1 11 := ⟨by decide +kernel, rfl⟩
theorem dd_X4_drift_11 : jd cX4_drift 11 (.iconst 0) 1 12 := ⟨by decide +kernel, rfl⟩
theorem dd_X4_drift_12 : jd cX4_drift 12 (.iconst 1) 1 13 := ⟨by decide +kernel, rfl⟩
theorem dd_X4_drift_13 : jd cX4_drift 13 (.invokestatic 44) 3 16 := ⟨by decide +kernel, rfl⟩
theorem dd_X4_drift_21 : jd cX4_drift 21 (.aload_n 0) 1 22 := ⟨by decide +kernel, rfl⟩
theorem dd_X4_drift_22 : jd cX4_drift 22 (.getfield 19) 3 25 := ⟨by decide +kernel, rfl⟩
theorem dd_X4_drift_25 : jd cX4_drift 25 (.getfield 73) 3 28 := ⟨by decide +kernel, rfl⟩
theorem dd_X4_drift_34 : jd cX4_drift 34 (.aload_n 0) 1 35 := ⟨by decide +kernel, rfl⟩
theorem dd_X4_drift_35 : jd cX4_drift 35 (.getfield 23) 3 38 := ⟨by decide +kernel, rfl⟩
theorem dd_X4_drift_38 : jd cX4_drift 38 (.aload_n 0) 1 39 := ⟨by decide +kernel, rfl⟩
theorem dd_X4_drift_39 : jd cX4_drift 39 (.getfield 19) 3 42 := ⟨by decide +kernel, rfl⟩
theorem dd_X4_drift_42 : jd cX4_drift 42 (.invokevirtual 66) 3 45 := ⟨by decide +kernel, rfl⟩
theorem dd_X4_drift_45 : jd cX4_drift 45 (.iload_n 1) 1 46 := ⟨by decide +kernel, rfl⟩
theorem dd_X4_drift_46 : jd cX4_drift 46 (.istore 4) 2 48 := ⟨by decide +kernel, rfl⟩
theorem dd_X4_drift_48 : jd cX4_drift 48 (.iconst 0) 1 49 := ⟨by decide +kernel, rfl⟩
theorem dd_X4_drift_49 : jd cX4_drift 49 (.istore 5) 2 51 := ⟨by decide +kernel, rfl⟩
theorem dd_X4_drift_51 : jd cX4_drift 51 (.iload 5) 2 53 := ⟨by decide +kernel, rfl⟩
theorem dd_X4_drift_53 : jd cX4_drift 53 (.iload_n 2) 1 54 := ⟨by decide +kernel, rfl⟩
theorem dd_X4_drift_57 : jd cX4_drift 57 (.iload 4) 2 59 := ⟨by decide +kernel, rfl⟩
theorem ci_RX4_224 : (Cond.constant "MothCustoms" 224 (1103515245 : Int32) : Cond) ∈ jj_tb := jj_m (List.mem_of_getElem? (i := 728) (by decide +kernel)) rfl
theorem dd_X4_drift_59 : jd cX4_drift 59 (.ldc 224) 2 61 := ⟨by decide +kernel, rfl⟩
theorem dd_X4_drift_61 : jd cX4_drift 61 (.imul) 1 62 := ⟨by decide +kernel, rfl⟩
theorem dd_X4_drift_62 : jd cX4_drift 62 (.sipush 12345) 3 65 := ⟨by decide +kernel, rfl⟩
theorem dd_X4_drift_65 : jd cX4_drift 65 (.iadd) 1 66 := ⟨by decide +kernel, rfl⟩
theorem dd_X4_drift_66 : jd cX4_drift 66 (.istore 4) 2 68 := ⟨by decide +kernel, rfl⟩
theorem dd_X4_drift_68 : jd cX4_drift 68 (.iload 4) 2 70 := ⟨by decide +kernel, rfl⟩
theorem dd_X4_drift_70 : jd cX4_drift 70 (.bipush 16) 2 72 := ⟨by decide +kernel, rfl⟩
theorem dd_X4_drift_72 : jd cX4_drift 72 (.iushr) 1 73 := ⟨by decide +kernel, rfl⟩
theorem dd_X4_drift_73 : jd cX4_drift 73 (.sipush 32767) 3 76 := ⟨by decide +kernel, rfl⟩
theorem dd_X4_drift_76 : jd cX4_drift 76 (.iand) 1 77 := ⟨by decide +kernel, rfl⟩
theorem dd_X4_drift_77 : jd cX4_drift 77 (.istore 6) 2 79 := ⟨by decide +kernel, rfl⟩
theorem dd_X4_drift_79 : jd cX4_drift 79 (.aload_n 0) 1 80 := ⟨by decide +kernel, rfl⟩
theorem dd_X4_drift_80 : jd cX4_drift 80 (.getfield 23) 3 83 := ⟨by decide +kernel, rfl⟩
theorem dd_X4_drift_83 : jd cX4_drift 83 (.iload 6) 2 85 := ⟨by decide +kernel, rfl⟩
theorem dd_X4_drift_85 : jd cX4_drift 85 (.aload_n 0) 1 86 := ⟨by decide +kernel, rfl⟩
theorem dd_X4_drift_86 : jd cX4_drift 86 (.getfield 19) 3 89 := ⟨by decide +kernel, rfl⟩
theorem dd_X4_drift_89 : jd cX4_drift 89 (.getfield 73) 3 92 := ⟨by decide +kernel, rfl⟩
theorem dd_X4_drift_92 : jd cX4_drift 92 (.irem) 1 93 := ⟨by decide +kernel, rfl⟩
theorem dd_X4_drift_93 : jd cX4_drift 93 (.iload 6) 2 95 := ⟨by decide +kernel, rfl⟩
theorem dd_X4_drift_95 : jd cX4_drift 95 (.iconst 3) 1 96 := ⟨by decide +kernel, rfl⟩
theorem dd_X4_drift_96 : jd cX4_drift 96 (.irem) 1 97 := ⟨by decide +kernel, rfl⟩
theorem dd_X4_drift_97 : jd cX4_drift 97 (.invokevirtual 140) 3 100 := ⟨by decide +kernel, rfl⟩
theorem dd_X4_drift_100 : jd cX4_drift 100 (.aload_n 0) 1 101 := ⟨by decide +kernel, rfl⟩
theorem dd_X4_drift_101 : jd cX4_drift 101 (.getfield 23) 3 104 := ⟨by decide +kernel, rfl⟩
theorem dd_X4_drift_104 : jd cX4_drift 104 (.invokevirtual 161) 3 107 := ⟨by decide +kernel, rfl⟩
theorem dd_X4_drift_107 : jd cX4_drift 107 (.iinc 5 1) 3 110 := ⟨by decide +kernel, rfl⟩
theorem dd_X4_drift_110 : jd cX4_drift 110 (.goto (-59)) 3 113 := ⟨by decide +kernel, rfl⟩
theorem dd_X4_drift_54 : jd cX4_drift 54 (.if_icmp .ge 59) 3 57 := ⟨by decide +kernel, rfl⟩
theorem dd_X4_drift_113 : jd cX4_drift 113 (.iload_n 3) 1 114 := ⟨by decide +kernel, rfl⟩
theorem dd_X4_drift_127 : jd cX4_drift 127 (.aload_n 0) 1 128 := ⟨by decide +kernel, rfl⟩
theorem dd_X4_drift_128 : jd cX4_drift 128 (.getfield 23) 3 131 := ⟨by decide +kernel, rfl⟩
theorem dd_X4_drift_131 : jd cX4_drift 131 (.invokevirtual 167) 3 134 := ⟨by decide +kernel, rfl⟩
theorem dd_X4_drift_134 : jd cX4_drift 134 (.ireturn) 1 135 := ⟨by decide +kernel, rfl⟩
theorem dd_X4_drift_117 : jd cX4_drift 117 (.aload_n 0) 1 118 := ⟨by decide +kernel, rfl⟩
theorem dd_X4_drift_118 : jd cX4_drift 118 (.getfield 23) 3 121 := ⟨by decide +kernel, rfl⟩
theorem dd_X4_drift_121 : jd cX4_drift 121 (.invokevirtual 164) 3 124 := ⟨by decide +kernel, rfl⟩
theorem dd_X4_drift_124 : jd cX4_drift 124 (.goto 10) 3 127 := ⟨by decide +kernel, rfl⟩
theorem dd_X4_drift_114 : jd cX4_drift 114 (.ifCond .ne 13) 3 117 := ⟨by decide +kernel, rfl⟩
theorem dd_X4_drift_31 : jd cX4_drift 31 (.bipush (-2)) 2 33 := ⟨by decide +kernel, rfl⟩
theorem dd_X4_drift_33 : jd cX4_drift 33 (.ireturn) 1 34 := ⟨by decide +kernel, rfl⟩
theorem dd_X4_drift_28 : jd cX4_drift 28 (.ifCond .gt 6) 3 31 := ⟨by decide +kernel, rfl⟩
theorem dd_X4_drift_16 : jd cX4_drift 16 (.ifCond .ne 5) 3 19 := ⟨by decide +kernel, rfl⟩
theorem dd_X4_drift_7 : jd cX4_drift 7 (.ifCond .eq 12) 3 10 := ⟨by decide +kernel, rfl⟩
theorem m_X4_drift : jmV yX4_drift cX4_drift 7 (some .int) 3 := ⟨⟨(jj_m (w := Cond.code yX4_drift cX4_drift 7 (some .int)) (List.mem_of_getElem? (i := 727) (by decide +kernel)) rfl), (jj_m (w := Cond.initialized yX4_drift.cls) (List.mem_of_getElem? (i := 64) (by decide +kernel)) rfl), ⟨by decide, by decide⟩, by decide +kernel⟩, (jj_m (w := Cond.instanceMethod yX4_drift) (List.mem_of_getElem? (i := 725) (by decide +kernel)) rfl), (jj_m (w := Cond.selects yX4_drift.cls yX4_drift yX4_drift) (List.mem_of_getElem? (i := 726) (by decide +kernel)) rfl)⟩
def fX4_drift_L51 (i2 : Int32) (i3 : Int32) (k113 : M3 → Option (Int32 × M3)) : Nat → Int32 → Int32 → M3 → Option (Int32 × M3)
  | 0, _, _, _ => none
  | n_ + 1, v5, v6, X7 =>
    if i2 ≤ v6 then
      k113 X7
    else
      lt (((v5 * (1103515245 : Int32)) + (12345 : Int32))) fun x8 =>
      lt ((((x8.toUInt32 >>> ((16 : Int32).toUInt32 &&& Int32.toUInt32 31)).toInt32) &&& (32767 : Int32))) fun x9 =>
      if ((X7 2) 0 0) = 0 then none else
      if (3 : Int32) = 0 then none else
      (fX1_putOnTop (x9 - x9 / ((X7 2) 0 0) * ((X7 2) 0 0)) (x9 - x9 / (3 : Int32) * (3 : Int32)) (X7 3)).bind fun q10 =>
      lt ((va_up X7 3 q10)) fun X11 =>
      (fX1_passNight  (X11 3)).bind fun q12 =>
      lt ((va_up X11 3 q12)) fun X13 =>
      lt (v6 + (1 : Int32)) fun x14 =>
      fX4_drift_L51 i2 i3 k113 n_ x8 x14 X13

def fX4_drift (i1 : Int32) (i2 : Int32) (i3 : Int32) (X : M3) : Option (Int32 × M3) :=
  (fX4_within i2 (1 : Int32) (20 : Int32)).bind fun r1 =>
  if r1 = 0 then
    some ((-1 : Int32), X)
  else
    (fX4_within i3 (0 : Int32) (1 : Int32)).bind fun r2 =>
    if r2 = 0 then
      some ((-1 : Int32), X)
    else
      if 0 < ((X 2) 0 0) then
        (fX1_copyFrom  (X 3) (X 2)).bind fun q3 =>
        lt ((va_up X 3 q3)) fun X4 =>
        fX4_drift_L51 i2 i3
          (fun p16 =>
            if i3 = 0 then
              (fX1_dutyOfAll  (p16 3)).bind fun r18 =>
              some (r18, p16)
            else
              (fX1_holesInAll  (p16 3)).bind fun r17 =>
              some (r17, p16))
          400 i1 (0 : Int32) X4
      else
        some ((-2 : Int32), X)

set_option maxHeartbeats 4000000 in
set_option maxRecDepth 100000 in
theorem tX4_drift_L51 {V : JV M3} {ob : Nat → Nat} {aa : Nat → Nat → Nat} (hX : vX4 V ob aa) (i2 : Int32) (i3 : Int32) {E : JE (M3) Int32} (hE : JOk V E cX4_drift yX4_drift.cls 7 5 (some .int) jj_i) {k113 : M3 → Option (Int32 × M3)} (hk113 : ∀ p, J V E (fun q => (q.1, q.2)) (k113 p) 113 [(0, .ref (ob 0)), (3, .int i3)] [] p) : ∀ (n_ : Nat) (v5 : Int32) (v6 : Int32) (X7 : M3), J V E (fun q => (q.1, q.2)) (fX4_drift_L51 i2 i3 k113 n_ v5 v6 X7) 51 [(0, .ref (ob 0)), (2, .int i2), (3, .int i3), (4, .int v5), (5, .int v6)] [] X7 := by
  intro n_
  induction n_ with
  | zero =>
    intros
    exact J_none
  | succ n_ ih =>
    intros v5 v6 X7
    rw [fX4_drift_L51]
    refine J_iload hE dd_X4_drift_51 4 rfl ?_
    refine J_iload_n hE dd_X4_drift_53 1 rfl rfl ?_
    refine J_icmp_ge hE (tgt := 113) dd_X4_drift_54 (by decide) (fun c15 => ?_) (fun c15 => ?_)
    · refine J_sub [0, 2] rfl ?_
      exact hk113 X7
    · refine J_iload hE dd_X4_drift_57 3 rfl ?_
      refine J_ldc hE (v := (1103515245 : Int32)) dd_X4_drift_59 ci_RX4_224 ?_
      refine J_imul hE dd_X4_drift_61 ?_
      refine J_sipush hE (v := (12345 : Int32)) dd_X4_drift_62 (by decide) ?_
      refine J_iadd hE dd_X4_drift_65 ?_
      refine J_leti (fun x8 => ?_)
      refine J_istore hE (L' := [(4, .int x8), (0, .ref (ob 0)), (2, .int i2), (3, .int i3), (5, .int v6)]) dd_X4_drift_66 (Nat.le_of_ble_eq_true rfl) rfl ?_
      refine J_iload hE dd_X4_drift_68 0 rfl ?_
      refine J_bipush hE (v := (16 : Int32)) dd_X4_drift_70 (by decide) ?_
      refine J_iushr hE dd_X4_drift_72 ?_
      refine J_sipush hE (v := (32767 : Int32)) dd_X4_drift_73 (by decide) ?_
      refine J_iand hE dd_X4_drift_76 ?_
      refine J_leti (fun x9 => ?_)
      refine J_istore hE (L' := [(6, .int x9), (4, .int x8), (0, .ref (ob 0)), (2, .int i2), (3, .int i3), (5, .int v6)]) dd_X4_drift_77 (Nat.le_of_ble_eq_true rfl) rfl ?_
      refine J_aload_n hE dd_X4_drift_79 2 rfl rfl ?_
      refine J_get hE (hX.rt.ob _) jc_X4 2 (by decide) fl_RX4_23 (v := .ref (ob 3)) rfl dd_X4_drift_80 ?_
      refine J_iload hE dd_X4_drift_83 0 rfl ?_
      refine J_aload_n hE dd_X4_drift_85 2 rfl rfl ?_
      refine J_get hE (hX.rt.ob _) jc_X4 1 (by decide) fl_RX4_19 (v := .ref (ob 2)) rfl dd_X4_drift_86 ?_
      refine J_get hE ((hX.sh sh2).ob _) jc_X1 0 (by decide) fl_RX4_73 (v := .int ((X7 2) 0 0)) rfl dd_X4_drift_89 ?_
      refine J_irem hE dd_X4_drift_92 (fun _ => ?_)
      refine J_iload hE dd_X4_drift_93 0 rfl ?_
      refine J_iconst hE (v := (3 : Int32)) dd_X4_drift_95 (by decide) ?_
      refine J_irem hE dd_X4_drift_96 (fun _ => ?_)
      refine J_invVwv hE (e := fun S => va_up X7 3 S) (As := [.int (x9 - x9 / ((X7 2) 0 0) * ((X7 2) 0 0)), .int (x9 - x9 / (3 : Int32) * (3 : Int32))]) (st := []) (JC.lift_v (e := fun S => va_up X7 3 S) (tX1_putOnTop E.2.1 (hX.shS X7 sh3) (X7 3) (x9 - x9 / ((X7 2) 0 0) * ((X7 2) 0 0)) (x9 - x9 / (3 : Int32) * (3 : Int32))) (va_up_eta _ _)) ((hX.sh sh3).ob _) m_X1_putOnTop rfl ml_RX4_140 (Nat.le_of_ble_eq_true rfl) (Nat.le_of_ble_eq_true rfl) rfl (Nat.le_of_ble_eq_true rfl) dd_X4_drift_97 (fun q10 => ?_)
      refine J_letS (fun X11 => ?_)
      refine J_aload_n hE dd_X4_drift_100 2 rfl rfl ?_
      refine J_get hE (hX.rt.ob _) jc_X4 2 (by decide) fl_RX4_23 (v := .ref (ob 3)) rfl dd_X4_drift_101 ?_
      refine J_invVwv hE (e := fun S => va_up X11 3 S) (As := []) (st := []) (JC.lift_v (e := fun S => va_up X11 3 S) (tX1_passNight E.2.1 (hX.shS X11 sh3) (X11 3) ) (va_up_eta _ _)) ((hX.sh sh3).ob _) m_X1_passNight rfl ml_RX4_161 (Nat.le_of_ble_eq_true rfl) (Nat.le_of_ble_eq_true rfl) rfl (Nat.le_of_ble_eq_true rfl) dd_X4_drift_104 (fun q12 => ?_)
      refine J_letS (fun X13 => ?_)
      refine J_iincL hE (v := (v6 + (1 : Int32))) (Lf := fun x14 => [(5, .int x14), (6, .int x9), (4, .int x8), (0, .ref (ob 0)), (2, .int i2), (3, .int i3)]) dd_X4_drift_107 (j := 5) rfl (congrArg (v6 + ·) (by decide)) (Nat.le_of_ble_eq_true rfl) (fun _ => rfl) (fun x14 => ?_)
      refine J_goto hE (tgt := 51) dd_X4_drift_110 (by decide) ?_
      refine J_sub [3, 4, 5, 2, 0] rfl ?_
      exact ih x8 x14 X13
set_option maxHeartbeats 4000000 in
set_option maxRecDepth 100000 in
theorem tX4_drift (l : Launch) {V : JV M3} {ob : Nat → Nat} {aa : Nat → Nat → Nat} (hX : vX4 V ob aa) (X : M3) (i1 : Int32) (i2 : Int32) (i3 : Int32) : JC l V yX4_drift cX4_drift 7 (some .int) jj_i 5 [.ref (ob 0), .int i1, .int i2, .int i3] X ((fX4_drift i1 i2 i3 X).map (fun q => (q.1, q.2))) := by
  refine jj_of (by decide) (Nat.le_of_ble_eq_true rfl) (fun E hlE hE => ?_)
  unfold fX4_drift
  refine J_sub (L' := [(0, .ref (ob 0)), (1, .int i1), (2, .int i2), (3, .int i3)]) [0, 1, 2, 3] rfl ?_
  refine J_iload_n hE dd_X4_drift_0 2 rfl rfl ?_
  refine J_iconst hE (v := (1 : Int32)) dd_X4_drift_1 (by decide) ?_
  refine J_bipush hE (v := (20 : Int32)) dd_X4_drift_2 (by decide) ?_
  refine J_invSri hE (As := [.int i2, .int (1 : Int32), .int (20 : Int32)]) (st := []) (tX4_within E.2.1 V X i2 (1 : Int32) (20 : Int32)) m_X4_within s_X4_within rfl ml_RX4_44 (Nat.le_of_ble_eq_true rfl) (Nat.le_of_ble_eq_true rfl) rfl (Nat.le_of_ble_eq_true rfl) dd_X4_drift_4 (fun r1 => ?_)
  refine J_if_eq hE (tgt := 19) dd_X4_drift_7 (by decide) (fun c22 => ?_) (fun c22 => ?_)
  · refine J_iconst hE (v := (-1 : Int32)) dd_X4_drift_19 (by decide) ?_
    exact J_iret hE dd_X4_drift_20 rfl rfl
  · refine J_iload_n hE dd_X4_drift_10 3 rfl rfl ?_
    refine J_iconst hE (v := (0 : Int32)) dd_X4_drift_11 (by decide) ?_
    refine J_iconst hE (v := (1 : Int32)) dd_X4_drift_12 (by decide) ?_
    refine J_invSri hE (As := [.int i3, .int (0 : Int32), .int (1 : Int32)]) (st := []) (tX4_within E.2.1 V X i3 (0 : Int32) (1 : Int32)) m_X4_within s_X4_within rfl ml_RX4_44 (Nat.le_of_ble_eq_true rfl) (Nat.le_of_ble_eq_true rfl) rfl (Nat.le_of_ble_eq_true rfl) dd_X4_drift_13 (fun r2 => ?_)
    refine J_if_ne hE (tgt := 21) dd_X4_drift_16 (by decide) (fun c21 => ?_) (fun c21 => ?_)
    · refine J_aload_n hE dd_X4_drift_21 0 rfl rfl ?_
      refine J_get hE (hX.rt.ob _) jc_X4 1 (by decide) fl_RX4_19 (v := .ref (ob 2)) rfl dd_X4_drift_22 ?_
      refine J_get hE ((hX.sh sh2).ob _) jc_X1 0 (by decide) fl_RX4_73 (v := .int ((X 2) 0 0)) rfl dd_X4_drift_25 ?_
      refine J_if_gt hE (tgt := 34) dd_X4_drift_28 (by decide) (fun c20 => ?_) (fun c20 => ?_)
      · refine J_aload_n hE dd_X4_drift_34 0 rfl rfl ?_
        refine J_get hE (hX.rt.ob _) jc_X4 2 (by decide) fl_RX4_23 (v := .ref (ob 3)) rfl dd_X4_drift_35 ?_
        refine J_aload_n hE dd_X4_drift_38 0 rfl rfl ?_
        refine J_get hE (hX.rt.ob _) jc_X4 1 (by decide) fl_RX4_19 (v := .ref (ob 2)) rfl dd_X4_drift_39 ?_
        refine J_invVwv hE (e := fun S => va_up X 3 S) (As := [.ref (ob 2)]) (st := []) (JC.lift_v (e := fun S => va_up X 3 S) (tX1_copyFrom E.2.1 (hX.shS X sh3) (hX.shR X 3 sh2 (by decide)) (X 3) ) (va_up_eta _ _)) ((hX.sh sh3).ob _) m_X1_copyFrom rfl ml_RX4_66 (Nat.le_of_ble_eq_true rfl) (Nat.le_of_ble_eq_true rfl) rfl (Nat.le_of_ble_eq_true rfl) dd_X4_drift_42 (fun q3 => ?_)
        refine J_letS (fun X4 => ?_)
        refine J_iload_n hE dd_X4_drift_45 1 rfl rfl ?_
        refine J_istore hE (L' := [(4, .int i1), (0, .ref (ob 0)), (1, .int i1), (2, .int i2), (3, .int i3)]) dd_X4_drift_46 (Nat.le_of_ble_eq_true rfl) rfl ?_
        refine J_iconst hE (v := (0 : Int32)) dd_X4_drift_48 (by decide) ?_
        refine J_istore hE (L' := [(5, .int (0 : Int32)), (4, .int i1), (0, .ref (ob 0)), (1, .int i1), (2, .int i2), (3, .int i3)]) dd_X4_drift_49 (Nat.le_of_ble_eq_true rfl) rfl ?_
        refine J_sub [2, 4, 5, 1, 0] rfl ?_
        refine tX4_drift_L51 hX i2 i3 hE (fun p16 => ?_) 400 i1 (0 : Int32) X4
        show J V E _ _ 113 [(0, .ref (ob 0)), (3, .int i3)] [] p16
        refine J_iload_n hE dd_X4_drift_113 1 rfl rfl ?_
        refine J_if_ne hE (tgt := 127) dd_X4_drift_114 (by decide) (fun c19 => ?_) (fun c19 => ?_)
        · refine J_aload_n hE dd_X4_drift_127 0 rfl rfl ?_
          refine J_get hE (hX.rt.ob _) jc_X4 2 (by decide) fl_RX4_23 (v := .ref (ob 3)) rfl dd_X4_drift_128 ?_
          refine J_invVri hE (As := []) (st := []) (JC.lift_r (e := fun S => va_up p16 3 S) (tX1_holesInAll E.2.1 (hX.shS p16 sh3) (p16 3) ) (va_up_eta _ _)) ((hX.sh sh3).ob _) m_X1_holesInAll rfl ml_RX4_167 (Nat.le_of_ble_eq_true rfl) (Nat.le_of_ble_eq_true rfl) rfl (Nat.le_of_ble_eq_true rfl) dd_X4_drift_131 (fun r17 => ?_)
          exact J_iret hE dd_X4_drift_134 rfl rfl
        · refine J_aload_n hE dd_X4_drift_117 0 rfl rfl ?_
          refine J_get hE (hX.rt.ob _) jc_X4 2 (by decide) fl_RX4_23 (v := .ref (ob 3)) rfl dd_X4_drift_118 ?_
          refine J_invVri hE (As := []) (st := []) (JC.lift_r (e := fun S => va_up p16 3 S) (tX1_dutyOfAll E.2.1 (hX.shS p16 sh3) (p16 3) ) (va_up_eta _ _)) ((hX.sh sh3).ob _) m_X1_dutyOfAll rfl ml_RX4_164 (Nat.le_of_ble_eq_true rfl) (Nat.le_of_ble_eq_true rfl) rfl (Nat.le_of_ble_eq_true rfl) dd_X4_drift_121 (fun r18 => ?_)
          refine J_goto hE (tgt := 134) dd_X4_drift_124 (by decide) ?_
          exact J_iret hE dd_X4_drift_134 rfl rfl
      · refine J_bipush hE (v := (-2 : Int32)) dd_X4_drift_31 (by decide) ?_
        exact J_iret hE dd_X4_drift_33 rfl rfl
    · refine J_iconst hE (v := (-1 : Int32)) dd_X4_drift_19 (by decide) ?_
      exact J_iret hE dd_X4_drift_20 rfl rfl
theorem dd_X4_keep_0 : jd cX4_keep 0 (.iload_n 1) 1 1 := ⟨by decide +kernel, rfl⟩
theorem dd_X4_keep_1 : jd cX4_keep 1 (.iconst 0) 1 2 := ⟨by decide +kernel, rfl⟩
theorem dd_X4_keep_2 : jd cX4_keep 2 (.iconst 1) 1 3 := ⟨by decide +kernel, rfl⟩
theorem dd_X4_keep_3 : jd cX4_keep 3 (.invokestatic 44) 3 6 := ⟨by decide +kernel, rfl⟩
theorem dd_X4_keep_11 : jd cX4_keep 11 (.aload_n 0) 1 12 := ⟨by decide +kernel, rfl⟩
theorem dd_X4_keep_12 : jd cX4_keep 12 (.getfield 70) 3 15 := ⟨by decide +kernel, rfl⟩
theorem dd_X4_keep_15 : jd cX4_keep 15 (.iload_n 1) 1 16 := ⟨by decide +kernel, rfl⟩
theorem dd_X4_keep_16 : jd cX4_keep 16 (.ishr) 1 17 := ⟨by decide +kernel, rfl⟩
theorem dd_X4_keep_17 : jd cX4_keep 17 (.iconst 1) 1 18 := ⟨by decide +kernel, rfl⟩
theorem dd_X4_keep_18 : jd cX4_keep 18 (.iand) 1 19 := ⟨by decide +kernel, rfl⟩
theorem dd_X4_keep_19 : jd cX4_keep 19 (.istore_n 2) 1 20 := ⟨by decide +kernel, rfl⟩
theorem dd_X4_keep_20 : jd cX4_keep 20 (.aload_n 0) 1 21 := ⟨by decide +kernel, rfl⟩
theorem fl_RX4_26 : (Cond.fieldLink "MothCustoms" 26 "MothCustoms" "images" "[LMothCustoms$Shed;" : Cond) ∈ jj_tb := jj_m (List.mem_of_getElem? (i := 271) (by decide +kernel)) rfl
theorem dd_X4_keep_21 : jd cX4_keep 21 (.getfield 26) 3 24 := ⟨by decide +kernel, rfl⟩
theorem dd_X4_keep_24 : jd cX4_keep 24 (.iload_n 1) 1 25 := ⟨by decide +kernel, rfl⟩
theorem dd_X4_keep_25 : jd cX4_keep 25 (.aaload) 1 26 := ⟨by decide +kernel, rfl⟩
theorem dd_X4_keep_26 : jd cX4_keep 26 (.aload_n 0) 1 27 := ⟨by decide +kernel, rfl⟩
theorem dd_X4_keep_27 : jd cX4_keep 27 (.getfield 19) 3 30 := ⟨by decide +kernel, rfl⟩
theorem dd_X4_keep_30 : jd cX4_keep 30 (.invokevirtual 66) 3 33 := ⟨by decide +kernel, rfl⟩
theorem dd_X4_keep_33 : jd cX4_keep 33 (.aload_n 0) 1 34 := ⟨by decide +kernel, rfl⟩
theorem dd_X4_keep_34 : jd cX4_keep 34 (.dup) 1 35 := ⟨by decide +kernel, rfl⟩
theorem dd_X4_keep_35 : jd cX4_keep 35 (.getfield 70) 3 38 := ⟨by decide +kernel, rfl⟩
theorem dd_X4_keep_38 : jd cX4_keep 38 (.iconst 1) 1 39 := ⟨by decide +kernel, rfl⟩
theorem dd_X4_keep_39 : jd cX4_keep 39 (.iload_n 1) 1 40 := ⟨by decide +kernel, rfl⟩
theorem dd_X4_keep_40 : jd cX4_keep 40 (.ishl) 1 41 := ⟨by decide +kernel, rfl⟩
theorem dd_X4_keep_41 : jd cX4_keep 41 (.ior) 1 42 := ⟨by decide +kernel, rfl⟩
theorem dd_X4_keep_42 : jd cX4_keep 42 (.putfield 70) 3 45 := ⟨by decide +kernel, rfl⟩
theorem dd_X4_keep_45 : jd cX4_keep 45 (.iload_n 2) 1 46 := ⟨by decide +kernel, rfl⟩
theorem dd_X4_keep_46 : jd cX4_keep 46 (.ireturn) 1 47 := ⟨by decide +kernel, rfl⟩
theorem dd_X4_keep_9 : jd cX4_keep 9 (.iconst (-1)) 1 10 := ⟨by decide +kernel, rfl⟩
theorem dd_X4_keep_10 : jd cX4_keep 10 (.ireturn) 1 11 := ⟨by decide +kernel, rfl⟩
theorem dd_X4_keep_6 : jd cX4_keep 6 (.ifCond .ne 5) 3 9 := ⟨by decide +kernel, rfl⟩
theorem m_X4_keep : jmV yX4_keep cX4_keep 3 (some .int) 1 := ⟨⟨(jj_m (w := Cond.code yX4_keep cX4_keep 3 (some .int)) (List.mem_of_getElem? (i := 732) (by decide +kernel)) rfl), (jj_m (w := Cond.initialized yX4_keep.cls) (List.mem_of_getElem? (i := 64) (by decide +kernel)) rfl), ⟨by decide, by decide⟩, by decide +kernel⟩, (jj_m (w := Cond.instanceMethod yX4_keep) (List.mem_of_getElem? (i := 730) (by decide +kernel)) rfl), (jj_m (w := Cond.selects yX4_keep.cls yX4_keep yX4_keep) (List.mem_of_getElem? (i := 731) (by decide +kernel)) rfl)⟩
def fX4_keep (i1 : Int32) (X : M3) : Option (Int32 × M3) :=
  (fX4_within i1 (0 : Int32) (1 : Int32)).bind fun r1 =>
  if r1 = 0 then
    some ((-1 : Int32), X)
  else
    lt (((((X 0) 6 0) >>> (i1 &&& 31)) &&& (1 : Int32))) fun x2 =>
    bnd i1 2 <|
    (fX1_copyFrom  (X (4 + i1.toNatClampNeg)) (X 2)).bind fun q4 =>
    lt ((va_up X (4 + i1.toNatClampNeg) q4)) fun X5 =>
    lt ((va_up X5 0 (va_up (X5 0) 6 (fun _ => (((X5 0) 6 0) ||| ((1 : Int32) <<< (i1 &&& 31))))))) fun X6 =>
    some (x2, X6)

set_option maxHeartbeats 4000000 in
set_option maxRecDepth 100000 in
theorem tX4_keep (l : Launch) {V : JV M3} {ob : Nat → Nat} {aa : Nat → Nat → Nat} (hX : vX4 V ob aa) (X : M3) (i1 : Int32) : JC l V yX4_keep cX4_keep 3 (some .int) jj_i 3 [.ref (ob 0), .int i1] X ((fX4_keep i1 X).map (fun q => (q.1, q.2))) := by
  refine jj_of (by decide) (Nat.le_of_ble_eq_true rfl) (fun E hlE hE => ?_)
  unfold fX4_keep
  refine J_sub (L' := [(0, .ref (ob 0)), (1, .int i1)]) [0, 1] rfl ?_
  refine J_iload_n hE dd_X4_keep_0 1 rfl rfl ?_
  refine J_iconst hE (v := (0 : Int32)) dd_X4_keep_1 (by decide) ?_
  refine J_iconst hE (v := (1 : Int32)) dd_X4_keep_2 (by decide) ?_
  refine J_invSri hE (As := [.int i1, .int (0 : Int32), .int (1 : Int32)]) (st := []) (tX4_within E.2.1 V X i1 (0 : Int32) (1 : Int32)) m_X4_within s_X4_within rfl ml_RX4_44 (Nat.le_of_ble_eq_true rfl) (Nat.le_of_ble_eq_true rfl) rfl (Nat.le_of_ble_eq_true rfl) dd_X4_keep_3 (fun r1 => ?_)
  refine J_if_ne hE (tgt := 11) dd_X4_keep_6 (by decide) (fun c7 => ?_) (fun c7 => ?_)
  · refine J_aload_n hE dd_X4_keep_11 0 rfl rfl ?_
    refine J_get hE (hX.rt.ob _) jc_X4 6 (by decide) fl_RX4_70 (v := .int ((X 0) 6 0)) rfl dd_X4_keep_12 ?_
    refine J_iload_n hE dd_X4_keep_15 1 rfl rfl ?_
    refine J_ishr hE dd_X4_keep_16 ?_
    refine J_iconst hE (v := (1 : Int32)) dd_X4_keep_17 (by decide) ?_
    refine J_iand hE dd_X4_keep_18 ?_
    refine J_leti (fun x2 => ?_)
    refine J_istore_n hE (L' := [(2, .int x2), (0, .ref (ob 0)), (1, .int i1)]) dd_X4_keep_19 (Nat.le_of_ble_eq_true rfl) rfl rfl ?_
    refine J_aload_n hE dd_X4_keep_20 1 rfl rfl ?_
    refine J_get hE (hX.rt.ob _) jc_X4 3 (by decide) fl_RX4_26 (v := .ref (aa 0 3)) rfl dd_X4_keep_21 ?_
    refine J_iload_n hE dd_X4_keep_24 2 rfl rfl ?_
    refine J_qld hE (hX.im _) dd_X4_keep_25 (fun hq3 => ?_)
    show J V E _ _ 26 _ (.ref (ob (4 + i1.toNatClampNeg)) :: _) _
    refine J_aload_n hE dd_X4_keep_26 1 rfl rfl ?_
    refine J_get hE (hX.rt.ob _) jc_X4 1 (by decide) fl_RX4_19 (v := .ref (ob 2)) rfl dd_X4_keep_27 ?_
    refine J_invVwv hE (e := fun S => va_up X (4 + i1.toNatClampNeg) S) (As := [.ref (ob 2)]) (st := []) (JC.lift_v (e := fun S => va_up X (4 + i1.toNatClampNeg) S) (tX1_copyFrom E.2.1 (hX.shS X (shI hq3)) (hX.shR X (4 + i1.toNatClampNeg) sh2 shI2) (X (4 + i1.toNatClampNeg)) ) (va_up_eta _ _)) ((hX.sh (shI hq3)).ob _) m_X1_copyFrom rfl ml_RX4_66 (Nat.le_of_ble_eq_true rfl) (Nat.le_of_ble_eq_true rfl) rfl (Nat.le_of_ble_eq_true rfl) dd_X4_keep_30 (fun q4 => ?_)
    refine J_letS (fun X5 => ?_)
    refine J_aload_n hE dd_X4_keep_33 1 rfl rfl ?_
    refine J_dup hE dd_X4_keep_34 rfl ?_
    refine J_get hE (hX.rt.ob _) jc_X4 6 (by decide) fl_RX4_70 (v := .int ((X5 0) 6 0)) rfl dd_X4_keep_35 ?_
    refine J_iconst hE (v := (1 : Int32)) dd_X4_keep_38 (by decide) ?_
    refine J_iload_n hE dd_X4_keep_39 2 rfl rfl ?_
    refine J_ishl hE dd_X4_keep_40 ?_
    refine J_ior hE dd_X4_keep_41 ?_
    refine J_put hE hX.rt jc_X4 6 (by decide) (by decide) fl_RX4_70 rfl rfl rfl (Nat.le_of_ble_eq_true rfl) dd_X4_keep_42 ?_
    refine J_letS (fun X6 => ?_)
    refine J_iload_n hE dd_X4_keep_45 0 rfl rfl ?_
    exact J_iret hE dd_X4_keep_46 rfl rfl
  · refine J_iconst hE (v := (-1 : Int32)) dd_X4_keep_9 (by decide) ?_
    exact J_iret hE dd_X4_keep_10 rfl rfl
theorem dd_X4_back_0 : jd cX4_back 0 (.iload_n 1) 1 1 := ⟨by decide +kernel, rfl⟩
theorem dd_X4_back_1 : jd cX4_back 1 (.iconst 0) 1 2 := ⟨by decide +kernel, rfl⟩
theorem dd_X4_back_2 : jd cX4_back 2 (.iconst 1) 1 3 := ⟨by decide +kernel, rfl⟩
theorem dd_X4_back_3 : jd cX4_back 3 (.invokestatic 44) 3 6 := ⟨by decide +kernel, rfl⟩
theorem dd_X4_back_11 : jd cX4_back 11 (.aload_n 0) 1 12 := ⟨by decide +kernel, rfl⟩
theorem dd_X4_back_12 : jd cX4_back 12 (.getfield 70) 3 15 := ⟨by decide +kernel, rfl⟩
theorem dd_X4_back_15 : jd cX4_back 15 (.iload_n 1) 1 16 := ⟨by decide +kernel, rfl⟩
theorem dd_X4_back_16 : jd cX4_back 16 (.ishr) 1 17 := ⟨by decide +kernel, rfl⟩
theorem dd_X4_back_17 : jd cX4_back 17 (.iconst 1) 1 18 := ⟨by decide +kernel, rfl⟩
theorem dd_X4_back_18 : jd cX4_back 18 (.iand) 1 19 := ⟨by decide +kernel, rfl⟩
theorem dd_X4_back_25 : jd cX4_back 25 (.aload_n 0) 1 26 := ⟨by decide +kernel, rfl⟩
theorem dd_X4_back_26 : jd cX4_back 26 (.getfield 19) 3 29 := ⟨by decide +kernel, rfl⟩
theorem dd_X4_back_29 : jd cX4_back 29 (.aload_n 0) 1 30 := ⟨by decide +kernel, rfl⟩
theorem dd_X4_back_30 : jd cX4_back 30 (.getfield 26) 3 33 := ⟨by decide +kernel, rfl⟩
theorem dd_X4_back_33 : jd cX4_back 33 (.iload_n 1) 1 34 := ⟨by decide +kernel, rfl⟩
theorem dd_X4_back_34 : jd cX4_back 34 (.aaload) 1 35 := ⟨by decide +kernel, rfl⟩
theorem dd_X4_back_35 : jd cX4_back 35 (.invokevirtual 66) 3 38 := ⟨by decide +kernel, rfl⟩
theorem dd_X4_back_38 : jd cX4_back 38 (.aload_n 0) 1 39 := ⟨by decide +kernel, rfl⟩
theorem dd_X4_back_39 : jd cX4_back 39 (.getfield 19) 3 42 := ⟨by decide +kernel, rfl⟩
theorem dd_X4_back_42 : jd cX4_back 42 (.getfield 85) 3 45 := ⟨by decide +kernel, rfl⟩
theorem dd_X4_back_45 : jd cX4_back 45 (.ireturn) 1 46 := ⟨by decide +kernel, rfl⟩
theorem dd_X4_back_22 : jd cX4_back 22 (.bipush (-2)) 2 24 := ⟨by decide +kernel, rfl⟩
theorem dd_X4_back_24 : jd cX4_back 24 (.ireturn) 1 25 := ⟨by decide +kernel, rfl⟩
theorem dd_X4_back_19 : jd cX4_back 19 (.ifCond .ne 6) 3 22 := ⟨by decide +kernel, rfl⟩
theorem dd_X4_back_9 : jd cX4_back 9 (.iconst (-1)) 1 10 := ⟨by decide +kernel, rfl⟩
theorem dd_X4_back_10 : jd cX4_back 10 (.ireturn) 1 11 := ⟨by decide +kernel, rfl⟩
theorem dd_X4_back_6 : jd cX4_back 6 (.ifCond .ne 5) 3 9 := ⟨by decide +kernel, rfl⟩
theorem m_X4_back : jmV yX4_back cX4_back 2 (some .int) 1 := ⟨⟨(jj_m (w := Cond.code yX4_back cX4_back 2 (some .int)) (List.mem_of_getElem? (i := 736) (by decide +kernel)) rfl), (jj_m (w := Cond.initialized yX4_back.cls) (List.mem_of_getElem? (i := 64) (by decide +kernel)) rfl), ⟨by decide, by decide⟩, by decide +kernel⟩, (jj_m (w := Cond.instanceMethod yX4_back) (List.mem_of_getElem? (i := 734) (by decide +kernel)) rfl), (jj_m (w := Cond.selects yX4_back.cls yX4_back yX4_back) (List.mem_of_getElem? (i := 735) (by decide +kernel)) rfl)⟩
def fX4_back (i1 : Int32) (X : M3) : Option (Int32 × M3) :=
  (fX4_within i1 (0 : Int32) (1 : Int32)).bind fun r1 =>
  if r1 = 0 then
    some ((-1 : Int32), X)
  else
    if ((((X 0) 6 0) >>> (i1 &&& 31)) &&& (1 : Int32)) = 0 then
      some ((-2 : Int32), X)
    else
      bnd i1 2 <|
      (fX1_copyFrom  (X 2) (X (4 + i1.toNatClampNeg))).bind fun q3 =>
      lt ((va_up X 2 q3)) fun X4 =>
      some (((X4 2) 14 0), X4)

set_option maxHeartbeats 4000000 in
set_option maxRecDepth 100000 in
theorem tX4_back (l : Launch) {V : JV M3} {ob : Nat → Nat} {aa : Nat → Nat → Nat} (hX : vX4 V ob aa) (X : M3) (i1 : Int32) : JC l V yX4_back cX4_back 2 (some .int) jj_i 3 [.ref (ob 0), .int i1] X ((fX4_back i1 X).map (fun q => (q.1, q.2))) := by
  refine jj_of (by decide) (Nat.le_of_ble_eq_true rfl) (fun E hlE hE => ?_)
  unfold fX4_back
  refine J_sub (L' := [(0, .ref (ob 0)), (1, .int i1)]) [0, 1] rfl ?_
  refine J_iload_n hE dd_X4_back_0 1 rfl rfl ?_
  refine J_iconst hE (v := (0 : Int32)) dd_X4_back_1 (by decide) ?_
  refine J_iconst hE (v := (1 : Int32)) dd_X4_back_2 (by decide) ?_
  refine J_invSri hE (As := [.int i1, .int (0 : Int32), .int (1 : Int32)]) (st := []) (tX4_within E.2.1 V X i1 (0 : Int32) (1 : Int32)) m_X4_within s_X4_within rfl ml_RX4_44 (Nat.le_of_ble_eq_true rfl) (Nat.le_of_ble_eq_true rfl) rfl (Nat.le_of_ble_eq_true rfl) dd_X4_back_3 (fun r1 => ?_)
  refine J_if_ne hE (tgt := 11) dd_X4_back_6 (by decide) (fun c6 => ?_) (fun c6 => ?_)
  · refine J_aload_n hE dd_X4_back_11 0 rfl rfl ?_
    refine J_get hE (hX.rt.ob _) jc_X4 6 (by decide) fl_RX4_70 (v := .int ((X 0) 6 0)) rfl dd_X4_back_12 ?_
    refine J_iload_n hE dd_X4_back_15 1 rfl rfl ?_
    refine J_ishr hE dd_X4_back_16 ?_
    refine J_iconst hE (v := (1 : Int32)) dd_X4_back_17 (by decide) ?_
    refine J_iand hE dd_X4_back_18 ?_
    refine J_if_ne hE (tgt := 25) dd_X4_back_19 (by decide) (fun c5 => ?_) (fun c5 => ?_)
    · refine J_aload_n hE dd_X4_back_25 0 rfl rfl ?_
      refine J_get hE (hX.rt.ob _) jc_X4 1 (by decide) fl_RX4_19 (v := .ref (ob 2)) rfl dd_X4_back_26 ?_
      refine J_aload_n hE dd_X4_back_29 0 rfl rfl ?_
      refine J_get hE (hX.rt.ob _) jc_X4 3 (by decide) fl_RX4_26 (v := .ref (aa 0 3)) rfl dd_X4_back_30 ?_
      refine J_iload_n hE dd_X4_back_33 1 rfl rfl ?_
      refine J_qld hE (hX.im _) dd_X4_back_34 (fun hq2 => ?_)
      show J V E _ _ 35 _ (.ref (ob (4 + i1.toNatClampNeg)) :: _) _
      refine J_invVwv hE (e := fun S => va_up X 2 S) (As := [.ref (ob (4 + i1.toNatClampNeg))]) (st := []) (JC.lift_v (e := fun S => va_up X 2 S) (tX1_copyFrom E.2.1 (hX.shS X sh2) (hX.shR X 2 (shI hq2) shI2') (X 2) ) (va_up_eta _ _)) ((hX.sh sh2).ob _) m_X1_copyFrom rfl ml_RX4_66 (Nat.le_of_ble_eq_true rfl) (Nat.le_of_ble_eq_true rfl) rfl (Nat.le_of_ble_eq_true rfl) dd_X4_back_35 (fun q3 => ?_)
      refine J_letS (fun X4 => ?_)
      refine J_aload_n hE dd_X4_back_38 0 rfl rfl ?_
      refine J_get hE (hX.rt.ob _) jc_X4 1 (by decide) fl_RX4_19 (v := .ref (ob 2)) rfl dd_X4_back_39 ?_
      refine J_get hE ((hX.sh sh2).ob _) jc_X1 14 (by decide) fl_RX4_85 (v := .int ((X4 2) 14 0)) rfl dd_X4_back_42 ?_
      exact J_iret hE dd_X4_back_45 rfl rfl
    · refine J_bipush hE (v := (-2 : Int32)) dd_X4_back_22 (by decide) ?_
      exact J_iret hE dd_X4_back_24 rfl rfl
  · refine J_iconst hE (v := (-1 : Int32)) dd_X4_back_9 (by decide) ?_
    exact J_iret hE dd_X4_back_10 rfl rfl
theorem dd_X4_sheet_0 : jd cX4_sheet 0 (.iload_n 1) 1 1 := ⟨by decide +kernel, rfl⟩
theorem ml_RX4_225 : (Cond.methodLink "MothCustoms" 225 yX4_isSheet : Cond) ∈ jj_tb := jj_m (List.mem_of_getElem? (i := 741) (by decide +kernel)) rfl
theorem dd_X4_sheet_1 : jd cX4_sheet 1 (.invokestatic 225) 3 4 := ⟨by decide +kernel, rfl⟩
theorem dd_X4_sheet_20 : jd cX4_sheet 20 (.iconst (-1)) 1 21 := ⟨by decide +kernel, rfl⟩
theorem dd_X4_sheet_21 : jd cX4_sheet 21 (.ireturn) 1 22 := ⟨by decide +kernel, rfl⟩
theorem dd_X4_sheet_7 : jd cX4_sheet 7 (.iload_n 2) 1 8 := ⟨by decide +kernel, rfl⟩
theorem ml_RX4_228 : (Cond.methodLink "MothCustoms" 228 yX4_isLane : Cond) ∈ jj_tb := jj_m (List.mem_of_getElem? (i := 744) (by decide +kernel)) rfl
theorem dd_X4_sheet_8 : jd cX4_sheet 8 (.invokestatic 228) 3 11 := ⟨by decide +kernel, rfl⟩
theorem dd_X4_sheet_14 : jd cX4_sheet 14 (.iload_n 3) 1 15 := ⟨by decide +kernel, rfl⟩
theorem dd_X4_sheet_15 : jd cX4_sheet 15 (.bipush 40) 2 17 := ⟨by decide +kernel, rfl⟩
theorem dd_X4_sheet_22 : jd cX4_sheet 22 (.iload_n 3) 1 23 := ⟨by decide +kernel, rfl⟩
theorem dd_X4_sheet_29 : jd cX4_sheet 29 (.aload_n 0) 1 30 := ⟨by decide +kernel, rfl⟩
theorem fl_RX4_32 : (Cond.fieldLink "MothCustoms" 32 "MothCustoms" "sheets" "[LMothCustoms$Sheet;" : Cond) ∈ jj_tb := jj_m (List.mem_of_getElem? (i := 272) (by decide +kernel)) rfl
theorem dd_X4_sheet_30 : jd cX4_sheet 30 (.getfield 32) 3 33 := ⟨by decide +kernel, rfl⟩
theorem dd_X4_sheet_33 : jd cX4_sheet 33 (.iload_n 1) 1 34 := ⟨by decide +kernel, rfl⟩
theorem dd_X4_sheet_34 : jd cX4_sheet 34 (.aaload) 1 35 := ⟨by decide +kernel, rfl⟩
theorem dd_X4_sheet_35 : jd cX4_sheet 35 (.iload_n 2) 1 36 := ⟨by decide +kernel, rfl⟩
theorem dd_X4_sheet_36 : jd cX4_sheet 36 (.iload_n 3) 1 37 := ⟨by decide +kernel, rfl⟩
theorem ml_RX4_231 : (Cond.methodLink "MothCustoms" 231 yX2_makeNew : Cond) ∈ jj_tb := jj_m (List.mem_of_getElem? (i := 747) (by decide +kernel)) rfl
theorem dd_X4_sheet_37 : jd cX4_sheet 37 (.invokevirtual 231) 3 40 := ⟨by decide +kernel, rfl⟩
theorem dd_X4_sheet_40 : jd cX4_sheet 40 (.iconst 1) 1 41 := ⟨by decide +kernel, rfl⟩
theorem dd_X4_sheet_41 : jd cX4_sheet 41 (.ireturn) 1 42 := ⟨by decide +kernel, rfl⟩
theorem dd_X4_sheet_26 : jd cX4_sheet 26 (.bipush (-14)) 2 28 := ⟨by decide +kernel, rfl⟩
theorem dd_X4_sheet_28 : jd cX4_sheet 28 (.ireturn) 1 29 := ⟨by decide +kernel, rfl⟩
theorem dd_X4_sheet_23 : jd cX4_sheet 23 (.ifCond .ge 6) 3 26 := ⟨by decide +kernel, rfl⟩
theorem dd_X4_sheet_17 : jd cX4_sheet 17 (.if_icmp .le 5) 3 20 := ⟨by decide +kernel, rfl⟩
theorem dd_X4_sheet_11 : jd cX4_sheet 11 (.ifCond .eq 9) 3 14 := ⟨by decide +kernel, rfl⟩
theorem dd_X4_sheet_4 : jd cX4_sheet 4 (.ifCond .eq 16) 3 7 := ⟨by decide +kernel, rfl⟩
theorem m_X4_sheet : jmV yX4_sheet cX4_sheet 4 (some .int) 3 := ⟨⟨(jj_m (w := Cond.code yX4_sheet cX4_sheet 4 (some .int)) (List.mem_of_getElem? (i := 740) (by decide +kernel)) rfl), (jj_m (w := Cond.initialized yX4_sheet.cls) (List.mem_of_getElem? (i := 64) (by decide +kernel)) rfl), ⟨by decide, by decide⟩, by decide +kernel⟩, (jj_m (w := Cond.instanceMethod yX4_sheet) (List.mem_of_getElem? (i := 738) (by decide +kernel)) rfl), (jj_m (w := Cond.selects yX4_sheet.cls yX4_sheet yX4_sheet) (List.mem_of_getElem? (i := 739) (by decide +kernel)) rfl)⟩
def fX4_sheet (i1 : Int32) (i2 : Int32) (i3 : Int32) (X : M3) : Option (Int32 × M3) :=
  (fX4_isSheet i1).bind fun r1 =>
  if r1 = 0 then
    some ((-1 : Int32), X)
  else
    (fX4_isLane i2).bind fun r2 =>
    if r2 = 0 then
      some ((-1 : Int32), X)
    else
      if i3 ≤ (40 : Int32) then
        if 0 ≤ i3 then
          bnd i1 4 <|
          (fX2_makeNew i2 i3 (X (6 + i1.toNatClampNeg))).bind fun q4 =>
          lt ((va_up X (6 + i1.toNatClampNeg) q4)) fun X5 =>
          some ((1 : Int32), X5)
        else
          some ((-14 : Int32), X)
      else
        some ((-1 : Int32), X)

set_option maxHeartbeats 4000000 in
set_option maxRecDepth 100000 in
theorem tX4_sheet (l : Launch) {V : JV M3} {ob : Nat → Nat} {aa : Nat → Nat → Nat} (hX : vX4 V ob aa) (X : M3) (i1 : Int32) (i2 : Int32) (i3 : Int32) : JC l V yX4_sheet cX4_sheet 4 (some .int) jj_i 2 [.ref (ob 0), .int i1, .int i2, .int i3] X ((fX4_sheet i1 i2 i3 X).map (fun q => (q.1, q.2))) := by
  refine jj_of (by decide) (Nat.le_of_ble_eq_true rfl) (fun E hlE hE => ?_)
  unfold fX4_sheet
  refine J_sub (L' := [(0, .ref (ob 0)), (1, .int i1), (2, .int i2), (3, .int i3)]) [0, 1, 2, 3] rfl ?_
  refine J_iload_n hE dd_X4_sheet_0 1 rfl rfl ?_
  refine J_invSri hE (As := [.int i1]) (st := []) (tX4_isSheet E.2.1 V X i1) m_X4_isSheet s_X4_isSheet rfl ml_RX4_225 (Nat.le_of_ble_eq_true rfl) (Nat.le_of_ble_eq_true rfl) rfl (Nat.le_of_ble_eq_true rfl) dd_X4_sheet_1 (fun r1 => ?_)
  refine J_if_eq hE (tgt := 20) dd_X4_sheet_4 (by decide) (fun c9 => ?_) (fun c9 => ?_)
  · refine J_iconst hE (v := (-1 : Int32)) dd_X4_sheet_20 (by decide) ?_
    exact J_iret hE dd_X4_sheet_21 rfl rfl
  · refine J_iload_n hE dd_X4_sheet_7 2 rfl rfl ?_
    refine J_invSri hE (As := [.int i2]) (st := []) (tX4_isLane E.2.1 V X i2) m_X4_isLane s_X4_isLane rfl ml_RX4_228 (Nat.le_of_ble_eq_true rfl) (Nat.le_of_ble_eq_true rfl) rfl (Nat.le_of_ble_eq_true rfl) dd_X4_sheet_8 (fun r2 => ?_)
    refine J_if_eq hE (tgt := 20) dd_X4_sheet_11 (by decide) (fun c8 => ?_) (fun c8 => ?_)
    · refine J_iconst hE (v := (-1 : Int32)) dd_X4_sheet_20 (by decide) ?_
      exact J_iret hE dd_X4_sheet_21 rfl rfl
    · refine J_iload_n hE dd_X4_sheet_14 3 rfl rfl ?_
      refine J_bipush hE (v := (40 : Int32)) dd_X4_sheet_15 (by decide) ?_
      refine J_icmp_le hE (tgt := 22) dd_X4_sheet_17 (by decide) (fun c7 => ?_) (fun c7 => ?_)
      · refine J_iload_n hE dd_X4_sheet_22 3 rfl rfl ?_
        refine J_if_ge hE (tgt := 29) dd_X4_sheet_23 (by decide) (fun c6 => ?_) (fun c6 => ?_)
        · refine J_aload_n hE dd_X4_sheet_29 0 rfl rfl ?_
          refine J_get hE (hX.rt.ob _) jc_X4 4 (by decide) fl_RX4_32 (v := .ref (aa 0 4)) rfl dd_X4_sheet_30 ?_
          refine J_iload_n hE dd_X4_sheet_33 1 rfl rfl ?_
          refine J_qld hE (hX.ss _) dd_X4_sheet_34 (fun hq3 => ?_)
          show J V E _ _ 35 _ (.ref (ob (6 + i1.toNatClampNeg)) :: _) _
          refine J_iload_n hE dd_X4_sheet_35 2 rfl rfl ?_
          refine J_iload_n hE dd_X4_sheet_36 3 rfl rfl ?_
          refine J_invVwv hE (e := fun S => va_up X (6 + i1.toNatClampNeg) S) (As := [.int i2, .int i3]) (st := []) (JC.lift_v (e := fun S => va_up X (6 + i1.toNatClampNeg) S) (tX2_makeNew E.2.1 (hX.stS X (stI hq3)) (X (6 + i1.toNatClampNeg)) i2 i3) (va_up_eta _ _)) ((hX.st (stI hq3)).ob _) m_X2_makeNew rfl ml_RX4_231 (Nat.le_of_ble_eq_true rfl) (Nat.le_of_ble_eq_true rfl) rfl (Nat.le_of_ble_eq_true rfl) dd_X4_sheet_37 (fun q4 => ?_)
          refine J_letS (fun X5 => ?_)
          refine J_iconst hE (v := (1 : Int32)) dd_X4_sheet_40 (by decide) ?_
          exact J_iret hE dd_X4_sheet_41 rfl rfl
        · refine J_bipush hE (v := (-14 : Int32)) dd_X4_sheet_26 (by decide) ?_
          exact J_iret hE dd_X4_sheet_28 rfl rfl
      · refine J_iconst hE (v := (-1 : Int32)) dd_X4_sheet_20 (by decide) ?_
        exact J_iret hE dd_X4_sheet_21 rfl rfl
theorem dd_X4_lay_0 : jd cX4_lay 0 (.iload_n 1) 1 1 := ⟨by decide +kernel, rfl⟩
theorem dd_X4_lay_1 : jd cX4_lay 1 (.invokestatic 225) 3 4 := ⟨by decide +kernel, rfl⟩
theorem dd_X4_lay_9 : jd cX4_lay 9 (.aload_n 0) 1 10 := ⟨by decide +kernel, rfl⟩
theorem dd_X4_lay_10 : jd cX4_lay 10 (.getfield 32) 3 13 := ⟨by decide +kernel, rfl⟩
theorem dd_X4_lay_13 : jd cX4_lay 13 (.iload_n 1) 1 14 := ⟨by decide +kernel, rfl⟩
theorem dd_X4_lay_14 : jd cX4_lay 14 (.aaload) 1 15 := ⟨by decide +kernel, rfl⟩
theorem dd_X4_lay_15 : jd cX4_lay 15 (.astore 4) 2 17 := ⟨by decide +kernel, rfl⟩
theorem dd_X4_lay_17 : jd cX4_lay 17 (.aload 4) 2 19 := ⟨by decide +kernel, rfl⟩
theorem fl_RX4_234 : (Cond.fieldLink "MothCustoms" 234 "MothCustoms$Sheet" "there" "Z" : Cond) ∈ jj_tb := jj_m (List.mem_of_getElem? (i := 224) (by decide +kernel)) rfl
theorem dd_X4_lay_19 : jd cX4_lay 19 (.getfield 234) 3 22 := ⟨by decide +kernel, rfl⟩
theorem dd_X4_lay_28 : jd cX4_lay 28 (.aload 4) 2 30 := ⟨by decide +kernel, rfl⟩
theorem dd_X4_lay_30 : jd cX4_lay 30 (.iload_n 2) 1 31 := ⟨by decide +kernel, rfl⟩
theorem ml_RX4_238 : (Cond.methodLink "MothCustoms" 238 yX2_hasCell : Cond) ∈ jj_tb := jj_m (List.mem_of_getElem? (i := 755) (by decide +kernel)) rfl
theorem dd_X4_lay_31 : jd cX4_lay 31 (.invokevirtual 238) 3 34 := ⟨by decide +kernel, rfl⟩
theorem dd_X4_lay_40 : jd cX4_lay 40 (.aload 4) 2 42 := ⟨by decide +kernel, rfl⟩
theorem dd_X4_lay_42 : jd cX4_lay 42 (.iload_n 2) 1 43 := ⟨by decide +kernel, rfl⟩
theorem dd_X4_lay_43 : jd cX4_lay 43 (.iload_n 3) 1 44 := ⟨by decide +kernel, rfl⟩
theorem ml_RX4_241 : (Cond.methodLink "MothCustoms" 241 yX2_setCell : Cond) ∈ jj_tb := jj_m (List.mem_of_getElem? (i := 760) (by decide +kernel)) rfl
theorem dd_X4_lay_44 : jd cX4_lay 44 (.invokevirtual 241) 3 47 := ⟨by decide +kernel, rfl⟩
theorem dd_X4_lay_47 : jd cX4_lay 47 (.iconst 1) 1 48 := ⟨by decide +kernel, rfl⟩
theorem dd_X4_lay_48 : jd cX4_lay 48 (.ireturn) 1 49 := ⟨by decide +kernel, rfl⟩
theorem dd_X4_lay_37 : jd cX4_lay 37 (.bipush (-12)) 2 39 := ⟨by decide +kernel, rfl⟩
theorem dd_X4_lay_39 : jd cX4_lay 39 (.ireturn) 1 40 := ⟨by decide +kernel, rfl⟩
theorem dd_X4_lay_34 : jd cX4_lay 34 (.ifCond .ne 6) 3 37 := ⟨by decide +kernel, rfl⟩
theorem dd_X4_lay_25 : jd cX4_lay 25 (.bipush (-11)) 2 27 := ⟨by decide +kernel, rfl⟩
theorem dd_X4_lay_27 : jd cX4_lay 27 (.ireturn) 1 28 := ⟨by decide +kernel, rfl⟩
theorem dd_X4_lay_22 : jd cX4_lay 22 (.ifCond .ne 6) 3 25 := ⟨by decide +kernel, rfl⟩
theorem dd_X4_lay_7 : jd cX4_lay 7 (.iconst (-1)) 1 8 := ⟨by decide +kernel, rfl⟩
theorem dd_X4_lay_8 : jd cX4_lay 8 (.ireturn) 1 9 := ⟨by decide +kernel, rfl⟩
theorem dd_X4_lay_4 : jd cX4_lay 4 (.ifCond .ne 5) 3 7 := ⟨by decide +kernel, rfl⟩
theorem m_X4_lay : jmV yX4_lay cX4_lay 5 (some .int) 3 := ⟨⟨(jj_m (w := Cond.code yX4_lay cX4_lay 5 (some .int)) (List.mem_of_getElem? (i := 754) (by decide +kernel)) rfl), (jj_m (w := Cond.initialized yX4_lay.cls) (List.mem_of_getElem? (i := 64) (by decide +kernel)) rfl), ⟨by decide, by decide⟩, by decide +kernel⟩, (jj_m (w := Cond.instanceMethod yX4_lay) (List.mem_of_getElem? (i := 752) (by decide +kernel)) rfl), (jj_m (w := Cond.selects yX4_lay.cls yX4_lay yX4_lay) (List.mem_of_getElem? (i := 753) (by decide +kernel)) rfl)⟩
def fX4_lay (i1 : Int32) (i2 : Int32) (i3 : Int32) (X : M3) : Option (Int32 × M3) :=
  (fX4_isSheet i1).bind fun r1 =>
  if r1 = 0 then
    some ((-1 : Int32), X)
  else
    bnd i1 4 <|
    if ((X (6 + i1.toNatClampNeg)) 0 0) = 0 then
      some ((-11 : Int32), X)
    else
      (fX2_hasCell i2 (X (6 + i1.toNatClampNeg))).bind fun r3 =>
      if r3 = 0 then
        some ((-12 : Int32), X)
      else
        (fX2_setCell i2 i3 (X (6 + i1.toNatClampNeg))).bind fun q4 =>
        lt ((va_up X (6 + i1.toNatClampNeg) q4)) fun X5 =>
        some ((1 : Int32), X5)

set_option maxHeartbeats 4000000 in
set_option maxRecDepth 100000 in
theorem tX4_lay (l : Launch) {V : JV M3} {ob : Nat → Nat} {aa : Nat → Nat → Nat} (hX : vX4 V ob aa) (X : M3) (i1 : Int32) (i2 : Int32) (i3 : Int32) : JC l V yX4_lay cX4_lay 5 (some .int) jj_i 2 [.ref (ob 0), .int i1, .int i2, .int i3] X ((fX4_lay i1 i2 i3 X).map (fun q => (q.1, q.2))) := by
  refine jj_of (by decide) (Nat.le_of_ble_eq_true rfl) (fun E hlE hE => ?_)
  unfold fX4_lay
  refine J_sub (L' := [(0, .ref (ob 0)), (1, .int i1), (2, .int i2), (3, .int i3)]) [0, 1, 2, 3] rfl ?_
  refine J_iload_n hE dd_X4_lay_0 1 rfl rfl ?_
  refine J_invSri hE (As := [.int i1]) (st := []) (tX4_isSheet E.2.1 V X i1) m_X4_isSheet s_X4_isSheet rfl ml_RX4_225 (Nat.le_of_ble_eq_true rfl) (Nat.le_of_ble_eq_true rfl) rfl (Nat.le_of_ble_eq_true rfl) dd_X4_lay_1 (fun r1 => ?_)
  refine J_if_ne hE (tgt := 9) dd_X4_lay_4 (by decide) (fun c8 => ?_) (fun c8 => ?_)
  · refine J_aload_n hE dd_X4_lay_9 0 rfl rfl ?_
    refine J_get hE (hX.rt.ob _) jc_X4 4 (by decide) fl_RX4_32 (v := .ref (aa 0 4)) rfl dd_X4_lay_10 ?_
    refine J_iload_n hE dd_X4_lay_13 1 rfl rfl ?_
    refine J_qld hE (hX.ss _) dd_X4_lay_14 (fun hq2 => ?_)
    show J V E _ _ 15 _ (.ref (ob (6 + i1.toNatClampNeg)) :: _) _
    refine J_astore hE (L' := [(4, .ref (ob (6 + i1.toNatClampNeg))), (0, .ref (ob 0)), (1, .int i1), (2, .int i2), (3, .int i3)]) dd_X4_lay_15 (Nat.le_of_ble_eq_true rfl) rfl ?_
    refine J_aload hE dd_X4_lay_17 0 rfl ?_
    refine J_get hE ((hX.st (stI hq2)).ob _) jc_X2 0 (by decide) fl_RX4_234 (v := .int ((X (6 + i1.toNatClampNeg)) 0 0)) rfl dd_X4_lay_19 ?_
    refine J_if_ne hE (tgt := 28) dd_X4_lay_22 (by decide) (fun c7 => ?_) (fun c7 => ?_)
    · refine J_aload hE dd_X4_lay_28 0 rfl ?_
      refine J_iload_n hE dd_X4_lay_30 3 rfl rfl ?_
      refine J_invVri hE (As := [.int i2]) (st := []) (JC.lift_r (e := fun S => va_up X (6 + i1.toNatClampNeg) S) (tX2_hasCell E.2.1 (hX.stS X (stI hq2)) (X (6 + i1.toNatClampNeg)) i2) (va_up_eta _ _)) ((hX.st (stI hq2)).ob _) m_X2_hasCell rfl ml_RX4_238 (Nat.le_of_ble_eq_true rfl) (Nat.le_of_ble_eq_true rfl) rfl (Nat.le_of_ble_eq_true rfl) dd_X4_lay_31 (fun r3 => ?_)
      refine J_if_ne hE (tgt := 40) dd_X4_lay_34 (by decide) (fun c6 => ?_) (fun c6 => ?_)
      · refine J_aload hE dd_X4_lay_40 0 rfl ?_
        refine J_iload_n hE dd_X4_lay_42 3 rfl rfl ?_
        refine J_iload_n hE dd_X4_lay_43 4 rfl rfl ?_
        refine J_invVwv hE (e := fun S => va_up X (6 + i1.toNatClampNeg) S) (As := [.int i2, .int i3]) (st := []) (JC.lift_v (e := fun S => va_up X (6 + i1.toNatClampNeg) S) (tX2_setCell E.2.1 (hX.stS X (stI hq2)) (X (6 + i1.toNatClampNeg)) i2 i3) (va_up_eta _ _)) ((hX.st (stI hq2)).ob _) m_X2_setCell rfl ml_RX4_241 (Nat.le_of_ble_eq_true rfl) (Nat.le_of_ble_eq_true rfl) rfl (Nat.le_of_ble_eq_true rfl) dd_X4_lay_44 (fun q4 => ?_)
        refine J_letS (fun X5 => ?_)
        refine J_iconst hE (v := (1 : Int32)) dd_X4_lay_47 (by decide) ?_
        exact J_iret hE dd_X4_lay_48 rfl rfl
      · refine J_bipush hE (v := (-12 : Int32)) dd_X4_lay_37 (by decide) ?_
        exact J_iret hE dd_X4_lay_39 rfl rfl
    · refine J_bipush hE (v := (-11 : Int32)) dd_X4_lay_25 (by decide) ?_
      exact J_iret hE dd_X4_lay_27 rfl rfl
  · refine J_iconst hE (v := (-1 : Int32)) dd_X4_lay_7 (by decide) ?_
    exact J_iret hE dd_X4_lay_8 rfl rfl
theorem dd_X4_read_0 : jd cX4_read 0 (.iload_n 1) 1 1 := ⟨by decide +kernel, rfl⟩
theorem dd_X4_read_1 : jd cX4_read 1 (.invokestatic 225) 3 4 := ⟨by decide +kernel, rfl⟩
theorem dd_X4_read_25 : jd cX4_read 25 (.iconst (-1)) 1 26 := ⟨by decide +kernel, rfl⟩
theorem dd_X4_read_26 : jd cX4_read 26 (.ireturn) 1 27 := ⟨by decide +kernel, rfl⟩
theorem dd_X4_read_7 : jd cX4_read 7 (.iload_n 2) 1 8 := ⟨by decide +kernel, rfl⟩
theorem dd_X4_read_8 : jd cX4_read 8 (.invokestatic 228) 3 11 := ⟨by decide +kernel, rfl⟩
theorem dd_X4_read_14 : jd cX4_read 14 (.iload 4) 2 16 := ⟨by decide +kernel, rfl⟩
theorem dd_X4_read_16 : jd cX4_read 16 (.iconst 0) 1 17 := ⟨by decide +kernel, rfl⟩
theorem dd_X4_read_17 : jd cX4_read 17 (.bipush 20) 2 19 := ⟨by decide +kernel, rfl⟩
theorem dd_X4_read_19 : jd cX4_read 19 (.invokestatic 44) 3 22 := ⟨by decide +kernel, rfl⟩
theorem dd_X4_read_27 : jd cX4_read 27 (.aload_n 0) 1 28 := ⟨by decide +kernel, rfl⟩
theorem dd_X4_read_28 : jd cX4_read 28 (.getfield 32) 3 31 := ⟨by decide +kernel, rfl⟩
theorem dd_X4_read_31 : jd cX4_read 31 (.iload_n 1) 1 32 := ⟨by decide +kernel, rfl⟩
theorem dd_X4_read_32 : jd cX4_read 32 (.aaload) 1 33 := ⟨by decide +kernel, rfl⟩
theorem dd_X4_read_33 : jd cX4_read 33 (.astore 5) 2 35 := ⟨by decide +kernel, rfl⟩
theorem dd_X4_read_35 : jd cX4_read 35 (.iload 4) 2 37 := ⟨by decide +kernel, rfl⟩
theorem dd_X4_read_44 : jd cX4_read 44 (.aload 5) 2 46 := ⟨by decide +kernel, rfl⟩
theorem dd_X4_read_46 : jd cX4_read 46 (.iload_n 2) 1 47 := ⟨by decide +kernel, rfl⟩
theorem ml_RX4_244 : (Cond.methodLink "MothCustoms" 244 yX2_faultAs : Cond) ∈ jj_tb := jj_m (List.mem_of_getElem? (i := 768) (by decide +kernel)) rfl
theorem dd_X4_read_47 : jd cX4_read 47 (.invokevirtual 244) 3 50 := ⟨by decide +kernel, rfl⟩
theorem dd_X4_read_40 : jd cX4_read 40 (.iconst 0) 1 41 := ⟨by decide +kernel, rfl⟩
theorem dd_X4_read_41 : jd cX4_read 41 (.goto 9) 3 44 := ⟨by decide +kernel, rfl⟩
theorem dd_X4_read_37 : jd cX4_read 37 (.ifCond .ne 7) 3 40 := ⟨by decide +kernel, rfl⟩
theorem dd_X4_read_50 : jd cX4_read 50 (.istore 6) 2 52 := ⟨by decide +kernel, rfl⟩
theorem dd_X4_read_52 : jd cX4_read 52 (.iload 6) 2 54 := ⟨by decide +kernel, rfl⟩
theorem dd_X4_read_68 : jd cX4_read 68 (.iconst 0) 1 69 := ⟨by decide +kernel, rfl⟩
theorem dd_X4_read_57 : jd cX4_read 57 (.aload 5) 2 59 := ⟨by decide +kernel, rfl⟩
theorem dd_X4_read_59 : jd cX4_read 59 (.iload_n 3) 1 60 := ⟨by decide +kernel, rfl⟩
theorem dd_X4_read_60 : jd cX4_read 60 (.iload 4) 2 62 := ⟨by decide +kernel, rfl⟩
theorem ml_RX4_247 : (Cond.methodLink "MothCustoms" 247 yX2_wholePairs : Cond) ∈ jj_tb := jj_m (List.mem_of_getElem? (i := 772) (by decide +kernel)) rfl
theorem dd_X4_read_62 : jd cX4_read 62 (.invokevirtual 247) 3 65 := ⟨by decide +kernel, rfl⟩
theorem dd_X4_read_65 : jd cX4_read 65 (.goto 4) 3 68 := ⟨by decide +kernel, rfl⟩
theorem dd_X4_read_54 : jd cX4_read 54 (.ifCond .ne 14) 3 57 := ⟨by decide +kernel, rfl⟩
theorem dd_X4_read_69 : jd cX4_read 69 (.istore 7) 2 71 := ⟨by decide +kernel, rfl⟩
theorem dd_X4_read_71 : jd cX4_read 71 (.iload 6) 2 73 := ⟨by decide +kernel, rfl⟩
theorem dd_X4_read_76 : jd cX4_read 76 (.iload 7) 2 78 := ⟨by decide +kernel, rfl⟩
theorem dd_X4_read_78 : jd cX4_read 78 (.iload 4) 2 80 := ⟨by decide +kernel, rfl⟩
theorem dd_X4_read_83 : jd cX4_read 83 (.iconst 2) 1 84 := ⟨by decide +kernel, rfl⟩
theorem dd_X4_read_84 : jd cX4_read 84 (.istore 6) 2 86 := ⟨by decide +kernel, rfl⟩
theorem dd_X4_read_80 : jd cX4_read 80 (.if_icmp .ge 6) 3 83 := ⟨by decide +kernel, rfl⟩
theorem dd_X4_read_73 : jd cX4_read 73 (.ifCond .ne 13) 3 76 := ⟨by decide +kernel, rfl⟩
theorem dd_X4_read_86 : jd cX4_read 86 (.iconst 0) 1 87 := ⟨by decide +kernel, rfl⟩
theorem dd_X4_read_87 : jd cX4_read 87 (.istore 8) 2 89 := ⟨by decide +kernel, rfl⟩
theorem dd_X4_read_89 : jd cX4_read 89 (.iload 8) 2 91 := ⟨by decide +kernel, rfl⟩
theorem dd_X4_read_91 : jd cX4_read 91 (.iload 7) 2 93 := ⟨by decide +kernel, rfl⟩
theorem dd_X4_read_96 : jd cX4_read 96 (.aload_n 0) 1 97 := ⟨by decide +kernel, rfl⟩
theorem dd_X4_read_97 : jd cX4_read 97 (.getfield 19) 3 100 := ⟨by decide +kernel, rfl⟩
theorem dd_X4_read_100 : jd cX4_read 100 (.aload 5) 2 102 := ⟨by decide +kernel, rfl⟩
theorem fl_RX4_250 : (Cond.fieldLink "MothCustoms" 250 "MothCustoms$Sheet" "cells" "[I" : Cond) ∈ jj_tb := jj_m (List.mem_of_getElem? (i := 229) (by decide +kernel)) rfl
theorem dd_X4_read_102 : jd cX4_read 102 (.getfield 250) 3 105 := ⟨by decide +kernel, rfl⟩
theorem dd_X4_read_105 : jd cX4_read 105 (.iload_n 3) 1 106 := ⟨by decide +kernel, rfl⟩
theorem dd_X4_read_106 : jd cX4_read 106 (.iconst 2) 1 107 := ⟨by decide +kernel, rfl⟩
theorem dd_X4_read_107 : jd cX4_read 107 (.iload 8) 2 109 := ⟨by decide +kernel, rfl⟩
theorem dd_X4_read_109 : jd cX4_read 109 (.imul) 1 110 := ⟨by decide +kernel, rfl⟩
theorem dd_X4_read_110 : jd cX4_read 110 (.iadd) 1 111 := ⟨by decide +kernel, rfl⟩
theorem dd_X4_read_111 : jd cX4_read 111 (.iaload) 1 112 := ⟨by decide +kernel, rfl⟩
theorem dd_X4_read_112 : jd cX4_read 112 (.invokevirtual 95) 3 115 := ⟨by decide +kernel, rfl⟩
theorem dd_X4_read_138 : jd cX4_read 138 (.bipush (-20)) 2 140 := ⟨by decide +kernel, rfl⟩
theorem dd_X4_read_140 : jd cX4_read 140 (.iload 8) 2 142 := ⟨by decide +kernel, rfl⟩
theorem dd_X4_read_142 : jd cX4_read 142 (.isub) 1 143 := ⟨by decide +kernel, rfl⟩
theorem dd_X4_read_143 : jd cX4_read 143 (.ireturn) 1 144 := ⟨by decide +kernel, rfl⟩
theorem dd_X4_read_118 : jd cX4_read 118 (.aload 5) 2 120 := ⟨by decide +kernel, rfl⟩
theorem dd_X4_read_120 : jd cX4_read 120 (.getfield 250) 3 123 := ⟨by decide +kernel, rfl⟩
theorem dd_X4_read_123 : jd cX4_read 123 (.iload_n 3) 1 124 := ⟨by decide +kernel, rfl⟩
theorem dd_X4_read_124 : jd cX4_read 124 (.iconst 2) 1 125 := ⟨by decide +kernel, rfl⟩
theorem dd_X4_read_125 : jd cX4_read 125 (.iload 8) 2 127 := ⟨by decide +kernel, rfl⟩
theorem dd_X4_read_127 : jd cX4_read 127 (.imul) 1 128 := ⟨by decide +kernel, rfl⟩
theorem dd_X4_read_128 : jd cX4_read 128 (.iadd) 1 129 := ⟨by decide +kernel, rfl⟩
theorem dd_X4_read_129 : jd cX4_read 129 (.iconst 1) 1 130 := ⟨by decide +kernel, rfl⟩
theorem dd_X4_read_130 : jd cX4_read 130 (.iadd) 1 131 := ⟨by decide +kernel, rfl⟩
theorem dd_X4_read_131 : jd cX4_read 131 (.iaload) 1 132 := ⟨by decide +kernel, rfl⟩
theorem dd_X4_read_132 : jd cX4_read 132 (.invokestatic 128) 3 135 := ⟨by decide +kernel, rfl⟩
theorem dd_X4_read_144 : jd cX4_read 144 (.iinc 8 1) 3 147 := ⟨by decide +kernel, rfl⟩
theorem dd_X4_read_147 : jd cX4_read 147 (.goto (-58)) 3 150 := ⟨by decide +kernel, rfl⟩
theorem dd_X4_read_135 : jd cX4_read 135 (.ifCond .ne 9) 3 138 := ⟨by decide +kernel, rfl⟩
theorem dd_X4_read_115 : jd cX4_read 115 (.ifCond .eq 23) 3 118 := ⟨by decide +kernel, rfl⟩
theorem dd_X4_read_93 : jd cX4_read 93 (.if_icmp .ge 57) 3 96 := ⟨by decide +kernel, rfl⟩
theorem dd_X4_read_150 : jd cX4_read 150 (.iconst 0) 1 151 := ⟨by decide +kernel, rfl⟩
theorem dd_X4_read_151 : jd cX4_read 151 (.istore 8) 2 153 := ⟨by decide +kernel, rfl⟩
theorem dd_X4_read_153 : jd cX4_read 153 (.iload 8) 2 155 := ⟨by decide +kernel, rfl⟩
theorem dd_X4_read_155 : jd cX4_read 155 (.iload 7) 2 157 := ⟨by decide +kernel, rfl⟩
theorem dd_X4_read_160 : jd cX4_read 160 (.aload_n 0) 1 161 := ⟨by decide +kernel, rfl⟩
theorem dd_X4_read_161 : jd cX4_read 161 (.getfield 19) 3 164 := ⟨by decide +kernel, rfl⟩
theorem dd_X4_read_164 : jd cX4_read 164 (.aload 5) 2 166 := ⟨by decide +kernel, rfl⟩
theorem dd_X4_read_166 : jd cX4_read 166 (.getfield 250) 3 169 := ⟨by decide +kernel, rfl⟩
theorem dd_X4_read_169 : jd cX4_read 169 (.iload_n 3) 1 170 := ⟨by decide +kernel, rfl⟩
theorem dd_X4_read_170 : jd cX4_read 170 (.iconst 2) 1 171 := ⟨by decide +kernel, rfl⟩
theorem dd_X4_read_171 : jd cX4_read 171 (.iload 8) 2 173 := ⟨by decide +kernel, rfl⟩
theorem dd_X4_read_173 : jd cX4_read 173 (.imul) 1 174 := ⟨by decide +kernel, rfl⟩
theorem dd_X4_read_174 : jd cX4_read 174 (.iadd) 1 175 := ⟨by decide +kernel, rfl⟩
theorem dd_X4_read_175 : jd cX4_read 175 (.iaload) 1 176 := ⟨by decide +kernel, rfl⟩
theorem dd_X4_read_176 : jd cX4_read 176 (.aload 5) 2 178 := ⟨by decide +kernel, rfl⟩
theorem dd_X4_read_178 : jd cX4_read 178 (.getfield 250) 3 181 := ⟨by decide +kernel, rfl⟩
theorem dd_X4_read_181 : jd cX4_read 181 (.iload_n 3) 1 182 := ⟨by decide +kernel, rfl⟩
theorem dd_X4_read_182 : jd cX4_read 182 (.iconst 2) 1 183 := ⟨by decide +kernel, rfl⟩
theorem dd_X4_read_183 : jd cX4_read 183 (.iload 8) 2 185 := ⟨by decide +kernel, rfl⟩
theorem dd_X4_read_185 : jd cX4_read 185 (.imul) 1 186 := ⟨by decide +kernel, rfl⟩
theorem dd_X4_read_186 : jd cX4_read 186 (.iadd) 1 187 := ⟨by decide +kernel, rfl⟩
theorem dd_X4_read_187 : jd cX4_read 187 (.iconst 1) 1 188 := ⟨by decide +kernel, rfl⟩
theorem dd_X4_read_188 : jd cX4_read 188 (.iadd) 1 189 := ⟨by decide +kernel, rfl⟩
theorem dd_X4_read_189 : jd cX4_read 189 (.iaload) 1 190 := ⟨by decide +kernel, rfl⟩
theorem dd_X4_read_190 : jd cX4_read 190 (.invokevirtual 140) 3 193 := ⟨by decide +kernel, rfl⟩
theorem dd_X4_read_193 : jd cX4_read 193 (.iinc 8 1) 3 196 := ⟨by decide +kernel, rfl⟩
theorem dd_X4_read_196 : jd cX4_read 196 (.goto (-43)) 3 199 := ⟨by decide +kernel, rfl⟩
theorem dd_X4_read_157 : jd cX4_read 157 (.if_icmp .ge 42) 3 160 := ⟨by decide +kernel, rfl⟩
theorem dd_X4_read_199 : jd cX4_read 199 (.aload_n 0) 1 200 := ⟨by decide +kernel, rfl⟩
theorem dd_X4_read_200 : jd cX4_read 200 (.iload 6) 2 202 := ⟨by decide +kernel, rfl⟩
theorem fl_RX4_253 : (Cond.fieldLink "MothCustoms" 253 "MothCustoms" "torn" "I" : Cond) ∈ jj_tb := jj_m (List.mem_of_getElem? (i := 275) (by decide +kernel)) rfl
theorem dd_X4_read_202 : jd cX4_read 202 (.putfield 253) 3 205 := ⟨by decide +kernel, rfl⟩
theorem dd_X4_read_205 : jd cX4_read 205 (.iload 7) 2 207 := ⟨by decide +kernel, rfl⟩
theorem dd_X4_read_207 : jd cX4_read 207 (.ireturn) 1 208 := ⟨by decide +kernel, rfl⟩
theorem dd_X4_read_22 : jd cX4_read 22 (.ifCond .ne 5) 3 25 := ⟨by decide +kernel, rfl⟩
theorem dd_X4_read_11 : jd cX4_read 11 (.ifCond .eq 14) 3 14 := ⟨by decide +kernel, rfl⟩
theorem dd_X4_read_4 : jd cX4_read 4 (.ifCond .eq 21) 3 7 := ⟨by decide +kernel, rfl⟩
theorem m_X4_read : jmV yX4_read cX4_read 9 (some .int) 4 := ⟨⟨(jj_m (w := Cond.code yX4_read cX4_read 9 (some .int)) (List.mem_of_getElem? (i := 767) (by decide +kernel)) rfl), (jj_m (w := Cond.initialized yX4_read.cls) (List.mem_of_getElem? (i := 64) (by decide +kernel)) rfl), ⟨by decide, by decide⟩, by decide +kernel⟩, (jj_m (w := Cond.instanceMethod yX4_read) (List.mem_of_getElem? (i := 765) (by decide +kernel)) rfl), (jj_m (w := Cond.selects yX4_read.cls yX4_read yX4_read) (List.mem_of_getElem? (i := 766) (by decide +kernel)) rfl)⟩
def fX4_read_L89 (X : M3) (i1 : Int32) (i3 : Int32) (p12 : Int32) (p16 : Int32) (k150 : Unit → Option (Int32 × M3)) : Nat → Int32 → Option (Int32 × M3)
  | 0, _ => none
  | n_ + 1, v17 =>
    if p12 ≤ v17 then
      k150 ()
    else
      bnd (i3 + ((2 : Int32) * v17)) 40 <|
      (fX1_hasBolt ((X (6 + i1.toNatClampNeg)) 3 (i3 + ((2 : Int32) * v17)).toNatClampNeg) (X 2)).bind fun r18 =>
      if r18 = 0 then
        some (((-20 : Int32) - v17), X)
      else
        bnd ((i3 + ((2 : Int32) * v17)) + (1 : Int32)) 40 <|
        (fX4_isBale ((X (6 + i1.toNatClampNeg)) 3 ((i3 + ((2 : Int32) * v17)) + (1 : Int32)).toNatClampNeg)).bind fun r19 =>
        if r19 = 0 then
          some (((-20 : Int32) - v17), X)
        else
          lt (v17 + (1 : Int32)) fun x20 =>
          fX4_read_L89 X i1 i3 p12 p16 k150 n_ x20

def fX4_read_L153 (i1 : Int32) (i3 : Int32) (p12 : Int32) (p16 : Int32) (k199 : M3 → Option (Int32 × M3)) : Nat → Int32 → M3 → Option (Int32 × M3)
  | 0, _, _ => none
  | n_ + 1, v25, X26 =>
    if p12 ≤ v25 then
      k199 X26
    else
      bnd (i3 + ((2 : Int32) * v25)) 40 <|
      bnd ((i3 + ((2 : Int32) * v25)) + (1 : Int32)) 40 <|
      (fX1_putOnTop ((X26 (6 + i1.toNatClampNeg)) 3 (i3 + ((2 : Int32) * v25)).toNatClampNeg) ((X26 (6 + i1.toNatClampNeg)) 3 ((i3 + ((2 : Int32) * v25)) + (1 : Int32)).toNatClampNeg) (X26 2)).bind fun q27 =>
      lt ((va_up X26 2 q27)) fun X28 =>
      lt (v25 + (1 : Int32)) fun x29 =>
      fX4_read_L153 i1 i3 p12 p16 k199 n_ x29 X28

def fX4_read (i1 : Int32) (i2 : Int32) (i3 : Int32) (i4 : Int32) (X : M3) : Option (Int32 × M3) :=
  (fX4_isSheet i1).bind fun r1 =>
  if r1 = 0 then
    some ((-1 : Int32), X)
  else
    (fX4_isLane i2).bind fun r2 =>
    if r2 = 0 then
      some ((-1 : Int32), X)
    else
      (fX4_within i4 (0 : Int32) (20 : Int32)).bind fun r3 =>
      if r3 = 0 then
        some ((-1 : Int32), X)
      else
        bnd i1 4 <|
        jn (α := Option (Int32 × M3)) (β := Int32) (fun j5 =>
          if i4 = 0 then
            j5 (0 : Int32)
          else
            (fX2_faultAs i2 (X (6 + i1.toNatClampNeg))).bind fun r6 =>
            j5 r6) (fun p8 => 
          jn (α := Option (Int32 × M3)) (β := Int32) (fun j9 =>
            if p8 = 0 then
              (fX2_wholePairs i3 i4 (X (6 + i1.toNatClampNeg))).bind fun r10 =>
              j9 r10
            else
              j9 (0 : Int32)) (fun p12 => 
            jn (α := Option (Int32 × M3)) (β := Int32) (fun j13 =>
              if p8 = 0 then
                if i4 ≤ p12 then
                  j13 p8
                else
                  j13 (2 : Int32)
              else
                j13 p8) (fun p16 => 
              fX4_read_L89 X i1 i3 p12 p16
                (fun _ =>
                  fX4_read_L153 i1 i3 p12 p16
                    (fun p31 =>
                      lt ((va_up p31 0 (va_up (p31 0) 7 (fun _ => p16)))) fun X32 =>
                      some (p12, X32))
                    400 (0 : Int32) X)
                400 (0 : Int32))))

set_option maxHeartbeats 4000000 in
set_option maxRecDepth 100000 in
theorem tX4_read_L89 {V : JV M3} {ob : Nat → Nat} {aa : Nat → Nat → Nat} (hX : vX4 V ob aa) (X : M3) (i1 : Int32) (i3 : Int32) (p12 : Int32) (p16 : Int32) (hq4 : ¬ (i1 < 0 ∨ 4 ≤ i1.toNatClampNeg)) {E : JE (M3) Int32} (hE : JOk V E cX4_read yX4_read.cls 9 3 (some .int) jj_i) {k150 : Unit → Option (Int32 × M3)} (hk150 : ∀ p, J V E (fun q => (q.1, q.2)) (k150 p) 150 [(0, .ref (ob 0)), (3, .int i3), (5, .ref (ob (6 + i1.toNatClampNeg))), (6, .int p16), (7, .int p12)] [] X) : ∀ (n_ : Nat) (v17 : Int32), J V E (fun q => (q.1, q.2)) (fX4_read_L89 X i1 i3 p12 p16 k150 n_ v17) 89 [(0, .ref (ob 0)), (3, .int i3), (5, .ref (ob (6 + i1.toNatClampNeg))), (6, .int p16), (7, .int p12), (8, .int v17)] [] X := by
  intro n_
  induction n_ with
  | zero =>
    intros
    exact J_none
  | succ n_ ih =>
    intros v17
    rw [fX4_read_L89]
    refine J_iload hE dd_X4_read_89 5 rfl ?_
    refine J_iload hE dd_X4_read_91 4 rfl ?_
    refine J_icmp_ge hE (tgt := 150) dd_X4_read_93 (by decide) (fun c23 => ?_) (fun c23 => ?_)
    · refine J_sub [0, 1, 2, 3, 4] rfl ?_
      exact hk150 ()
    · refine J_aload_n hE dd_X4_read_96 0 rfl rfl ?_
      refine J_get hE (hX.rt.ob _) jc_X4 1 (by decide) fl_RX4_19 (v := .ref (ob 2)) rfl dd_X4_read_97 ?_
      refine J_aload hE dd_X4_read_100 2 rfl ?_
      refine J_get hE ((hX.st (stI hq4)).ob _) jc_X2 3 (by decide) fl_RX4_250 (v := .ref ((aa (6 + i1.toNatClampNeg)) 3)) rfl dd_X4_read_102 ?_
      refine J_iload_n hE dd_X4_read_105 1 rfl rfl ?_
      refine J_iconst hE (v := (2 : Int32)) dd_X4_read_106 (by decide) ?_
      refine J_iload hE dd_X4_read_107 5 rfl ?_
      refine J_imul hE dd_X4_read_109 ?_
      refine J_iadd hE dd_X4_read_110 ?_
      refine J_ald hE ((hX.st (stI hq4)).arr 3 (n := 40) (ty := .int) (by decide) _) dd_X4_read_111 ?_
      refine J_invVri hE (As := [.int ((X (6 + i1.toNatClampNeg)) 3 (i3 + ((2 : Int32) * v17)).toNatClampNeg)]) (st := []) (JC.lift_r (e := fun S => va_up X 2 S) (tX1_hasBolt E.2.1 (hX.shS X sh2) (X 2) ((X (6 + i1.toNatClampNeg)) 3 (i3 + ((2 : Int32) * v17)).toNatClampNeg)) (va_up_eta _ _)) ((hX.sh sh2).ob _) m_X1_hasBolt rfl ml_RX4_95 (Nat.le_of_ble_eq_true rfl) (Nat.le_of_ble_eq_true rfl) rfl (Nat.le_of_ble_eq_true rfl) dd_X4_read_112 (fun r18 => ?_)
      refine J_if_eq hE (tgt := 138) dd_X4_read_115 (by decide) (fun c22 => ?_) (fun c22 => ?_)
      · refine J_bipush hE (v := (-20 : Int32)) dd_X4_read_138 (by decide) ?_
        refine J_iload hE dd_X4_read_140 5 rfl ?_
        refine J_isub hE dd_X4_read_142 ?_
        exact J_iret hE dd_X4_read_143 rfl rfl
      · refine J_aload hE dd_X4_read_118 2 rfl ?_
        refine J_get hE ((hX.st (stI hq4)).ob _) jc_X2 3 (by decide) fl_RX4_250 (v := .ref ((aa (6 + i1.toNatClampNeg)) 3)) rfl dd_X4_read_120 ?_
        refine J_iload_n hE dd_X4_read_123 1 rfl rfl ?_
        refine J_iconst hE (v := (2 : Int32)) dd_X4_read_124 (by decide) ?_
        refine J_iload hE dd_X4_read_125 5 rfl ?_
        refine J_imul hE dd_X4_read_127 ?_
        refine J_iadd hE dd_X4_read_128 ?_
        refine J_iconst hE (v := (1 : Int32)) dd_X4_read_129 (by decide) ?_
        refine J_iadd hE dd_X4_read_130 ?_
        refine J_ald hE ((hX.st (stI hq4)).arr 3 (n := 40) (ty := .int) (by decide) _) dd_X4_read_131 ?_
        refine J_invSri hE (As := [.int ((X (6 + i1.toNatClampNeg)) 3 ((i3 + ((2 : Int32) * v17)) + (1 : Int32)).toNatClampNeg)]) (st := []) (tX4_isBale E.2.1 V X ((X (6 + i1.toNatClampNeg)) 3 ((i3 + ((2 : Int32) * v17)) + (1 : Int32)).toNatClampNeg)) m_X4_isBale s_X4_isBale rfl ml_RX4_128 (Nat.le_of_ble_eq_true rfl) (Nat.le_of_ble_eq_true rfl) rfl (Nat.le_of_ble_eq_true rfl) dd_X4_read_132 (fun r19 => ?_)
        refine J_if_ne hE (tgt := 144) dd_X4_read_135 (by decide) (fun c21 => ?_) (fun c21 => ?_)
        · refine J_iincL hE (v := (v17 + (1 : Int32))) (Lf := fun x20 => [(8, .int x20), (0, .ref (ob 0)), (3, .int i3), (5, .ref (ob (6 + i1.toNatClampNeg))), (6, .int p16), (7, .int p12)]) dd_X4_read_144 (j := 5) rfl (congrArg (v17 + ·) (by decide)) (Nat.le_of_ble_eq_true rfl) (fun _ => rfl) (fun x20 => ?_)
          refine J_goto hE (tgt := 89) dd_X4_read_147 (by decide) ?_
          refine J_sub [1, 2, 3, 4, 5, 0] rfl ?_
          exact ih x20
        · refine J_bipush hE (v := (-20 : Int32)) dd_X4_read_138 (by decide) ?_
          refine J_iload hE dd_X4_read_140 5 rfl ?_
          refine J_isub hE dd_X4_read_142 ?_
          exact J_iret hE dd_X4_read_143 rfl rfl
set_option maxHeartbeats 4000000 in
set_option maxRecDepth 100000 in
theorem tX4_read_L153 {V : JV M3} {ob : Nat → Nat} {aa : Nat → Nat → Nat} (hX : vX4 V ob aa) (i1 : Int32) (i3 : Int32) (p12 : Int32) (p16 : Int32) (hq4 : ¬ (i1 < 0 ∨ 4 ≤ i1.toNatClampNeg)) {E : JE (M3) Int32} (hE : JOk V E cX4_read yX4_read.cls 9 3 (some .int) jj_i) {k199 : M3 → Option (Int32 × M3)} (hk199 : ∀ p, J V E (fun q => (q.1, q.2)) (k199 p) 199 [(0, .ref (ob 0)), (6, .int p16), (7, .int p12)] [] p) : ∀ (n_ : Nat) (v25 : Int32) (X26 : M3), J V E (fun q => (q.1, q.2)) (fX4_read_L153 i1 i3 p12 p16 k199 n_ v25 X26) 153 [(0, .ref (ob 0)), (3, .int i3), (5, .ref (ob (6 + i1.toNatClampNeg))), (6, .int p16), (7, .int p12), (8, .int v25)] [] X26 := by
  intro n_
  induction n_ with
  | zero =>
    intros
    exact J_none
  | succ n_ ih =>
    intros v25 X26
    rw [fX4_read_L153]
    refine J_iload hE dd_X4_read_153 5 rfl ?_
    refine J_iload hE dd_X4_read_155 4 rfl ?_
    refine J_icmp_ge hE (tgt := 199) dd_X4_read_157 (by decide) (fun c30 => ?_) (fun c30 => ?_)
    · refine J_sub [0, 3, 4] rfl ?_
      exact hk199 X26
    · refine J_aload_n hE dd_X4_read_160 0 rfl rfl ?_
      refine J_get hE (hX.rt.ob _) jc_X4 1 (by decide) fl_RX4_19 (v := .ref (ob 2)) rfl dd_X4_read_161 ?_
      refine J_aload hE dd_X4_read_164 2 rfl ?_
      refine J_get hE ((hX.st (stI hq4)).ob _) jc_X2 3 (by decide) fl_RX4_250 (v := .ref ((aa (6 + i1.toNatClampNeg)) 3)) rfl dd_X4_read_166 ?_
      refine J_iload_n hE dd_X4_read_169 1 rfl rfl ?_
      refine J_iconst hE (v := (2 : Int32)) dd_X4_read_170 (by decide) ?_
      refine J_iload hE dd_X4_read_171 5 rfl ?_
      refine J_imul hE dd_X4_read_173 ?_
      refine J_iadd hE dd_X4_read_174 ?_
      refine J_ald hE ((hX.st (stI hq4)).arr 3 (n := 40) (ty := .int) (by decide) _) dd_X4_read_175 ?_
      refine J_aload hE dd_X4_read_176 2 rfl ?_
      refine J_get hE ((hX.st (stI hq4)).ob _) jc_X2 3 (by decide) fl_RX4_250 (v := .ref ((aa (6 + i1.toNatClampNeg)) 3)) rfl dd_X4_read_178 ?_
      refine J_iload_n hE dd_X4_read_181 1 rfl rfl ?_
      refine J_iconst hE (v := (2 : Int32)) dd_X4_read_182 (by decide) ?_
      refine J_iload hE dd_X4_read_183 5 rfl ?_
      refine J_imul hE dd_X4_read_185 ?_
      refine J_iadd hE dd_X4_read_186 ?_
      refine J_iconst hE (v := (1 : Int32)) dd_X4_read_187 (by decide) ?_
      refine J_iadd hE dd_X4_read_188 ?_
      refine J_ald hE ((hX.st (stI hq4)).arr 3 (n := 40) (ty := .int) (by decide) _) dd_X4_read_189 ?_
      refine J_invVwv hE (e := fun S => va_up X26 2 S) (As := [.int ((X26 (6 + i1.toNatClampNeg)) 3 (i3 + ((2 : Int32) * v25)).toNatClampNeg), .int ((X26 (6 + i1.toNatClampNeg)) 3 ((i3 + ((2 : Int32) * v25)) + (1 : Int32)).toNatClampNeg)]) (st := []) (JC.lift_v (e := fun S => va_up X26 2 S) (tX1_putOnTop E.2.1 (hX.shS X26 sh2) (X26 2) ((X26 (6 + i1.toNatClampNeg)) 3 (i3 + ((2 : Int32) * v25)).toNatClampNeg) ((X26 (6 + i1.toNatClampNeg)) 3 ((i3 + ((2 : Int32) * v25)) + (1 : Int32)).toNatClampNeg)) (va_up_eta _ _)) ((hX.sh sh2).ob _) m_X1_putOnTop rfl ml_RX4_140 (Nat.le_of_ble_eq_true rfl) (Nat.le_of_ble_eq_true rfl) rfl (Nat.le_of_ble_eq_true rfl) dd_X4_read_190 (fun q27 => ?_)
      refine J_letS (fun X28 => ?_)
      refine J_iincL hE (v := (v25 + (1 : Int32))) (Lf := fun x29 => [(8, .int x29), (0, .ref (ob 0)), (3, .int i3), (5, .ref (ob (6 + i1.toNatClampNeg))), (6, .int p16), (7, .int p12)]) dd_X4_read_193 (j := 5) rfl (congrArg (v25 + ·) (by decide)) (Nat.le_of_ble_eq_true rfl) (fun _ => rfl) (fun x29 => ?_)
      refine J_goto hE (tgt := 153) dd_X4_read_196 (by decide) ?_
      refine J_sub [1, 2, 3, 4, 5, 0] rfl ?_
      exact ih x29 X28
set_option maxHeartbeats 4000000 in
set_option maxRecDepth 100000 in
theorem tX4_read (l : Launch) {V : JV M3} {ob : Nat → Nat} {aa : Nat → Nat → Nat} (hX : vX4 V ob aa) (X : M3) (i1 : Int32) (i2 : Int32) (i3 : Int32) (i4 : Int32) : JC l V yX4_read cX4_read 9 (some .int) jj_i 3 [.ref (ob 0), .int i1, .int i2, .int i3, .int i4] X ((fX4_read i1 i2 i3 i4 X).map (fun q => (q.1, q.2))) := by
  refine jj_of (by decide) (Nat.le_of_ble_eq_true rfl) (fun E hlE hE => ?_)
  unfold fX4_read
  refine J_sub (L' := [(0, .ref (ob 0)), (1, .int i1), (2, .int i2), (3, .int i3), (4, .int i4)]) [0, 1, 2, 3, 4] rfl ?_
  refine J_iload_n hE dd_X4_read_0 1 rfl rfl ?_
  refine J_invSri hE (As := [.int i1]) (st := []) (tX4_isSheet E.2.1 V X i1) m_X4_isSheet s_X4_isSheet rfl ml_RX4_225 (Nat.le_of_ble_eq_true rfl) (Nat.le_of_ble_eq_true rfl) rfl (Nat.le_of_ble_eq_true rfl) dd_X4_read_1 (fun r1 => ?_)
  refine J_if_eq hE (tgt := 25) dd_X4_read_4 (by decide) (fun c35 => ?_) (fun c35 => ?_)
  · refine J_iconst hE (v := (-1 : Int32)) dd_X4_read_25 (by decide) ?_
    exact J_iret hE dd_X4_read_26 rfl rfl
  · refine J_iload_n hE dd_X4_read_7 2 rfl rfl ?_
    refine J_invSri hE (As := [.int i2]) (st := []) (tX4_isLane E.2.1 V X i2) m_X4_isLane s_X4_isLane rfl ml_RX4_228 (Nat.le_of_ble_eq_true rfl) (Nat.le_of_ble_eq_true rfl) rfl (Nat.le_of_ble_eq_true rfl) dd_X4_read_8 (fun r2 => ?_)
    refine J_if_eq hE (tgt := 25) dd_X4_read_11 (by decide) (fun c34 => ?_) (fun c34 => ?_)
    · refine J_iconst hE (v := (-1 : Int32)) dd_X4_read_25 (by decide) ?_
      exact J_iret hE dd_X4_read_26 rfl rfl
    · refine J_iload hE dd_X4_read_14 4 rfl ?_
      refine J_iconst hE (v := (0 : Int32)) dd_X4_read_16 (by decide) ?_
      refine J_bipush hE (v := (20 : Int32)) dd_X4_read_17 (by decide) ?_
      refine J_invSri hE (As := [.int i4, .int (0 : Int32), .int (20 : Int32)]) (st := []) (tX4_within E.2.1 V X i4 (0 : Int32) (20 : Int32)) m_X4_within s_X4_within rfl ml_RX4_44 (Nat.le_of_ble_eq_true rfl) (Nat.le_of_ble_eq_true rfl) rfl (Nat.le_of_ble_eq_true rfl) dd_X4_read_19 (fun r3 => ?_)
      refine J_if_ne hE (tgt := 27) dd_X4_read_22 (by decide) (fun c33 => ?_) (fun c33 => ?_)
      · refine J_aload_n hE dd_X4_read_27 0 rfl rfl ?_
        refine J_get hE (hX.rt.ob _) jc_X4 4 (by decide) fl_RX4_32 (v := .ref (aa 0 4)) rfl dd_X4_read_28 ?_
        refine J_iload_n hE dd_X4_read_31 1 rfl rfl ?_
        refine J_qld hE (hX.ss _) dd_X4_read_32 (fun hq4 => ?_)
        show J V E _ _ 33 _ (.ref (ob (6 + i1.toNatClampNeg)) :: _) _
        refine J_astore hE (L' := [(5, .ref (ob (6 + i1.toNatClampNeg))), (0, .ref (ob 0)), (1, .int i1), (2, .int i2), (3, .int i3), (4, .int i4)]) dd_X4_read_33 (Nat.le_of_ble_eq_true rfl) rfl ?_
        refine J_iload hE dd_X4_read_35 5 rfl ?_
        refine J_jn (m := 50) (Lf := fun p8 => [(0, .ref (ob 0)), (3, .int i3), (4, .int i4), (5, .ref (ob (6 + i1.toNatClampNeg)))]) (sf := fun p8 => [.int p8]) (Xf := fun p8 => X) (fun p8 => ?_) (fun hj5 => ?_)
        · show J V E _ _ 50 [(0, .ref (ob 0)), (3, .int i3), (4, .int i4), (5, .ref (ob (6 + i1.toNatClampNeg)))] [.int p8] X
          refine J_istore hE (L' := [(6, .int p8), (0, .ref (ob 0)), (3, .int i3), (4, .int i4), (5, .ref (ob (6 + i1.toNatClampNeg)))]) dd_X4_read_50 (Nat.le_of_ble_eq_true rfl) rfl ?_
          refine J_iload hE dd_X4_read_52 0 rfl ?_
          refine J_jn (m := 69) (Lf := fun p12 => [(0, .ref (ob 0)), (3, .int i3), (4, .int i4), (5, .ref (ob (6 + i1.toNatClampNeg))), (6, .int p8)]) (sf := fun p12 => [.int p12]) (Xf := fun p12 => X) (fun p12 => ?_) (fun hj9 => ?_)
          · show J V E _ _ 69 [(0, .ref (ob 0)), (3, .int i3), (4, .int i4), (5, .ref (ob (6 + i1.toNatClampNeg))), (6, .int p8)] [.int p12] X
            refine J_istore hE (L' := [(7, .int p12), (0, .ref (ob 0)), (3, .int i3), (4, .int i4), (5, .ref (ob (6 + i1.toNatClampNeg))), (6, .int p8)]) dd_X4_read_69 (Nat.le_of_ble_eq_true rfl) rfl ?_
            refine J_iload hE dd_X4_read_71 5 rfl ?_
            refine J_jn (m := 86) (Lf := fun p16 => [(0, .ref (ob 0)), (3, .int i3), (5, .ref (ob (6 + i1.toNatClampNeg))), (6, .int p16), (7, .int p12)]) (sf := fun p16 => []) (Xf := fun p16 => X) (fun p16 => ?_) (fun hj13 => ?_)
            · show J V E _ _ 86 [(0, .ref (ob 0)), (3, .int i3), (5, .ref (ob (6 + i1.toNatClampNeg))), (6, .int p16), (7, .int p12)] [] X
              refine J_iconst hE (v := (0 : Int32)) dd_X4_read_86 (by decide) ?_
              refine J_istore hE (L' := [(8, .int (0 : Int32)), (0, .ref (ob 0)), (3, .int i3), (5, .ref (ob (6 + i1.toNatClampNeg))), (6, .int p16), (7, .int p12)]) dd_X4_read_87 (Nat.le_of_ble_eq_true rfl) rfl ?_
              refine J_sub [1, 2, 3, 4, 5, 0] rfl ?_
              refine tX4_read_L89 hX X i1 i3 p12 p16 hq4 hE (fun _ => ?_) 400 (0 : Int32)
              show J V E _ _ 150 [(0, .ref (ob 0)), (3, .int i3), (5, .ref (ob (6 + i1.toNatClampNeg))), (6, .int p16), (7, .int p12)] [] X
              refine J_iconst hE (v := (0 : Int32)) dd_X4_read_150 (by decide) ?_
              refine J_istore hE (L' := [(8, .int (0 : Int32)), (0, .ref (ob 0)), (3, .int i3), (5, .ref (ob (6 + i1.toNatClampNeg))), (6, .int p16), (7, .int p12)]) dd_X4_read_151 (Nat.le_of_ble_eq_true rfl) rfl ?_
              refine J_sub [1, 2, 3, 4, 5, 0] rfl ?_
              refine tX4_read_L153 hX i1 i3 p12 p16 hq4 hE (fun p31 => ?_) 400 (0 : Int32) X
              show J V E _ _ 199 [(0, .ref (ob 0)), (6, .int p16), (7, .int p12)] [] p31
              refine J_aload_n hE dd_X4_read_199 0 rfl rfl ?_
              refine J_iload hE dd_X4_read_200 1 rfl ?_
              refine J_put hE hX.rt jc_X4 7 (by decide) (by decide) fl_RX4_253 rfl rfl rfl (Nat.le_of_ble_eq_true rfl) dd_X4_read_202 ?_
              refine J_letS (fun X32 => ?_)
              refine J_iload hE dd_X4_read_205 2 rfl ?_
              exact J_iret hE dd_X4_read_207 rfl rfl
            · refine J_if_ne hE (tgt := 86) dd_X4_read_73 (by decide) (fun c15 => ?_) (fun c15 => ?_)
              · refine J_sub [1, 2, 4, 5, 0] rfl ?_
                exact hj13 p8
              · refine J_iload hE dd_X4_read_76 0 rfl ?_
                refine J_iload hE dd_X4_read_78 3 rfl ?_
                refine J_icmp_ge hE (tgt := 86) dd_X4_read_80 (by decide) (fun c14 => ?_) (fun c14 => ?_)
                · refine J_sub [1, 2, 4, 5, 0] rfl ?_
                  exact hj13 p8
                · refine J_iconst hE (v := (2 : Int32)) dd_X4_read_83 (by decide) ?_
                  refine J_istore hE (L' := [(6, .int (2 : Int32)), (7, .int p12), (0, .ref (ob 0)), (3, .int i3), (4, .int i4), (5, .ref (ob (6 + i1.toNatClampNeg)))]) dd_X4_read_84 (Nat.le_of_ble_eq_true rfl) rfl ?_
                  refine J_sub [2, 3, 5, 0, 1] rfl ?_
                  exact hj13 (2 : Int32)
          · refine J_if_ne hE (tgt := 68) dd_X4_read_54 (by decide) (fun c11 => ?_) (fun c11 => ?_)
            · refine J_iconst hE (v := (0 : Int32)) dd_X4_read_68 (by decide) ?_
              refine J_sub [1, 2, 3, 4, 0] rfl ?_
              exact hj9 (0 : Int32)
            · refine J_aload hE dd_X4_read_57 4 rfl ?_
              refine J_iload_n hE dd_X4_read_59 2 rfl rfl ?_
              refine J_iload hE dd_X4_read_60 3 rfl ?_
              refine J_invVri hE (As := [.int i3, .int i4]) (st := []) (JC.lift_r (e := fun S => va_up X (6 + i1.toNatClampNeg) S) (tX2_wholePairs E.2.1 (hX.stS X (stI hq4)) (X (6 + i1.toNatClampNeg)) i3 i4) (va_up_eta _ _)) ((hX.st (stI hq4)).ob _) m_X2_wholePairs rfl ml_RX4_247 (Nat.le_of_ble_eq_true rfl) (Nat.le_of_ble_eq_true rfl) rfl (Nat.le_of_ble_eq_true rfl) dd_X4_read_62 (fun r10 => ?_)
              refine J_goto hE (tgt := 69) dd_X4_read_65 (by decide) ?_
              refine J_sub [1, 2, 3, 4, 0] rfl ?_
              exact hj9 r10
        · refine J_if_ne hE (tgt := 44) dd_X4_read_37 (by decide) (fun c7 => ?_) (fun c7 => ?_)
          · refine J_aload hE dd_X4_read_44 0 rfl ?_
            refine J_iload_n hE dd_X4_read_46 3 rfl rfl ?_
            refine J_invVri hE (As := [.int i2]) (st := []) (JC.lift_r (e := fun S => va_up X (6 + i1.toNatClampNeg) S) (tX2_faultAs E.2.1 (hX.stS X (stI hq4)) (X (6 + i1.toNatClampNeg)) i2) (va_up_eta _ _)) ((hX.st (stI hq4)).ob _) m_X2_faultAs rfl ml_RX4_244 (Nat.le_of_ble_eq_true rfl) (Nat.le_of_ble_eq_true rfl) rfl (Nat.le_of_ble_eq_true rfl) dd_X4_read_47 (fun r6 => ?_)
            refine J_sub [1, 4, 5, 0] rfl ?_
            exact hj5 r6
          · refine J_iconst hE (v := (0 : Int32)) dd_X4_read_40 (by decide) ?_
            refine J_goto hE (tgt := 50) dd_X4_read_41 (by decide) ?_
            refine J_sub [1, 4, 5, 0] rfl ?_
            exact hj5 (0 : Int32)
      · refine J_iconst hE (v := (-1 : Int32)) dd_X4_read_25 (by decide) ?_
        exact J_iret hE dd_X4_read_26 rfl rfl
theorem dd_X4_torn_0 : jd cX4_torn 0 (.aload_n 0) 1 1 := ⟨by decide +kernel, rfl⟩
theorem dd_X4_torn_1 : jd cX4_torn 1 (.getfield 253) 3 4 := ⟨by decide +kernel, rfl⟩
theorem dd_X4_torn_4 : jd cX4_torn 4 (.ireturn) 1 5 := ⟨by decide +kernel, rfl⟩
theorem m_X4_torn : jmV yX4_torn cX4_torn 1 (some .int) 0 := ⟨⟨(jj_m (w := Cond.code yX4_torn cX4_torn 1 (some .int)) (List.mem_of_getElem? (i := 780) (by decide +kernel)) rfl), (jj_m (w := Cond.initialized yX4_torn.cls) (List.mem_of_getElem? (i := 64) (by decide +kernel)) rfl), ⟨by decide, by decide⟩, by decide +kernel⟩, (jj_m (w := Cond.instanceMethod yX4_torn) (List.mem_of_getElem? (i := 778) (by decide +kernel)) rfl), (jj_m (w := Cond.selects yX4_torn.cls yX4_torn yX4_torn) (List.mem_of_getElem? (i := 779) (by decide +kernel)) rfl)⟩
def fX4_torn  (X : M3) : Option (Int32) :=
  some ((X 0) 7 0)

set_option maxHeartbeats 4000000 in
set_option maxRecDepth 100000 in
theorem tX4_torn (l : Launch) {V : JV M3} {ob : Nat → Nat} {aa : Nat → Nat → Nat} (hX : vX4 V ob aa) (X : M3)  : JC l V yX4_torn cX4_torn 1 (some .int) jj_i 0 [.ref (ob 0)] X ((fX4_torn  X).map (fun r => (r, X))) := by
  refine jj_of (by decide) (Nat.le_of_ble_eq_true rfl) (fun E hlE hE => ?_)
  unfold fX4_torn
  refine J_sub (L' := [(0, .ref (ob 0))]) [0] rfl ?_
  refine J_aload_n hE dd_X4_torn_0 0 rfl rfl ?_
  refine J_get hE (hX.rt.ob _) jc_X4 7 (by decide) fl_RX4_253 (v := .int ((X 0) 7 0)) rfl dd_X4_torn_1 ?_
  exact J_iret hE dd_X4_torn_4 rfl rfl
theorem dd_X4_count_0 : jd cX4_count 0 (.iload_n 1) 1 1 := ⟨by decide +kernel, rfl⟩
theorem dd_X4_count_36 : jd cX4_count 36 (.aload_n 0) 1 37 := ⟨by decide +kernel, rfl⟩
theorem dd_X4_count_37 : jd cX4_count 37 (.getfield 19) 3 40 := ⟨by decide +kernel, rfl⟩
theorem dd_X4_count_40 : jd cX4_count 40 (.invokevirtual 167) 3 43 := ⟨by decide +kernel, rfl⟩
theorem dd_X4_count_43 : jd cX4_count 43 (.ireturn) 1 44 := ⟨by decide +kernel, rfl⟩
theorem dd_X4_count_44 : jd cX4_count 44 (.aload_n 0) 1 45 := ⟨by decide +kernel, rfl⟩
theorem dd_X4_count_45 : jd cX4_count 45 (.getfield 19) 3 48 := ⟨by decide +kernel, rfl⟩
theorem dd_X4_count_48 : jd cX4_count 48 (.getfield 205) 3 51 := ⟨by decide +kernel, rfl⟩
theorem dd_X4_count_51 : jd cX4_count 51 (.ireturn) 1 52 := ⟨by decide +kernel, rfl⟩
theorem dd_X4_count_52 : jd cX4_count 52 (.aload_n 0) 1 53 := ⟨by decide +kernel, rfl⟩
theorem dd_X4_count_53 : jd cX4_count 53 (.getfield 70) 3 56 := ⟨by decide +kernel, rfl⟩
theorem ml_RX4_256 : (Cond.methodLink "MothCustoms" 256 yJ6_bitCount_0f7a4 : Cond) ∈ jj_tb := jj_m (List.mem_of_getElem? (i := 785) (by decide +kernel)) rfl
theorem dd_X4_count_56 : jd cX4_count 56 (.invokestatic 256) 3 59 := ⟨by decide +kernel, rfl⟩
theorem dd_X4_count_59 : jd cX4_count 59 (.ireturn) 1 60 := ⟨by decide +kernel, rfl⟩
theorem dd_X4_count_60 : jd cX4_count 60 (.aload_n 0) 1 61 := ⟨by decide +kernel, rfl⟩
theorem dd_X4_count_61 : jd cX4_count 61 (.getfield 12) 3 64 := ⟨by decide +kernel, rfl⟩
theorem dd_X4_count_64 : jd cX4_count 64 (.getfield 48) 3 67 := ⟨by decide +kernel, rfl⟩
theorem dd_X4_count_67 : jd cX4_count 67 (.ireturn) 1 68 := ⟨by decide +kernel, rfl⟩
theorem dd_X4_count_68 : jd cX4_count 68 (.aload_n 0) 1 69 := ⟨by decide +kernel, rfl⟩
theorem dd_X4_count_69 : jd cX4_count 69 (.getfield 32) 3 72 := ⟨by decide +kernel, rfl⟩
theorem dd_X4_count_72 : jd cX4_count 72 (.iconst 0) 1 73 := ⟨by decide +kernel, rfl⟩
theorem dd_X4_count_73 : jd cX4_count 73 (.aaload) 1 74 := ⟨by decide +kernel, rfl⟩
theorem dd_X4_count_74 : jd cX4_count 74 (.getfield 234) 3 77 := ⟨by decide +kernel, rfl⟩
theorem dd_X4_count_92 : jd cX4_count 92 (.bipush (-4)) 2 94 := ⟨by decide +kernel, rfl⟩
theorem dd_X4_count_94 : jd cX4_count 94 (.ireturn) 1 95 := ⟨by decide +kernel, rfl⟩
theorem dd_X4_count_80 : jd cX4_count 80 (.aload_n 0) 1 81 := ⟨by decide +kernel, rfl⟩
theorem dd_X4_count_81 : jd cX4_count 81 (.getfield 32) 3 84 := ⟨by decide +kernel, rfl⟩
theorem dd_X4_count_84 : jd cX4_count 84 (.iconst 0) 1 85 := ⟨by decide +kernel, rfl⟩
theorem dd_X4_count_85 : jd cX4_count 85 (.aaload) 1 86 := ⟨by decide +kernel, rfl⟩
theorem fl_RX4_261 : (Cond.fieldLink "MothCustoms" 261 "MothCustoms$Sheet" "size" "I" : Cond) ∈ jj_tb := jj_m (List.mem_of_getElem? (i := 227) (by decide +kernel)) rfl
theorem dd_X4_count_86 : jd cX4_count 86 (.getfield 261) 3 89 := ⟨by decide +kernel, rfl⟩
theorem dd_X4_count_89 : jd cX4_count 89 (.goto 5) 3 92 := ⟨by decide +kernel, rfl⟩
theorem dd_X4_count_77 : jd cX4_count 77 (.ifCond .eq 15) 3 80 := ⟨by decide +kernel, rfl⟩
theorem dd_X4_count_95 : jd cX4_count 95 (.iconst (-1)) 1 96 := ⟨by decide +kernel, rfl⟩
theorem dd_X4_count_96 : jd cX4_count 96 (.ireturn) 1 97 := ⟨by decide +kernel, rfl⟩
theorem dd_X4_count_1 : jd cX4_count 1 (.tableswitch 94 0 4 #[35, 43, 51, 59, 67]) 35 36 := ⟨by decide +kernel, rfl⟩
theorem m_X4_count : jmV yX4_count cX4_count 2 (some .int) 1 := ⟨⟨(jj_m (w := Cond.code yX4_count cX4_count 2 (some .int)) (List.mem_of_getElem? (i := 784) (by decide +kernel)) rfl), (jj_m (w := Cond.initialized yX4_count.cls) (List.mem_of_getElem? (i := 64) (by decide +kernel)) rfl), ⟨by decide, by decide⟩, by decide +kernel⟩, (jj_m (w := Cond.instanceMethod yX4_count) (List.mem_of_getElem? (i := 782) (by decide +kernel)) rfl), (jj_m (w := Cond.selects yX4_count.cls yX4_count yX4_count) (List.mem_of_getElem? (i := 783) (by decide +kernel)) rfl)⟩
def fX4_count (i1 : Int32) (X : M3) : Option (Int32) :=
  if i1 = 0 then
    (fX1_holesInAll  (X 2)).bind fun r2 =>
    some r2
  else
    if i1 = 1 then
      some ((X 2) 15 0)
    else
      if i1 = 2 then
        (fJ6_bitCount_0f7a4 ((X 0) 6 0)).bind fun r5 =>
        some r5
      else
        if i1 = 3 then
          some ((X 1) 1 0)
        else
          if i1 = 4 then
            bnd (0 : Int32) 4 <|
            if ((X (6 + (0 : Int32).toNatClampNeg)) 0 0) = 0 then
              some (-4 : Int32)
            else
              bnd (0 : Int32) 4 <|
              some ((X (6 + (0 : Int32).toNatClampNeg)) 2 0)
          else
            some (-1 : Int32)

set_option maxHeartbeats 4000000 in
set_option maxRecDepth 100000 in
theorem tX4_count (l : Launch) {V : JV M3} {ob : Nat → Nat} {aa : Nat → Nat → Nat} (hX : vX4 V ob aa) (X : M3) (i1 : Int32) : JC l V yX4_count cX4_count 2 (some .int) jj_i 1 [.ref (ob 0), .int i1] X ((fX4_count i1 X).map (fun r => (r, X))) := by
  refine jj_of (by decide) (Nat.le_of_ble_eq_true rfl) (fun E hlE hE => ?_)
  unfold fX4_count
  refine J_sub (L' := [(0, .ref (ob 0)), (1, .int i1)]) [0, 1] rfl ?_
  refine J_iload_n hE dd_X4_count_0 1 rfl rfl ?_
  refine J_ite (fun c1 => ?_) (fun c1 => ?_)
  · refine J_tsAt hE c1 (off := 35) (tgt := 36) dd_X4_count_1 (by decide) (by decide) (by decide) (by decide) ?_
    refine J_aload_n hE dd_X4_count_36 0 rfl rfl ?_
    refine J_get hE (hX.rt.ob _) jc_X4 1 (by decide) fl_RX4_19 (v := .ref (ob 2)) rfl dd_X4_count_37 ?_
    refine J_invVri hE (As := []) (st := []) (JC.lift_r (e := fun S => va_up X 2 S) (tX1_holesInAll E.2.1 (hX.shS X sh2) (X 2) ) (va_up_eta _ _)) ((hX.sh sh2).ob _) m_X1_holesInAll rfl ml_RX4_167 (Nat.le_of_ble_eq_true rfl) (Nat.le_of_ble_eq_true rfl) rfl (Nat.le_of_ble_eq_true rfl) dd_X4_count_40 (fun r2 => ?_)
    exact J_iret hE dd_X4_count_43 rfl rfl
  · refine J_ite (fun c3 => ?_) (fun c3 => ?_)
    · refine J_tsAt hE c3 (off := 43) (tgt := 44) dd_X4_count_1 (by decide) (by decide) (by decide) (by decide) ?_
      refine J_aload_n hE dd_X4_count_44 0 rfl rfl ?_
      refine J_get hE (hX.rt.ob _) jc_X4 1 (by decide) fl_RX4_19 (v := .ref (ob 2)) rfl dd_X4_count_45 ?_
      refine J_get hE ((hX.sh sh2).ob _) jc_X1 15 (by decide) fl_RX4_205 (v := .int ((X 2) 15 0)) rfl dd_X4_count_48 ?_
      exact J_iret hE dd_X4_count_51 rfl rfl
    · refine J_ite (fun c4 => ?_) (fun c4 => ?_)
      · refine J_tsAt hE c4 (off := 51) (tgt := 52) dd_X4_count_1 (by decide) (by decide) (by decide) (by decide) ?_
        refine J_aload_n hE dd_X4_count_52 0 rfl rfl ?_
        refine J_get hE (hX.rt.ob _) jc_X4 6 (by decide) fl_RX4_70 (v := .int ((X 0) 6 0)) rfl dd_X4_count_53 ?_
        refine J_invSri hE (As := [.int ((X 0) 6 0)]) (st := []) (tJ6_bitCount_0f7a4 E.2.1 V X ((X 0) 6 0)) m_J6_bitCount_0f7a4 s_J6_bitCount_0f7a4 rfl ml_RX4_256 (Nat.le_of_ble_eq_true rfl) (Nat.le_of_ble_eq_true rfl) rfl (Nat.le_of_ble_eq_true rfl) dd_X4_count_56 (fun r5 => ?_)
        exact J_iret hE dd_X4_count_59 rfl rfl
      · refine J_ite (fun c6 => ?_) (fun c6 => ?_)
        · refine J_tsAt hE c6 (off := 59) (tgt := 60) dd_X4_count_1 (by decide) (by decide) (by decide) (by decide) ?_
          refine J_aload_n hE dd_X4_count_60 0 rfl rfl ?_
          refine J_get hE (hX.rt.ob _) jc_X4 0 (by decide) fl_RX4_12 (v := .ref (ob 1)) rfl dd_X4_count_61 ?_
          refine J_get hE (hX.tp.ob _) jc_X3 1 (by decide) fl_RX4_48 (v := .int ((X 1) 1 0)) rfl dd_X4_count_64 ?_
          exact J_iret hE dd_X4_count_67 rfl rfl
        · refine J_ite (fun c7 => ?_) (fun c7 => ?_)
          · refine J_tsAt hE c7 (off := 67) (tgt := 68) dd_X4_count_1 (by decide) (by decide) (by decide) (by decide) ?_
            refine J_aload_n hE dd_X4_count_68 0 rfl rfl ?_
            refine J_get hE (hX.rt.ob _) jc_X4 4 (by decide) fl_RX4_32 (v := .ref (aa 0 4)) rfl dd_X4_count_69 ?_
            refine J_iconst hE (v := (0 : Int32)) dd_X4_count_72 (by decide) ?_
            refine J_qld hE (hX.ss _) dd_X4_count_73 (fun hq8 => ?_)
            show J V E _ _ 74 _ (.ref (ob (6 + (0 : Int32).toNatClampNeg)) :: _) _
            refine J_get hE ((hX.st (stI hq8)).ob _) jc_X2 0 (by decide) fl_RX4_234 (v := .int ((X (6 + (0 : Int32).toNatClampNeg)) 0 0)) rfl dd_X4_count_74 ?_
            refine J_if_eq hE (tgt := 92) dd_X4_count_77 (by decide) (fun c10 => ?_) (fun c10 => ?_)
            · refine J_bipush hE (v := (-4 : Int32)) dd_X4_count_92 (by decide) ?_
              exact J_iret hE dd_X4_count_94 rfl rfl
            · refine J_aload_n hE dd_X4_count_80 0 rfl rfl ?_
              refine J_get hE (hX.rt.ob _) jc_X4 4 (by decide) fl_RX4_32 (v := .ref (aa 0 4)) rfl dd_X4_count_81 ?_
              refine J_iconst hE (v := (0 : Int32)) dd_X4_count_84 (by decide) ?_
              refine J_qld hE (hX.ss _) dd_X4_count_85 (fun hq9 => ?_)
              show J V E _ _ 86 _ (.ref (ob (6 + (0 : Int32).toNatClampNeg)) :: _) _
              refine J_get hE ((hX.st (stI hq9)).ob _) jc_X2 2 (by decide) fl_RX4_261 (v := .int ((X (6 + (0 : Int32).toNatClampNeg)) 2 0)) rfl dd_X4_count_86 ?_
              refine J_goto hE (tgt := 94) dd_X4_count_89 (by decide) ?_
              exact J_iret hE dd_X4_count_94 rfl rfl
          · refine J_tsOut hE (tgt := 95) dd_X4_count_1 (by have e0 : ¬ (i1).toInt = 0 := fun q => c1 (Int32.toInt_inj.mp (q.trans (by decide))); have e1 : ¬ (i1).toInt = 1 := fun q => c3 (Int32.toInt_inj.mp (q.trans (by decide))); have e2 : ¬ (i1).toInt = 2 := fun q => c4 (Int32.toInt_inj.mp (q.trans (by decide))); have e3 : ¬ (i1).toInt = 3 := fun q => c6 (Int32.toInt_inj.mp (q.trans (by decide))); have e4 : ¬ (i1).toInt = 4 := fun q => c7 (Int32.toInt_inj.mp (q.trans (by decide))); omega) (by decide) ?_
            refine J_iconst hE (v := (-1 : Int32)) dd_X4_count_95 (by decide) ?_
            exact J_iret hE dd_X4_count_96 rfl rfl
