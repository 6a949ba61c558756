theorem dd_X4_within_0 : jd cX4_within 0 (.iload_n 0) 1 1 := ⟨by decide +kernel, rfl⟩
theorem dd_X4_within_1 : jd cX4_within 1 (.iload_n 1) 1 2 := ⟨by decide +kernel, rfl⟩
theorem dd_X4_within_14 : jd cX4_within 14 (.iconst 0) 1 15 := ⟨by decide +kernel, rfl⟩
theorem dd_X4_within_15 : jd cX4_within 15 (.ireturn) 1 16 := ⟨by decide +kernel, rfl⟩
theorem dd_X4_within_5 : jd cX4_within 5 (.iload_n 0) 1 6 := ⟨by decide +kernel, rfl⟩
theorem dd_X4_within_6 : jd cX4_within 6 (.iload_n 2) 1 7 := ⟨by decide +kernel, rfl⟩
theorem dd_X4_within_10 : jd cX4_within 10 (.iconst 1) 1 11 := ⟨by decide +kernel, rfl⟩
theorem dd_X4_within_11 : jd cX4_within 11 (.goto 4) 3 14 := ⟨by decide +kernel, rfl⟩
theorem dd_X4_within_7 : jd cX4_within 7 (.if_icmp .gt 7) 3 10 := ⟨by decide +kernel, rfl⟩
theorem dd_X4_within_2 : jd cX4_within 2 (.if_icmp .lt 12) 3 5 := ⟨by decide +kernel, rfl⟩
theorem m_X4_within : jmS yX4_within cX4_within 3 (some .boolean) 3 := ⟨(jj_m (w := Cond.code yX4_within cX4_within 3 (some .boolean)) (List.mem_of_getElem? (i := 299) (by decide +kernel)) rfl), (jj_m (w := Cond.initialized yX4_within.cls) (List.mem_of_getElem? (i := 64) (by decide +kernel)) rfl), ⟨by decide, by decide⟩, by decide +kernel⟩
theorem s_X4_within : (Cond.static yX4_within : Cond) ∈ jj_tb := (jj_m (w := Cond.static yX4_within) (List.mem_of_getElem? (i := 298) (by decide +kernel)) rfl)
def fX4_within (i0 : Int32) (i1 : Int32) (i2 : Int32)  : Option (Int32) :=
  if i0 < i1 then
    some (0 : Int32)
  else
    if i2 < i0 then
      some (0 : Int32)
    else
      some (1 : Int32)

set_option maxHeartbeats 4000000 in
set_option maxRecDepth 100000 in
theorem tX4_within (l : Launch) {σ : Type} (V : JV σ) (X : σ)  (i0 : Int32) (i1 : Int32) (i2 : Int32) : JC l V yX4_within cX4_within 3 (some .boolean) jj_i 0 [.int i0, .int i1, .int i2] X ((fX4_within i0 i1 i2 ).map (fun r => (r, X))) := by
  refine jj_of (by decide) (Nat.le_of_ble_eq_true rfl) (fun E hlE hE => ?_)
  unfold fX4_within
  refine J_sub (L' := [(0, .int i0), (1, .int i1), (2, .int i2)]) [0, 1, 2] rfl ?_
  refine J_iload_n hE dd_X4_within_0 0 rfl rfl ?_
  refine J_iload_n hE dd_X4_within_1 1 rfl rfl ?_
  refine J_icmp_lt hE (tgt := 14) dd_X4_within_2 (by decide) (fun c2 => ?_) (fun c2 => ?_)
  · refine J_iconst hE (v := (0 : Int32)) dd_X4_within_14 (by decide) ?_
    exact J_zret hE (Or.inl rfl) dd_X4_within_15 rfl rfl
  · refine J_iload_n hE dd_X4_within_5 0 rfl rfl ?_
    refine J_iload_n hE dd_X4_within_6 2 rfl rfl ?_
    refine J_icmp_gt hE (tgt := 14) dd_X4_within_7 (by decide) (fun c1 => ?_) (fun c1 => ?_)
    · refine J_iconst hE (v := (0 : Int32)) dd_X4_within_14 (by decide) ?_
      exact J_zret hE (Or.inl rfl) dd_X4_within_15 rfl rfl
    · refine J_iconst hE (v := (1 : Int32)) dd_X4_within_10 (by decide) ?_
      refine J_goto hE (tgt := 15) dd_X4_within_11 (by decide) ?_
      exact J_zret hE (Or.inr rfl) dd_X4_within_15 rfl rfl
theorem dd_X4_isBale_0 : jd cX4_isBale 0 (.iload_n 0) 1 1 := ⟨by decide +kernel, rfl⟩
theorem dd_X4_isBale_1 : jd cX4_isBale 1 (.iconst 0) 1 2 := ⟨by decide +kernel, rfl⟩
theorem dd_X4_isBale_2 : jd cX4_isBale 2 (.iconst 2) 1 3 := ⟨by decide +kernel, rfl⟩
theorem ml_RX4_44 : (Cond.methodLink "MothCustoms" 44 yX4_within : Cond) ∈ jj_tb := jj_m (List.mem_of_getElem? (i := 297) (by decide +kernel)) rfl
theorem dd_X4_isBale_3 : jd cX4_isBale 3 (.invokestatic 44) 3 6 := ⟨by decide +kernel, rfl⟩
theorem dd_X4_isBale_6 : jd cX4_isBale 6 (.ireturn) 1 7 := ⟨by decide +kernel, rfl⟩
theorem m_X4_isBale : jmS yX4_isBale cX4_isBale 1 (some .boolean) 1 := ⟨(jj_m (w := Cond.code yX4_isBale cX4_isBale 1 (some .boolean)) (List.mem_of_getElem? (i := 523) (by decide +kernel)) rfl), (jj_m (w := Cond.initialized yX4_isBale.cls) (List.mem_of_getElem? (i := 64) (by decide +kernel)) rfl), ⟨by decide, by decide⟩, by decide +kernel⟩
theorem s_X4_isBale : (Cond.static yX4_isBale : Cond) ∈ jj_tb := (jj_m (w := Cond.static yX4_isBale) (List.mem_of_getElem? (i := 522) (by decide +kernel)) rfl)
def fX4_isBale (i0 : Int32)  : Option (Int32) :=
  (fX4_within i0 (0 : Int32) (2 : Int32)).bind fun r1 =>
  zb r1 (some r1)

set_option maxHeartbeats 4000000 in
set_option maxRecDepth 100000 in
theorem tX4_isBale (l : Launch) {σ : Type} (V : JV σ) (X : σ)  (i0 : Int32) : JC l V yX4_isBale cX4_isBale 1 (some .boolean) jj_i 1 [.int i0] X ((fX4_isBale i0 ).map (fun r => (r, X))) := by
  refine jj_of (by decide) (Nat.le_of_ble_eq_true rfl) (fun E hlE hE => ?_)
  unfold fX4_isBale
  refine J_sub (L' := [(0, .int i0)]) [0] rfl ?_
  refine J_iload_n hE dd_X4_isBale_0 0 rfl rfl ?_
  refine J_iconst hE (v := (0 : Int32)) dd_X4_isBale_1 (by decide) ?_
  refine J_iconst hE (v := (2 : Int32)) dd_X4_isBale_2 (by decide) ?_
  refine J_invSri hE (As := [.int i0, .int (0 : Int32), .int (2 : Int32)]) (st := []) (tX4_within E.2.1 V X i0 (0 : Int32) (2 : Int32)) m_X4_within s_X4_within rfl ml_RX4_44 (Nat.le_of_ble_eq_true rfl) (Nat.le_of_ble_eq_true rfl) rfl (Nat.le_of_ble_eq_true rfl) dd_X4_isBale_3 (fun r1 => ?_)
  refine J_zb (fun hz => ?_)
  exact J_zret hE hz dd_X4_isBale_6 rfl rfl
theorem dd_X4_isSheet_0 : jd cX4_isSheet 0 (.iload_n 0) 1 1 := ⟨by decide +kernel, rfl⟩
theorem dd_X4_isSheet_1 : jd cX4_isSheet 1 (.iconst 0) 1 2 := ⟨by decide +kernel, rfl⟩
theorem dd_X4_isSheet_2 : jd cX4_isSheet 2 (.iconst 3) 1 3 := ⟨by decide +kernel, rfl⟩
theorem dd_X4_isSheet_3 : jd cX4_isSheet 3 (.invokestatic 44) 3 6 := ⟨by decide +kernel, rfl⟩
theorem dd_X4_isSheet_6 : jd cX4_isSheet 6 (.ireturn) 1 7 := ⟨by decide +kernel, rfl⟩
theorem m_X4_isSheet : jmS yX4_isSheet cX4_isSheet 1 (some .boolean) 1 := ⟨(jj_m (w := Cond.code yX4_isSheet cX4_isSheet 1 (some .boolean)) (List.mem_of_getElem? (i := 743) (by decide +kernel)) rfl), (jj_m (w := Cond.initialized yX4_isSheet.cls) (List.mem_of_getElem? (i := 64) (by decide +kernel)) rfl), ⟨by decide, by decide⟩, by decide +kernel⟩
theorem s_X4_isSheet : (Cond.static yX4_isSheet : Cond) ∈ jj_tb := (jj_m (w := Cond.static yX4_isSheet) (List.mem_of_getElem? (i := 742) (by decide +kernel)) rfl)
def fX4_isSheet (i0 : Int32)  : Option (Int32) :=
  (fX4_within i0 (0 : Int32) (3 : Int32)).bind fun r1 =>
  zb r1 (some r1)

set_option maxHeartbeats 4000000 in
set_option maxRecDepth 100000 in
theorem tX4_isSheet (l : Launch) {σ : Type} (V : JV σ) (X : σ)  (i0 : Int32) : JC l V yX4_isSheet cX4_isSheet 1 (some .boolean) jj_i 1 [.int i0] X ((fX4_isSheet i0 ).map (fun r => (r, X))) := by
  refine jj_of (by decide) (Nat.le_of_ble_eq_true rfl) (fun E hlE hE => ?_)
  unfold fX4_isSheet
  refine J_sub (L' := [(0, .int i0)]) [0] rfl ?_
  refine J_iload_n hE dd_X4_isSheet_0 0 rfl rfl ?_
  refine J_iconst hE (v := (0 : Int32)) dd_X4_isSheet_1 (by decide) ?_
  refine J_iconst hE (v := (3 : Int32)) dd_X4_isSheet_2 (by decide) ?_
  refine J_invSri hE (As := [.int i0, .int (0 : Int32), .int (3 : Int32)]) (st := []) (tX4_within E.2.1 V X i0 (0 : Int32) (3 : Int32)) m_X4_within s_X4_within rfl ml_RX4_44 (Nat.le_of_ble_eq_true rfl) (Nat.le_of_ble_eq_true rfl) rfl (Nat.le_of_ble_eq_true rfl) dd_X4_isSheet_3 (fun r1 => ?_)
  refine J_zb (fun hz => ?_)
  exact J_zret hE hz dd_X4_isSheet_6 rfl rfl
theorem dd_X4_isLane_0 : jd cX4_isLane 0 (.iload_n 0) 1 1 := ⟨by decide +kernel, rfl⟩
theorem dd_X4_isLane_1 : jd cX4_isLane 1 (.iconst 0) 1 2 := ⟨by decide +kernel, rfl⟩
theorem dd_X4_isLane_2 : jd cX4_isLane 2 (.iconst 2) 1 3 := ⟨by decide +kernel, rfl⟩
theorem dd_X4_isLane_3 : jd cX4_isLane 3 (.invokestatic 44) 3 6 := ⟨by decide +kernel, rfl⟩
theorem dd_X4_isLane_6 : jd cX4_isLane 6 (.ireturn) 1 7 := ⟨by decide +kernel, rfl⟩
theorem m_X4_isLane : jmS yX4_isLane cX4_isLane 1 (some .boolean) 1 := ⟨(jj_m (w := Cond.code yX4_isLane cX4_isLane 1 (some .boolean)) (List.mem_of_getElem? (i := 746) (by decide +kernel)) rfl), (jj_m (w := Cond.initialized yX4_isLane.cls) (List.mem_of_getElem? (i := 64) (by decide +kernel)) rfl), ⟨by decide, by decide⟩, by decide +kernel⟩
theorem s_X4_isLane : (Cond.static yX4_isLane : Cond) ∈ jj_tb := (jj_m (w := Cond.static yX4_isLane) (List.mem_of_getElem? (i := 745) (by decide +kernel)) rfl)
def fX4_isLane (i0 : Int32)  : Option (Int32) :=
  (fX4_within i0 (0 : Int32) (2 : Int32)).bind fun r1 =>
  zb r1 (some r1)

set_option maxHeartbeats 4000000 in
set_option maxRecDepth 100000 in
theorem tX4_isLane (l : Launch) {σ : Type} (V : JV σ) (X : σ)  (i0 : Int32) : JC l V yX4_isLane cX4_isLane 1 (some .boolean) jj_i 1 [.int i0] X ((fX4_isLane i0 ).map (fun r => (r, X))) := by
  refine jj_of (by decide) (Nat.le_of_ble_eq_true rfl) (fun E hlE hE => ?_)
  unfold fX4_isLane
  refine J_sub (L' := [(0, .int i0)]) [0] rfl ?_
  refine J_iload_n hE dd_X4_isLane_0 0 rfl rfl ?_
  refine J_iconst hE (v := (0 : Int32)) dd_X4_isLane_1 (by decide) ?_
  refine J_iconst hE (v := (2 : Int32)) dd_X4_isLane_2 (by decide) ?_
  refine J_invSri hE (As := [.int i0, .int (0 : Int32), .int (2 : Int32)]) (st := []) (tX4_within E.2.1 V X i0 (0 : Int32) (2 : Int32)) m_X4_within s_X4_within rfl ml_RX4_44 (Nat.le_of_ble_eq_true rfl) (Nat.le_of_ble_eq_true rfl) rfl (Nat.le_of_ble_eq_true rfl) dd_X4_isLane_3 (fun r1 => ?_)
  refine J_zb (fun hz => ?_)
  exact J_zret hE hz dd_X4_isLane_6 rfl rfl
theorem dd_X4_mostOfTrait_0 : jd cX4_mostOfTrait 0 (.iload_n 0) 1 1 := ⟨by decide +kernel, rfl⟩
theorem dd_X4_mostOfTrait_28 : jd cX4_mostOfTrait 28 (.iconst 3) 1 29 := ⟨by decide +kernel, rfl⟩
theorem dd_X4_mostOfTrait_29 : jd cX4_mostOfTrait 29 (.ireturn) 1 30 := ⟨by decide +kernel, rfl⟩
theorem dd_X4_mostOfTrait_30 : jd cX4_mostOfTrait 30 (.iconst 5) 1 31 := ⟨by decide +kernel, rfl⟩
theorem dd_X4_mostOfTrait_31 : jd cX4_mostOfTrait 31 (.ireturn) 1 32 := ⟨by decide +kernel, rfl⟩
theorem dd_X4_mostOfTrait_32 : jd cX4_mostOfTrait 32 (.bipush 9) 2 34 := ⟨by decide +kernel, rfl⟩
theorem dd_X4_mostOfTrait_34 : jd cX4_mostOfTrait 34 (.ireturn) 1 35 := ⟨by decide +kernel, rfl⟩
theorem dd_X4_mostOfTrait_35 : jd cX4_mostOfTrait 35 (.iconst 2) 1 36 := ⟨by decide +kernel, rfl⟩
theorem dd_X4_mostOfTrait_36 : jd cX4_mostOfTrait 36 (.ireturn) 1 37 := ⟨by decide +kernel, rfl⟩
theorem dd_X4_mostOfTrait_1 : jd cX4_mostOfTrait 1 (.tableswitch 34 0 2 #[27, 29, 31]) 27 28 := ⟨by decide +kernel, rfl⟩
theorem m_X4_mostOfTrait : jmS yX4_mostOfTrait cX4_mostOfTrait 1 (some .int) 1 := ⟨(jj_m (w := Cond.code yX4_mostOfTrait cX4_mostOfTrait 1 (some .int)) (List.mem_of_getElem? (i := 415) (by decide +kernel)) rfl), (jj_m (w := Cond.initialized yX4_mostOfTrait.cls) (List.mem_of_getElem? (i := 64) (by decide +kernel)) rfl), ⟨by decide, by decide⟩, by decide +kernel⟩
theorem s_X4_mostOfTrait : (Cond.static yX4_mostOfTrait : Cond) ∈ jj_tb := (jj_m (w := Cond.static yX4_mostOfTrait) (List.mem_of_getElem? (i := 414) (by decide +kernel)) rfl)
def fX4_mostOfTrait (i0 : Int32)  : Option (Int32) :=
  if i0 = 0 then
    some (3 : Int32)
  else
    if i0 = 1 then
      some (5 : Int32)
    else
      if i0 = 2 then
        some (9 : Int32)
      else
        some (2 : Int32)

set_option maxHeartbeats 4000000 in
set_option maxRecDepth 100000 in
theorem tX4_mostOfTrait (l : Launch) {σ : Type} (V : JV σ) (X : σ)  (i0 : Int32) : JC l V yX4_mostOfTrait cX4_mostOfTrait 1 (some .int) jj_i 0 [.int i0] X ((fX4_mostOfTrait i0 ).map (fun r => (r, X))) := by
  refine jj_of (by decide) (Nat.le_of_ble_eq_true rfl) (fun E hlE hE => ?_)
  unfold fX4_mostOfTrait
  refine J_sub (L' := [(0, .int i0)]) [0] rfl ?_
  refine J_iload_n hE dd_X4_mostOfTrait_0 0 rfl rfl ?_
  refine J_ite (fun c1 => ?_) (fun c1 => ?_)
  · refine J_tsAt hE c1 (off := 27) (tgt := 28) dd_X4_mostOfTrait_1 (by decide) (by decide) (by decide) (by decide) ?_
    refine J_iconst hE (v := (3 : Int32)) dd_X4_mostOfTrait_28 (by decide) ?_
    exact J_iret hE dd_X4_mostOfTrait_29 rfl rfl
  · refine J_ite (fun c2 => ?_) (fun c2 => ?_)
    · refine J_tsAt hE c2 (off := 29) (tgt := 30) dd_X4_mostOfTrait_1 (by decide) (by decide) (by decide) (by decide) ?_
      refine J_iconst hE (v := (5 : Int32)) dd_X4_mostOfTrait_30 (by decide) ?_
      exact J_iret hE dd_X4_mostOfTrait_31 rfl rfl
    · refine J_ite (fun c3 => ?_) (fun c3 => ?_)
      · refine J_tsAt hE c3 (off := 31) (tgt := 32) dd_X4_mostOfTrait_1 (by decide) (by decide) (by decide) (by decide) ?_
        refine J_bipush hE (v := (9 : Int32)) dd_X4_mostOfTrait_32 (by decide) ?_
        exact J_iret hE dd_X4_mostOfTrait_34 rfl rfl
      · refine J_tsOut hE (tgt := 35) dd_X4_mostOfTrait_1 (by have e0 : ¬ (i0).toInt = 0 := fun q => c1 (Int32.toInt_inj.mp (q.trans (by decide))); have e1 : ¬ (i0).toInt = 1 := fun q => c2 (Int32.toInt_inj.mp (q.trans (by decide))); have e2 : ¬ (i0).toInt = 2 := fun q => c3 (Int32.toInt_inj.mp (q.trans (by decide))); omega) (by decide) ?_
        refine J_iconst hE (v := (2 : Int32)) dd_X4_mostOfTrait_35 (by decide) ?_
        exact J_iret hE dd_X4_mostOfTrait_36 rfl rfl
theorem dd_X4_commonDivisor_0 : jd cX4_commonDivisor 0 (.iconst 0) 1 1 := ⟨by decide +kernel, rfl⟩
theorem dd_X4_commonDivisor_1 : jd cX4_commonDivisor 1 (.istore 4) 2 3 := ⟨by decide +kernel, rfl⟩
theorem dd_X4_commonDivisor_3 : jd cX4_commonDivisor 3 (.iload 4) 2 5 := ⟨by decide +kernel, rfl⟩
theorem dd_X4_commonDivisor_5 : jd cX4_commonDivisor 5 (.sipush 200) 3 8 := ⟨by decide +kernel, rfl⟩
theorem dd_X4_commonDivisor_11 : jd cX4_commonDivisor 11 (.lload_n 2) 1 12 := ⟨by decide +kernel, rfl⟩
theorem dd_X4_commonDivisor_12 : jd cX4_commonDivisor 12 (.lconst 0) 1 13 := ⟨by decide +kernel, rfl⟩
theorem dd_X4_commonDivisor_13 : jd cX4_commonDivisor 13 (.lcmp) 1 14 := ⟨by decide +kernel, rfl⟩
theorem dd_X4_commonDivisor_17 : jd cX4_commonDivisor 17 (.lload_n 0) 1 18 := ⟨by decide +kernel, rfl⟩
theorem dd_X4_commonDivisor_18 : jd cX4_commonDivisor 18 (.lload_n 2) 1 19 := ⟨by decide +kernel, rfl⟩
theorem dd_X4_commonDivisor_19 : jd cX4_commonDivisor 19 (.lrem) 1 20 := ⟨by decide +kernel, rfl⟩
theorem dd_X4_commonDivisor_20 : jd cX4_commonDivisor 20 (.lstore 5) 2 22 := ⟨by decide +kernel, rfl⟩
theorem dd_X4_commonDivisor_22 : jd cX4_commonDivisor 22 (.lload_n 2) 1 23 := ⟨by decide +kernel, rfl⟩
theorem dd_X4_commonDivisor_23 : jd cX4_commonDivisor 23 (.lstore_n 0) 1 24 := ⟨by decide +kernel, rfl⟩
theorem dd_X4_commonDivisor_24 : jd cX4_commonDivisor 24 (.lload 5) 2 26 := ⟨by decide +kernel, rfl⟩
theorem dd_X4_commonDivisor_26 : jd cX4_commonDivisor 26 (.lstore_n 2) 1 27 := ⟨by decide +kernel, rfl⟩
theorem dd_X4_commonDivisor_27 : jd cX4_commonDivisor 27 (.iinc 4 1) 3 30 := ⟨by decide +kernel, rfl⟩
theorem dd_X4_commonDivisor_30 : jd cX4_commonDivisor 30 (.goto (-27)) 3 33 := ⟨by decide +kernel, rfl⟩
theorem dd_X4_commonDivisor_14 : jd cX4_commonDivisor 14 (.ifCond .eq 19) 3 17 := ⟨by decide +kernel, rfl⟩
theorem dd_X4_commonDivisor_8 : jd cX4_commonDivisor 8 (.if_icmp .ge 25) 3 11 := ⟨by decide +kernel, rfl⟩
theorem dd_X4_commonDivisor_33 : jd cX4_commonDivisor 33 (.lload_n 0) 1 34 := ⟨by decide +kernel, rfl⟩
theorem dd_X4_commonDivisor_34 : jd cX4_commonDivisor 34 (.lreturn) 1 35 := ⟨by decide +kernel, rfl⟩
theorem m_X4_commonDivisor : jmS yX4_commonDivisor cX4_commonDivisor 7 (some .long) 2 := ⟨(jj_m (w := Cond.code yX4_commonDivisor cX4_commonDivisor 7 (some .long)) (List.mem_of_getElem? (i := 680) (by decide +kernel)) rfl), (jj_m (w := Cond.initialized yX4_commonDivisor.cls) (List.mem_of_getElem? (i := 64) (by decide +kernel)) rfl), ⟨by decide, by decide⟩, by decide +kernel⟩
theorem s_X4_commonDivisor : (Cond.static yX4_commonDivisor : Cond) ∈ jj_tb := (jj_m (w := Cond.static yX4_commonDivisor) (List.mem_of_getElem? (i := 679) (by decide +kernel)) rfl)
def fX4_commonDivisor_L3  (k33 : Int64 → Option (Int64)) : Nat → Int64 → Int64 → Int32 → Option (Int64)
  | 0, _, _, _ => none
  | n_ + 1, w1, w2, v3 =>
    if (200 : Int32) ≤ v3 then
      k33 w1
    else
      if (lg_cmp w2 (0 : Int64)) = 0 then
        k33 w1
      else
        if w2 = 0 then none else
        lt ((w1 - w1 / w2 * w2)) fun y4 =>
        lt (v3 + (1 : Int32)) fun x5 =>
        fX4_commonDivisor_L3 k33 n_ w2 y4 x5

def fX4_commonDivisor (l0 : Int64) (l2 : Int64)  : Option (Int64) :=
  fX4_commonDivisor_L3 
    (fun p8 =>
      some p8)
    400 l0 l2 (0 : Int32)

set_option maxHeartbeats 4000000 in
set_option maxRecDepth 100000 in
theorem tX4_commonDivisor_L3 {σ : Type} (V : JV σ) (X : σ)  {E : JE (σ) Int64} (hE : JOk V E cX4_commonDivisor yX4_commonDivisor.cls 7 0 (some .long) jj_l) {k33 : Int64 → Option (Int64)} (hk33 : ∀ p, J V E (fun r => (r, X)) (k33 p) 33 [(0, .long p)] [] X) : ∀ (n_ : Nat) (w1 : Int64) (w2 : Int64) (v3 : Int32), J V E (fun r => (r, X)) (fX4_commonDivisor_L3 k33 n_ w1 w2 v3) 3 [(0, .long w1), (2, .long w2), (4, .int v3)] [] X := by
  intro n_
  induction n_ with
  | zero =>
    intros
    exact J_none
  | succ n_ ih =>
    intros w1 w2 v3
    rw [fX4_commonDivisor_L3]
    refine J_iload hE dd_X4_commonDivisor_3 2 rfl ?_
    refine J_sipush hE (v := (200 : Int32)) dd_X4_commonDivisor_5 (by decide) ?_
    refine J_icmp_ge hE (tgt := 33) dd_X4_commonDivisor_8 (by decide) (fun c7 => ?_) (fun c7 => ?_)
    · refine J_sub [0] rfl ?_
      exact hk33 w1
    · refine J_lload_n hE dd_X4_commonDivisor_11 1 rfl rfl ?_
      refine J_lconst hE (v := (0 : Int64)) dd_X4_commonDivisor_12 (by decide) ?_
      refine J_lcmp hE dd_X4_commonDivisor_13 ?_
      refine J_if_eq hE (tgt := 33) dd_X4_commonDivisor_14 (by decide) (fun c6 => ?_) (fun c6 => ?_)
      · refine J_sub [0] rfl ?_
        exact hk33 w1
      · refine J_lload_n hE dd_X4_commonDivisor_17 0 rfl rfl ?_
        refine J_lload_n hE dd_X4_commonDivisor_18 1 rfl rfl ?_
        refine J_lrem hE dd_X4_commonDivisor_19 (fun _ => ?_)
        refine J_letl (fun y4 => ?_)
        refine J_lstore hE (L' := [(5, .long y4), (0, .long w1), (2, .long w2), (4, .int v3)]) dd_X4_commonDivisor_20 (Nat.le_of_ble_eq_true rfl) rfl ?_
        refine J_lload_n hE dd_X4_commonDivisor_22 2 rfl rfl ?_
        refine J_lstore_n hE (L' := [(0, .long w2), (5, .long y4), (2, .long w2), (4, .int v3)]) dd_X4_commonDivisor_23 (Nat.le_of_ble_eq_true rfl) rfl rfl ?_
        refine J_lload hE dd_X4_commonDivisor_24 1 rfl ?_
        refine J_lstore_n hE (L' := [(2, .long y4), (0, .long w2), (5, .long y4), (4, .int v3)]) dd_X4_commonDivisor_26 (Nat.le_of_ble_eq_true rfl) rfl rfl ?_
        refine J_iincL hE (v := (v3 + (1 : Int32))) (Lf := fun x5 => [(4, .int x5), (2, .long y4), (0, .long w2), (5, .long y4)]) dd_X4_commonDivisor_27 (j := 3) rfl (congrArg (v3 + ·) (by decide)) (Nat.le_of_ble_eq_true rfl) (fun _ => rfl) (fun x5 => ?_)
        refine J_goto hE (tgt := 3) dd_X4_commonDivisor_30 (by decide) ?_
        refine J_sub [2, 1, 0] rfl ?_
        exact ih w2 y4 x5
set_option maxHeartbeats 4000000 in
set_option maxRecDepth 100000 in
theorem tX4_commonDivisor (l : Launch) {σ : Type} (V : JV σ) (X : σ)  (l0 : Int64) (l2 : Int64) : JC l V yX4_commonDivisor cX4_commonDivisor 7 (some .long) jj_l 0 [.long l0, .long l2] X ((fX4_commonDivisor l0 l2 ).map (fun r => (r, X))) := by
  refine jj_of (by decide) (Nat.le_of_ble_eq_true rfl) (fun E hlE hE => ?_)
  unfold fX4_commonDivisor
  refine J_sub (L' := [(0, .long l0), (2, .long l2)]) [0, 1] rfl ?_
  refine J_iconst hE (v := (0 : Int32)) dd_X4_commonDivisor_0 (by decide) ?_
  refine J_istore hE (L' := [(4, .int (0 : Int32)), (0, .long l0), (2, .long l2)]) dd_X4_commonDivisor_1 (Nat.le_of_ble_eq_true rfl) rfl ?_
  refine J_sub [1, 2, 0] rfl ?_
  refine tX4_commonDivisor_L3 V X  hE (fun p8 => ?_) 400 l0 l2 (0 : Int32)
  show J V E _ _ 33 [(0, .long p8)] [] X
  refine J_lload_n hE dd_X4_commonDivisor_33 0 rfl rfl ?_
  exact J_lret hE dd_X4_commonDivisor_34 rfl rfl
theorem dd_X5_in_0 : jd cX5_in 0 (.lload_n 0) 1 1 := ⟨by decide +kernel, rfl⟩
theorem dd_X5_in_1 : jd cX5_in 1 (.lload_n 2) 1 2 := ⟨by decide +kernel, rfl⟩
theorem dd_X5_in_2 : jd cX5_in 2 (.lcmp) 1 3 := ⟨by decide +kernel, rfl⟩
theorem dd_X5_in_17 : jd cX5_in 17 (.iconst 0) 1 18 := ⟨by decide +kernel, rfl⟩
theorem dd_X5_in_18 : jd cX5_in 18 (.ireturn) 1 19 := ⟨by decide +kernel, rfl⟩
theorem dd_X5_in_6 : jd cX5_in 6 (.lload_n 0) 1 7 := ⟨by decide +kernel, rfl⟩
theorem dd_X5_in_7 : jd cX5_in 7 (.lload 4) 2 9 := ⟨by decide +kernel, rfl⟩
theorem dd_X5_in_9 : jd cX5_in 9 (.lcmp) 1 10 := ⟨by decide +kernel, rfl⟩
theorem dd_X5_in_13 : jd cX5_in 13 (.iconst 1) 1 14 := ⟨by decide +kernel, rfl⟩
theorem dd_X5_in_14 : jd cX5_in 14 (.goto 4) 3 17 := ⟨by decide +kernel, rfl⟩
theorem dd_X5_in_10 : jd cX5_in 10 (.ifCond .gt 7) 3 13 := ⟨by decide +kernel, rfl⟩
theorem dd_X5_in_3 : jd cX5_in 3 (.ifCond .lt 14) 3 6 := ⟨by decide +kernel, rfl⟩
theorem m_X5_in : jmS yX5_in cX5_in 6 (some .boolean) 3 := ⟨(jj_m (w := Cond.code yX5_in cX5_in 6 (some .boolean)) (List.mem_of_getElem? (i := 889) (by decide +kernel)) rfl), (jj_m (w := Cond.initialized yX5_in.cls) (List.mem_of_getElem? (i := 69) (by decide +kernel)) rfl), ⟨by decide, by decide⟩, by decide +kernel⟩
theorem s_X5_in : (Cond.static yX5_in : Cond) ∈ jj_tb := (jj_m (w := Cond.static yX5_in) (List.mem_of_getElem? (i := 888) (by decide +kernel)) rfl)
def fX5_in (l0 : Int64) (l2 : Int64) (l4 : Int64)  : Option (Int32) :=
  if (lg_cmp l0 l2) < 0 then
    some (0 : Int32)
  else
    if 0 < (lg_cmp l0 l4) then
      some (0 : Int32)
    else
      some (1 : Int32)

set_option maxHeartbeats 4000000 in
set_option maxRecDepth 100000 in
theorem tX5_in (l : Launch) {σ : Type} (V : JV σ) (X : σ)  (l0 : Int64) (l2 : Int64) (l4 : Int64) : JC l V yX5_in cX5_in 6 (some .boolean) jj_i 0 [.long l0, .long l2, .long l4] X ((fX5_in l0 l2 l4 ).map (fun r => (r, X))) := by
  refine jj_of (by decide) (Nat.le_of_ble_eq_true rfl) (fun E hlE hE => ?_)
  unfold fX5_in
  refine J_sub (L' := [(0, .long l0), (2, .long l2), (4, .long l4)]) [0, 1, 2] rfl ?_
  refine J_lload_n hE dd_X5_in_0 0 rfl rfl ?_
  refine J_lload_n hE dd_X5_in_1 1 rfl rfl ?_
  refine J_lcmp hE dd_X5_in_2 ?_
  refine J_if_lt hE (tgt := 17) dd_X5_in_3 (by decide) (fun c2 => ?_) (fun c2 => ?_)
  · refine J_iconst hE (v := (0 : Int32)) dd_X5_in_17 (by decide) ?_
    exact J_zret hE (Or.inl rfl) dd_X5_in_18 rfl rfl
  · refine J_lload_n hE dd_X5_in_6 0 rfl rfl ?_
    refine J_lload hE dd_X5_in_7 2 rfl ?_
    refine J_lcmp hE dd_X5_in_9 ?_
    refine J_if_gt hE (tgt := 17) dd_X5_in_10 (by decide) (fun c1 => ?_) (fun c1 => ?_)
    · refine J_iconst hE (v := (0 : Int32)) dd_X5_in_17 (by decide) ?_
      exact J_zret hE (Or.inl rfl) dd_X5_in_18 rfl rfl
    · refine J_iconst hE (v := (1 : Int32)) dd_X5_in_13 (by decide) ?_
      refine J_goto hE (tgt := 18) dd_X5_in_14 (by decide) ?_
      exact J_zret hE (Or.inr rfl) dd_X5_in_18 rfl rfl
theorem dd_X5_flag_0 : jd cX5_flag 0 (.iload_n 0) 1 1 := ⟨by decide +kernel, rfl⟩
theorem dd_X5_flag_8 : jd cX5_flag 8 (.iconst 0) 1 9 := ⟨by decide +kernel, rfl⟩
theorem dd_X5_flag_9 : jd cX5_flag 9 (.ireturn) 1 10 := ⟨by decide +kernel, rfl⟩
theorem dd_X5_flag_4 : jd cX5_flag 4 (.iconst 1) 1 5 := ⟨by decide +kernel, rfl⟩
theorem dd_X5_flag_5 : jd cX5_flag 5 (.goto 4) 3 8 := ⟨by decide +kernel, rfl⟩
theorem dd_X5_flag_1 : jd cX5_flag 1 (.ifCond .eq 7) 3 4 := ⟨by decide +kernel, rfl⟩
theorem m_X5_flag : jmS yX5_flag cX5_flag 1 (some .int) 1 := ⟨(jj_m (w := Cond.code yX5_flag cX5_flag 1 (some .int)) (List.mem_of_getElem? (i := 948) (by decide +kernel)) rfl), (jj_m (w := Cond.initialized yX5_flag.cls) (List.mem_of_getElem? (i := 69) (by decide +kernel)) rfl), ⟨by decide, by decide⟩, by decide +kernel⟩
theorem s_X5_flag : (Cond.static yX5_flag : Cond) ∈ jj_tb := (jj_m (w := Cond.static yX5_flag) (List.mem_of_getElem? (i := 947) (by decide +kernel)) rfl)
def fX5_flag (i0 : Int32)  : Option (Int32) :=
  if i0 = 0 then
    some (0 : Int32)
  else
    some (1 : Int32)

set_option maxHeartbeats 4000000 in
set_option maxRecDepth 100000 in
theorem tX5_flag (l : Launch) {σ : Type} (V : JV σ) (X : σ)  (i0 : Int32) : JC l V yX5_flag cX5_flag 1 (some .int) jj_i 0 [.int i0] X ((fX5_flag i0 ).map (fun r => (r, X))) := by
  refine jj_of (by decide) (Nat.le_of_ble_eq_true rfl) (fun E hlE hE => ?_)
  unfold fX5_flag
  refine J_sub (L' := [(0, .int i0)]) [0] rfl ?_
  refine J_iload_n hE dd_X5_flag_0 0 rfl rfl ?_
  refine J_if_eq hE (tgt := 8) dd_X5_flag_1 (by decide) (fun c1 => ?_) (fun c1 => ?_)
  · refine J_iconst hE (v := (0 : Int32)) dd_X5_flag_8 (by decide) ?_
    exact J_iret hE dd_X5_flag_9 rfl rfl
  · refine J_iconst hE (v := (1 : Int32)) dd_X5_flag_4 (by decide) ?_
    refine J_goto hE (tgt := 9) dd_X5_flag_5 (by decide) ?_
    exact J_iret hE dd_X5_flag_9 rfl rfl
theorem dd_X5_isBale_0 : jd cX5_isBale 0 (.iload_n 0) 1 1 := ⟨by decide +kernel, rfl⟩
theorem dd_X5_isBale_1 : jd cX5_isBale 1 (.i2l) 1 2 := ⟨by decide +kernel, rfl⟩
theorem dd_X5_isBale_2 : jd cX5_isBale 2 (.lconst 0) 1 3 := ⟨by decide +kernel, rfl⟩
theorem cl_RX5_153 : (Cond.constantLong "MothCustomsModel" 153 (2 : Int64) : Cond) ∈ jj_tb := jj_m (List.mem_of_getElem? (i := 1018) (by decide +kernel)) rfl
theorem dd_X5_isBale_3 : jd cX5_isBale 3 (.ldc2_w 153) 3 6 := ⟨by decide +kernel, rfl⟩
theorem ml_RX5_71 : (Cond.methodLink "MothCustomsModel" 71 yX5_in : Cond) ∈ jj_tb := jj_m (List.mem_of_getElem? (i := 887) (by decide +kernel)) rfl
theorem dd_X5_isBale_6 : jd cX5_isBale 6 (.invokestatic 71) 3 9 := ⟨by decide +kernel, rfl⟩
theorem dd_X5_isBale_9 : jd cX5_isBale 9 (.ireturn) 1 10 := ⟨by decide +kernel, rfl⟩
theorem m_X5_isBale : jmS yX5_isBale cX5_isBale 1 (some .boolean) 1 := ⟨(jj_m (w := Cond.code yX5_isBale cX5_isBale 1 (some .boolean)) (List.mem_of_getElem? (i := 1017) (by decide +kernel)) rfl), (jj_m (w := Cond.initialized yX5_isBale.cls) (List.mem_of_getElem? (i := 69) (by decide +kernel)) rfl), ⟨by decide, by decide⟩, by decide +kernel⟩
theorem s_X5_isBale : (Cond.static yX5_isBale : Cond) ∈ jj_tb := (jj_m (w := Cond.static yX5_isBale) (List.mem_of_getElem? (i := 1016) (by decide +kernel)) rfl)
def fX5_isBale (i0 : Int32)  : Option (Int32) :=
  (fX5_in (i0.toInt64) (0 : Int64) (2 : Int64)).bind fun r1 =>
  zb r1 (some r1)

set_option maxHeartbeats 4000000 in
set_option maxRecDepth 100000 in
theorem tX5_isBale (l : Launch) {σ : Type} (V : JV σ) (X : σ)  (i0 : Int32) : JC l V yX5_isBale cX5_isBale 1 (some .boolean) jj_i 1 [.int i0] X ((fX5_isBale i0 ).map (fun r => (r, X))) := by
  refine jj_of (by decide) (Nat.le_of_ble_eq_true rfl) (fun E hlE hE => ?_)
  unfold fX5_isBale
  refine J_sub (L' := [(0, .int i0)]) [0] rfl ?_
  refine J_iload_n hE dd_X5_isBale_0 0 rfl rfl ?_
  refine J_i2l hE dd_X5_isBale_1 ?_
  refine J_lconst hE (v := (0 : Int64)) dd_X5_isBale_2 (by decide) ?_
  refine J_ldc2 hE (v := (2 : Int64)) dd_X5_isBale_3 cl_RX5_153 ?_
  refine J_invSri hE (As := [.long (i0.toInt64), .long (0 : Int64), .long (2 : Int64)]) (st := []) (tX5_in E.2.1 V X (i0.toInt64) (0 : Int64) (2 : Int64)) m_X5_in s_X5_in rfl ml_RX5_71 (Nat.le_of_ble_eq_true rfl) (Nat.le_of_ble_eq_true rfl) rfl (Nat.le_of_ble_eq_true rfl) dd_X5_isBale_6 (fun r1 => ?_)
  refine J_zb (fun hz => ?_)
  exact J_zret hE hz dd_X5_isBale_9 rfl rfl
theorem dd_X5_isPart_0 : jd cX5_isPart 0 (.iload_n 0) 1 1 := ⟨by decide +kernel, rfl⟩
theorem dd_X5_isPart_1 : jd cX5_isPart 1 (.i2l) 1 2 := ⟨by decide +kernel, rfl⟩
theorem dd_X5_isPart_2 : jd cX5_isPart 2 (.lconst 0) 1 3 := ⟨by decide +kernel, rfl⟩
theorem dd_X5_isPart_3 : jd cX5_isPart 3 (.lconst 1) 1 4 := ⟨by decide +kernel, rfl⟩
theorem dd_X5_isPart_4 : jd cX5_isPart 4 (.invokestatic 71) 3 7 := ⟨by decide +kernel, rfl⟩
theorem dd_X5_isPart_7 : jd cX5_isPart 7 (.ireturn) 1 8 := ⟨by decide +kernel, rfl⟩
theorem m_X5_isPart : jmS yX5_isPart cX5_isPart 1 (some .boolean) 1 := ⟨(jj_m (w := Cond.code yX5_isPart cX5_isPart 1 (some .boolean)) (List.mem_of_getElem? (i := 1091) (by decide +kernel)) rfl), (jj_m (w := Cond.initialized yX5_isPart.cls) (List.mem_of_getElem? (i := 69) (by decide +kernel)) rfl), ⟨by decide, by decide⟩, by decide +kernel⟩
theorem s_X5_isPart : (Cond.static yX5_isPart : Cond) ∈ jj_tb := (jj_m (w := Cond.static yX5_isPart) (List.mem_of_getElem? (i := 1090) (by decide +kernel)) rfl)
def fX5_isPart (i0 : Int32)  : Option (Int32) :=
  (fX5_in (i0.toInt64) (0 : Int64) (1 : Int64)).bind fun r1 =>
  zb r1 (some r1)

set_option maxHeartbeats 4000000 in
set_option maxRecDepth 100000 in
theorem tX5_isPart (l : Launch) {σ : Type} (V : JV σ) (X : σ)  (i0 : Int32) : JC l V yX5_isPart cX5_isPart 1 (some .boolean) jj_i 1 [.int i0] X ((fX5_isPart i0 ).map (fun r => (r, X))) := by
  refine jj_of (by decide) (Nat.le_of_ble_eq_true rfl) (fun E hlE hE => ?_)
  unfold fX5_isPart
  refine J_sub (L' := [(0, .int i0)]) [0] rfl ?_
  refine J_iload_n hE dd_X5_isPart_0 0 rfl rfl ?_
  refine J_i2l hE dd_X5_isPart_1 ?_
  refine J_lconst hE (v := (0 : Int64)) dd_X5_isPart_2 (by decide) ?_
  refine J_lconst hE (v := (1 : Int64)) dd_X5_isPart_3 (by decide) ?_
  refine J_invSri hE (As := [.long (i0.toInt64), .long (0 : Int64), .long (1 : Int64)]) (st := []) (tX5_in E.2.1 V X (i0.toInt64) (0 : Int64) (1 : Int64)) m_X5_in s_X5_in rfl ml_RX5_71 (Nat.le_of_ble_eq_true rfl) (Nat.le_of_ble_eq_true rfl) rfl (Nat.le_of_ble_eq_true rfl) dd_X5_isPart_4 (fun r1 => ?_)
  refine J_zb (fun hz => ?_)
  exact J_zret hE hz dd_X5_isPart_7 rfl rfl
theorem dd_X5_mostOf_0 : jd cX5_mostOf 0 (.iload_n 0) 1 1 := ⟨by decide +kernel, rfl⟩
theorem dd_X5_mostOf_8 : jd cX5_mostOf 8 (.iload_n 0) 1 9 := ⟨by decide +kernel, rfl⟩
theorem dd_X5_mostOf_9 : jd cX5_mostOf 9 (.iconst 1) 1 10 := ⟨by decide +kernel, rfl⟩
theorem dd_X5_mostOf_17 : jd cX5_mostOf 17 (.iload_n 0) 1 18 := ⟨by decide +kernel, rfl⟩
theorem dd_X5_mostOf_18 : jd cX5_mostOf 18 (.iconst 2) 1 19 := ⟨by decide +kernel, rfl⟩
theorem dd_X5_mostOf_27 : jd cX5_mostOf 27 (.iconst 2) 1 28 := ⟨by decide +kernel, rfl⟩
theorem dd_X5_mostOf_28 : jd cX5_mostOf 28 (.ireturn) 1 29 := ⟨by decide +kernel, rfl⟩
theorem dd_X5_mostOf_22 : jd cX5_mostOf 22 (.bipush 9) 2 24 := ⟨by decide +kernel, rfl⟩
theorem dd_X5_mostOf_24 : jd cX5_mostOf 24 (.goto 4) 3 27 := ⟨by decide +kernel, rfl⟩
theorem dd_X5_mostOf_19 : jd cX5_mostOf 19 (.if_icmp .ne 8) 3 22 := ⟨by decide +kernel, rfl⟩
theorem dd_X5_mostOf_13 : jd cX5_mostOf 13 (.iconst 5) 1 14 := ⟨by decide +kernel, rfl⟩
theorem dd_X5_mostOf_14 : jd cX5_mostOf 14 (.goto 14) 3 17 := ⟨by decide +kernel, rfl⟩
theorem dd_X5_mostOf_10 : jd cX5_mostOf 10 (.if_icmp .ne 7) 3 13 := ⟨by decide +kernel, rfl⟩
theorem dd_X5_mostOf_4 : jd cX5_mostOf 4 (.iconst 3) 1 5 := ⟨by decide +kernel, rfl⟩
theorem dd_X5_mostOf_5 : jd cX5_mostOf 5 (.goto 23) 3 8 := ⟨by decide +kernel, rfl⟩
theorem dd_X5_mostOf_1 : jd cX5_mostOf 1 (.ifCond .ne 7) 3 4 := ⟨by decide +kernel, rfl⟩
theorem m_X5_mostOf : jmS yX5_mostOf cX5_mostOf 1 (some .int) 1 := ⟨(jj_m (w := Cond.code yX5_mostOf cX5_mostOf 1 (some .int)) (List.mem_of_getElem? (i := 1084) (by decide +kernel)) rfl), (jj_m (w := Cond.initialized yX5_mostOf.cls) (List.mem_of_getElem? (i := 69) (by decide +kernel)) rfl), ⟨by decide, by decide⟩, by decide +kernel⟩
theorem s_X5_mostOf : (Cond.static yX5_mostOf : Cond) ∈ jj_tb := (jj_m (w := Cond.static yX5_mostOf) (List.mem_of_getElem? (i := 1083) (by decide +kernel)) rfl)
def fX5_mostOf (i0 : Int32)  : Option (Int32) :=
  if i0 = 0 then
    some (3 : Int32)
  else
    if i0 = (1 : Int32) then
      some (5 : Int32)
    else
      if i0 = (2 : Int32) then
        some (9 : Int32)
      else
        some (2 : Int32)

set_option maxHeartbeats 4000000 in
set_option maxRecDepth 100000 in
theorem tX5_mostOf (l : Launch) {σ : Type} (V : JV σ) (X : σ)  (i0 : Int32) : JC l V yX5_mostOf cX5_mostOf 1 (some .int) jj_i 0 [.int i0] X ((fX5_mostOf i0 ).map (fun r => (r, X))) := by
  refine jj_of (by decide) (Nat.le_of_ble_eq_true rfl) (fun E hlE hE => ?_)
  unfold fX5_mostOf
  refine J_sub (L' := [(0, .int i0)]) [0] rfl ?_
  refine J_iload_n hE dd_X5_mostOf_0 0 rfl rfl ?_
  refine J_if_ne hE (tgt := 8) dd_X5_mostOf_1 (by decide) (fun c3 => ?_) (fun c3 => ?_)
  · refine J_iload_n hE dd_X5_mostOf_8 0 rfl rfl ?_
    refine J_iconst hE (v := (1 : Int32)) dd_X5_mostOf_9 (by decide) ?_
    refine J_icmp_ne hE (tgt := 17) dd_X5_mostOf_10 (by decide) (fun c2 => ?_) (fun c2 => ?_)
    · refine J_iload_n hE dd_X5_mostOf_17 0 rfl rfl ?_
      refine J_iconst hE (v := (2 : Int32)) dd_X5_mostOf_18 (by decide) ?_
      refine J_icmp_ne hE (tgt := 27) dd_X5_mostOf_19 (by decide) (fun c1 => ?_) (fun c1 => ?_)
      · refine J_iconst hE (v := (2 : Int32)) dd_X5_mostOf_27 (by decide) ?_
        exact J_iret hE dd_X5_mostOf_28 rfl rfl
      · refine J_bipush hE (v := (9 : Int32)) dd_X5_mostOf_22 (by decide) ?_
        refine J_goto hE (tgt := 28) dd_X5_mostOf_24 (by decide) ?_
        exact J_iret hE dd_X5_mostOf_28 rfl rfl
    · refine J_iconst hE (v := (5 : Int32)) dd_X5_mostOf_13 (by decide) ?_
      refine J_goto hE (tgt := 28) dd_X5_mostOf_14 (by decide) ?_
      exact J_iret hE dd_X5_mostOf_28 rfl rfl
  · refine J_iconst hE (v := (3 : Int32)) dd_X5_mostOf_4 (by decide) ?_
    refine J_goto hE (tgt := 28) dd_X5_mostOf_5 (by decide) ?_
    exact J_iret hE dd_X5_mostOf_28 rfl rfl
theorem dd_X5_common_0 : jd cX5_common 0 (.lload_n 0) 1 1 := ⟨by decide +kernel, rfl⟩
theorem dd_X5_common_1 : jd cX5_common 1 (.lstore 4) 2 3 := ⟨by decide +kernel, rfl⟩
theorem dd_X5_common_3 : jd cX5_common 3 (.lload_n 2) 1 4 := ⟨by decide +kernel, rfl⟩
theorem dd_X5_common_4 : jd cX5_common 4 (.lstore 6) 2 6 := ⟨by decide +kernel, rfl⟩
theorem dd_X5_common_6 : jd cX5_common 6 (.lload 6) 2 8 := ⟨by decide +kernel, rfl⟩
theorem dd_X5_common_8 : jd cX5_common 8 (.lconst 0) 1 9 := ⟨by decide +kernel, rfl⟩
theorem dd_X5_common_9 : jd cX5_common 9 (.lcmp) 1 10 := ⟨by decide +kernel, rfl⟩
theorem dd_X5_common_13 : jd cX5_common 13 (.lload 4) 2 15 := ⟨by decide +kernel, rfl⟩
theorem dd_X5_common_15 : jd cX5_common 15 (.lload 6) 2 17 := ⟨by decide +kernel, rfl⟩
theorem dd_X5_common_17 : jd cX5_common 17 (.lrem) 1 18 := ⟨by decide +kernel, rfl⟩
theorem dd_X5_common_18 : jd cX5_common 18 (.lstore 8) 2 20 := ⟨by decide +kernel, rfl⟩
theorem dd_X5_common_20 : jd cX5_common 20 (.lload 6) 2 22 := ⟨by decide +kernel, rfl⟩
theorem dd_X5_common_22 : jd cX5_common 22 (.lstore 4) 2 24 := ⟨by decide +kernel, rfl⟩
theorem dd_X5_common_24 : jd cX5_common 24 (.lload 8) 2 26 := ⟨by decide +kernel, rfl⟩
theorem dd_X5_common_26 : jd cX5_common 26 (.lstore 6) 2 28 := ⟨by decide +kernel, rfl⟩
theorem dd_X5_common_28 : jd cX5_common 28 (.goto (-22)) 3 31 := ⟨by decide +kernel, rfl⟩
theorem dd_X5_common_10 : jd cX5_common 10 (.ifCond .eq 21) 3 13 := ⟨by decide +kernel, rfl⟩
theorem dd_X5_common_31 : jd cX5_common 31 (.lload 4) 2 33 := ⟨by decide +kernel, rfl⟩
theorem dd_X5_common_33 : jd cX5_common 33 (.lreturn) 1 34 := ⟨by decide +kernel, rfl⟩
theorem m_X5_common : jmS yX5_common cX5_common 10 (some .long) 2 := ⟨(jj_m (w := Cond.code yX5_common cX5_common 10 (some .long)) (List.mem_of_getElem? (i := 1196) (by decide +kernel)) rfl), (jj_m (w := Cond.initialized yX5_common.cls) (List.mem_of_getElem? (i := 69) (by decide +kernel)) rfl), ⟨by decide, by decide⟩, by decide +kernel⟩
theorem s_X5_common : (Cond.static yX5_common : Cond) ∈ jj_tb := (jj_m (w := Cond.static yX5_common) (List.mem_of_getElem? (i := 1195) (by decide +kernel)) rfl)
def fX5_common_L6  (k31 : Int64 → Option (Int64)) : Nat → Int64 → Int64 → Option (Int64)
  | 0, _, _ => none
  | n_ + 1, w1, w2 =>
    if (lg_cmp w2 (0 : Int64)) = 0 then
      k31 w1
    else
      if w2 = 0 then none else
      lt ((w1 - w1 / w2 * w2)) fun y3 =>
      fX5_common_L6 k31 n_ w2 y3

def fX5_common (l0 : Int64) (l2 : Int64)  : Option (Int64) :=
  fX5_common_L6 
    (fun p5 =>
      some p5)
    400 l0 l2

set_option maxHeartbeats 4000000 in
set_option maxRecDepth 100000 in
theorem tX5_common_L6 {σ : Type} (V : JV σ) (X : σ)  {E : JE (σ) Int64} (hE : JOk V E cX5_common yX5_common.cls 10 0 (some .long) jj_l) {k31 : Int64 → Option (Int64)} (hk31 : ∀ p, J V E (fun r => (r, X)) (k31 p) 31 [(4, .long p)] [] X) : ∀ (n_ : Nat) (w1 : Int64) (w2 : Int64), J V E (fun r => (r, X)) (fX5_common_L6 k31 n_ w1 w2) 6 [(4, .long w1), (6, .long w2)] [] X := by
  intro n_
  induction n_ with
  | zero =>
    intros
    exact J_none
  | succ n_ ih =>
    intros w1 w2
    rw [fX5_common_L6]
    refine J_lload hE dd_X5_common_6 1 rfl ?_
    refine J_lconst hE (v := (0 : Int64)) dd_X5_common_8 (by decide) ?_
    refine J_lcmp hE dd_X5_common_9 ?_
    refine J_if_eq hE (tgt := 31) dd_X5_common_10 (by decide) (fun c4 => ?_) (fun c4 => ?_)
    · refine J_sub [0] rfl ?_
      exact hk31 w1
    · refine J_lload hE dd_X5_common_13 0 rfl ?_
      refine J_lload hE dd_X5_common_15 1 rfl ?_
      refine J_lrem hE dd_X5_common_17 (fun _ => ?_)
      refine J_letl (fun y3 => ?_)
      refine J_lstore hE (L' := [(8, .long y3), (4, .long w1), (6, .long w2)]) dd_X5_common_18 (Nat.le_of_ble_eq_true rfl) rfl ?_
      refine J_lload hE dd_X5_common_20 2 rfl ?_
      refine J_lstore hE (L' := [(4, .long w2), (8, .long y3), (6, .long w2)]) dd_X5_common_22 (Nat.le_of_ble_eq_true rfl) rfl ?_
      refine J_lload hE dd_X5_common_24 1 rfl ?_
      refine J_lstore hE (L' := [(6, .long y3), (4, .long w2), (8, .long y3)]) dd_X5_common_26 (Nat.le_of_ble_eq_true rfl) rfl ?_
      refine J_goto hE (tgt := 6) dd_X5_common_28 (by decide) ?_
      refine J_sub [1, 0] rfl ?_
      exact ih w2 y3
set_option maxHeartbeats 4000000 in
set_option maxRecDepth 100000 in
theorem tX5_common (l : Launch) {σ : Type} (V : JV σ) (X : σ)  (l0 : Int64) (l2 : Int64) : JC l V yX5_common cX5_common 10 (some .long) jj_l 0 [.long l0, .long l2] X ((fX5_common l0 l2 ).map (fun r => (r, X))) := by
  refine jj_of (by decide) (Nat.le_of_ble_eq_true rfl) (fun E hlE hE => ?_)
  unfold fX5_common
  refine J_sub (L' := [(0, .long l0), (2, .long l2)]) [0, 1] rfl ?_
  refine J_lload_n hE dd_X5_common_0 0 rfl rfl ?_
  refine J_lstore hE (L' := [(4, .long l0), (0, .long l0), (2, .long l2)]) dd_X5_common_1 (Nat.le_of_ble_eq_true rfl) rfl ?_
  refine J_lload_n hE dd_X5_common_3 2 rfl rfl ?_
  refine J_lstore hE (L' := [(6, .long l2), (4, .long l0), (0, .long l0), (2, .long l2)]) dd_X5_common_4 (Nat.le_of_ble_eq_true rfl) rfl ?_
  refine J_sub [1, 0] rfl ?_
  refine tX5_common_L6 V X  hE (fun p5 => ?_) 400 l0 l2
  show J V E _ _ 31 [(4, .long p5)] [] X
  refine J_lload hE dd_X5_common_31 0 rfl ?_
  exact J_lret hE dd_X5_common_33 rfl rfl
theorem dd_X5_told_0 : jd cX5_told 0 (.lload_n 2) 1 1 := ⟨by decide +kernel, rfl⟩
theorem dd_X5_told_1 : jd cX5_told 1 (.lload_n 0) 1 2 := ⟨by decide +kernel, rfl⟩
theorem ml_RX5_270 : (Cond.methodLink "MothCustomsModel" 270 yX5_common : Cond) ∈ jj_tb := jj_m (List.mem_of_getElem? (i := 1194) (by decide +kernel)) rfl
theorem dd_X5_told_2 : jd cX5_told 2 (.invokestatic 270) 3 5 := ⟨by decide +kernel, rfl⟩
theorem dd_X5_told_5 : jd cX5_told 5 (.lstore 5) 2 7 := ⟨by decide +kernel, rfl⟩
theorem dd_X5_told_7 : jd cX5_told 7 (.iload 4) 2 9 := ⟨by decide +kernel, rfl⟩
theorem dd_X5_told_19 : jd cX5_told 19 (.lload_n 2) 1 20 := ⟨by decide +kernel, rfl⟩
theorem dd_X5_told_20 : jd cX5_told 20 (.lload 5) 2 22 := ⟨by decide +kernel, rfl⟩
theorem dd_X5_told_22 : jd cX5_told 22 (.ldiv) 1 23 := ⟨by decide +kernel, rfl⟩
theorem dd_X5_told_23 : jd cX5_told 23 (.lreturn) 1 24 := ⟨by decide +kernel, rfl⟩
theorem dd_X5_told_12 : jd cX5_told 12 (.lload_n 0) 1 13 := ⟨by decide +kernel, rfl⟩
theorem dd_X5_told_13 : jd cX5_told 13 (.lload 5) 2 15 := ⟨by decide +kernel, rfl⟩
theorem dd_X5_told_15 : jd cX5_told 15 (.ldiv) 1 16 := ⟨by decide +kernel, rfl⟩
theorem dd_X5_told_16 : jd cX5_told 16 (.goto 7) 3 19 := ⟨by decide +kernel, rfl⟩
theorem dd_X5_told_9 : jd cX5_told 9 (.ifCond .ne 10) 3 12 := ⟨by decide +kernel, rfl⟩
theorem m_X5_told : jmS yX5_told cX5_told 7 (some .long) 3 := ⟨(jj_m (w := Cond.code yX5_told cX5_told 7 (some .long)) (List.mem_of_getElem? (i := 1193) (by decide +kernel)) rfl), (jj_m (w := Cond.initialized yX5_told.cls) (List.mem_of_getElem? (i := 69) (by decide +kernel)) rfl), ⟨by decide, by decide⟩, by decide +kernel⟩
theorem s_X5_told : (Cond.static yX5_told : Cond) ∈ jj_tb := (jj_m (w := Cond.static yX5_told) (List.mem_of_getElem? (i := 1192) (by decide +kernel)) rfl)
def fX5_told (l0 : Int64) (l2 : Int64) (i4 : Int32)  : Option (Int64) :=
  (fX5_common l2 l0).bind fun r1 =>
  if i4 = 0 then
    if r1 = 0 then none else
    some (l0 / r1)
  else
    if r1 = 0 then none else
    some (l2 / r1)

set_option maxHeartbeats 4000000 in
set_option maxRecDepth 100000 in
theorem tX5_told (l : Launch) {σ : Type} (V : JV σ) (X : σ)  (l0 : Int64) (l2 : Int64) (i4 : Int32) : JC l V yX5_told cX5_told 7 (some .long) jj_l 1 [.long l0, .long l2, .int i4] X ((fX5_told l0 l2 i4 ).map (fun r => (r, X))) := by
  refine jj_of (by decide) (Nat.le_of_ble_eq_true rfl) (fun E hlE hE => ?_)
  unfold fX5_told
  refine J_sub (L' := [(0, .long l0), (2, .long l2), (4, .int i4)]) [0, 1, 2] rfl ?_
  refine J_lload_n hE dd_X5_told_0 1 rfl rfl ?_
  refine J_lload_n hE dd_X5_told_1 0 rfl rfl ?_
  refine J_invSrl hE (As := [.long l2, .long l0]) (st := []) (tX5_common E.2.1 V X l2 l0) m_X5_common s_X5_common rfl ml_RX5_270 (Nat.le_of_ble_eq_true rfl) (Nat.le_of_ble_eq_true rfl) rfl (Nat.le_of_ble_eq_true rfl) dd_X5_told_2 (fun r1 => ?_)
  refine J_lstore hE (L' := [(5, .long r1), (0, .long l0), (2, .long l2), (4, .int i4)]) dd_X5_told_5 (Nat.le_of_ble_eq_true rfl) rfl ?_
  refine J_iload hE dd_X5_told_7 3 rfl ?_
  refine J_if_ne hE (tgt := 19) dd_X5_told_9 (by decide) (fun c2 => ?_) (fun c2 => ?_)
  · refine J_lload_n hE dd_X5_told_19 2 rfl rfl ?_
    refine J_lload hE dd_X5_told_20 0 rfl ?_
    refine J_ldiv hE dd_X5_told_22 (fun _ => ?_)
    exact J_lret hE dd_X5_told_23 rfl rfl
  · refine J_lload_n hE dd_X5_told_12 1 rfl rfl ?_
    refine J_lload hE dd_X5_told_13 0 rfl ?_
    refine J_ldiv hE dd_X5_told_15 (fun _ => ?_)
    refine J_goto hE (tgt := 23) dd_X5_told_16 (by decide) ?_
    exact J_lret hE dd_X5_told_23 rfl rfl
theorem dd_X5_isSheet_0 : jd cX5_isSheet 0 (.iload_n 0) 1 1 := ⟨by decide +kernel, rfl⟩
theorem dd_X5_isSheet_1 : jd cX5_isSheet 1 (.i2l) 1 2 := ⟨by decide +kernel, rfl⟩
theorem dd_X5_isSheet_2 : jd cX5_isSheet 2 (.lconst 0) 1 3 := ⟨by decide +kernel, rfl⟩
theorem cl_RX5_234 : (Cond.constantLong "MothCustomsModel" 234 (3 : Int64) : Cond) ∈ jj_tb := jj_m (List.mem_of_getElem? (i := 1081) (by decide +kernel)) rfl
theorem dd_X5_isSheet_3 : jd cX5_isSheet 3 (.ldc2_w 234) 3 6 := ⟨by decide +kernel, rfl⟩
theorem dd_X5_isSheet_6 : jd cX5_isSheet 6 (.invokestatic 71) 3 9 := ⟨by decide +kernel, rfl⟩
theorem dd_X5_isSheet_28 : jd cX5_isSheet 28 (.iconst 0) 1 29 := ⟨by decide +kernel, rfl⟩
theorem dd_X5_isSheet_29 : jd cX5_isSheet 29 (.ireturn) 1 30 := ⟨by decide +kernel, rfl⟩
theorem dd_X5_isSheet_12 : jd cX5_isSheet 12 (.iload_n 1) 1 13 := ⟨by decide +kernel, rfl⟩
theorem dd_X5_isSheet_13 : jd cX5_isSheet 13 (.i2l) 1 14 := ⟨by decide +kernel, rfl⟩
theorem dd_X5_isSheet_14 : jd cX5_isSheet 14 (.lconst 0) 1 15 := ⟨by decide +kernel, rfl⟩
theorem dd_X5_isSheet_15 : jd cX5_isSheet 15 (.ldc2_w 153) 3 18 := ⟨by decide +kernel, rfl⟩
theorem dd_X5_isSheet_18 : jd cX5_isSheet 18 (.invokestatic 71) 3 21 := ⟨by decide +kernel, rfl⟩
theorem dd_X5_isSheet_24 : jd cX5_isSheet 24 (.iconst 1) 1 25 := ⟨by decide +kernel, rfl⟩
theorem dd_X5_isSheet_25 : jd cX5_isSheet 25 (.goto 4) 3 28 := ⟨by decide +kernel, rfl⟩
theorem dd_X5_isSheet_21 : jd cX5_isSheet 21 (.ifCond .eq 7) 3 24 := ⟨by decide +kernel, rfl⟩
theorem dd_X5_isSheet_9 : jd cX5_isSheet 9 (.ifCond .eq 19) 3 12 := ⟨by decide +kernel, rfl⟩
theorem m_X5_isSheet : jmS yX5_isSheet cX5_isSheet 2 (some .boolean) 2 := ⟨(jj_m (w := Cond.code yX5_isSheet cX5_isSheet 2 (some .boolean)) (List.mem_of_getElem? (i := 1256) (by decide +kernel)) rfl), (jj_m (w := Cond.initialized yX5_isSheet.cls) (List.mem_of_getElem? (i := 69) (by decide +kernel)) rfl), ⟨by decide, by decide⟩, by decide +kernel⟩
theorem s_X5_isSheet : (Cond.static yX5_isSheet : Cond) ∈ jj_tb := (jj_m (w := Cond.static yX5_isSheet) (List.mem_of_getElem? (i := 1255) (by decide +kernel)) rfl)
def fX5_isSheet (i0 : Int32) (i1 : Int32)  : Option (Int32) :=
  (fX5_in (i0.toInt64) (0 : Int64) (3 : Int64)).bind fun r1 =>
  if r1 = 0 then
    some (0 : Int32)
  else
    (fX5_in (i1.toInt64) (0 : Int64) (2 : Int64)).bind fun r2 =>
    if r2 = 0 then
      some (0 : Int32)
    else
      some (1 : Int32)

set_option maxHeartbeats 4000000 in
set_option maxRecDepth 100000 in
theorem tX5_isSheet (l : Launch) {σ : Type} (V : JV σ) (X : σ)  (i0 : Int32) (i1 : Int32) : JC l V yX5_isSheet cX5_isSheet 2 (some .boolean) jj_i 1 [.int i0, .int i1] X ((fX5_isSheet i0 i1 ).map (fun r => (r, X))) := by
  refine jj_of (by decide) (Nat.le_of_ble_eq_true rfl) (fun E hlE hE => ?_)
  unfold fX5_isSheet
  refine J_sub (L' := [(0, .int i0), (1, .int i1)]) [0, 1] rfl ?_
  refine J_iload_n hE dd_X5_isSheet_0 0 rfl rfl ?_
  refine J_i2l hE dd_X5_isSheet_1 ?_
  refine J_lconst hE (v := (0 : Int64)) dd_X5_isSheet_2 (by decide) ?_
  refine J_ldc2 hE (v := (3 : Int64)) dd_X5_isSheet_3 cl_RX5_234 ?_
  refine J_invSri hE (As := [.long (i0.toInt64), .long (0 : Int64), .long (3 : Int64)]) (st := []) (tX5_in E.2.1 V X (i0.toInt64) (0 : Int64) (3 : Int64)) m_X5_in s_X5_in rfl ml_RX5_71 (Nat.le_of_ble_eq_true rfl) (Nat.le_of_ble_eq_true rfl) rfl (Nat.le_of_ble_eq_true rfl) dd_X5_isSheet_6 (fun r1 => ?_)
  refine J_if_eq hE (tgt := 28) dd_X5_isSheet_9 (by decide) (fun c4 => ?_) (fun c4 => ?_)
  · refine J_iconst hE (v := (0 : Int32)) dd_X5_isSheet_28 (by decide) ?_
    exact J_zret hE (Or.inl rfl) dd_X5_isSheet_29 rfl rfl
  · refine J_iload_n hE dd_X5_isSheet_12 1 rfl rfl ?_
    refine J_i2l hE dd_X5_isSheet_13 ?_
    refine J_lconst hE (v := (0 : Int64)) dd_X5_isSheet_14 (by decide) ?_
    refine J_ldc2 hE (v := (2 : Int64)) dd_X5_isSheet_15 cl_RX5_153 ?_
    refine J_invSri hE (As := [.long (i1.toInt64), .long (0 : Int64), .long (2 : Int64)]) (st := []) (tX5_in E.2.1 V X (i1.toInt64) (0 : Int64) (2 : Int64)) m_X5_in s_X5_in rfl ml_RX5_71 (Nat.le_of_ble_eq_true rfl) (Nat.le_of_ble_eq_true rfl) rfl (Nat.le_of_ble_eq_true rfl) dd_X5_isSheet_18 (fun r2 => ?_)
    refine J_if_eq hE (tgt := 28) dd_X5_isSheet_21 (by decide) (fun c3 => ?_) (fun c3 => ?_)
    · refine J_iconst hE (v := (0 : Int32)) dd_X5_isSheet_28 (by decide) ?_
      exact J_zret hE (Or.inl rfl) dd_X5_isSheet_29 rfl rfl
    · refine J_iconst hE (v := (1 : Int32)) dd_X5_isSheet_24 (by decide) ?_
      refine J_goto hE (tgt := 29) dd_X5_isSheet_25 (by decide) ?_
      exact J_zret hE (Or.inr rfl) dd_X5_isSheet_29 rfl rfl
theorem dd_X3_mostOfNumber_0 : jd cX3_mostOfNumber 0 (.iload_n 0) 1 1 := ⟨by decide +kernel, rfl⟩
theorem dd_X3_mostOfNumber_28 : jd cX3_mostOfNumber 28 (.iconst 4) 1 29 := ⟨by decide +kernel, rfl⟩
theorem dd_X3_mostOfNumber_29 : jd cX3_mostOfNumber 29 (.ireturn) 1 30 := ⟨by decide +kernel, rfl⟩
theorem dd_X3_mostOfNumber_30 : jd cX3_mostOfNumber 30 (.iconst 3) 1 31 := ⟨by decide +kernel, rfl⟩
theorem dd_X3_mostOfNumber_31 : jd cX3_mostOfNumber 31 (.ireturn) 1 32 := ⟨by decide +kernel, rfl⟩
theorem dd_X3_mostOfNumber_32 : jd cX3_mostOfNumber 32 (.bipush 9) 2 34 := ⟨by decide +kernel, rfl⟩
theorem dd_X3_mostOfNumber_34 : jd cX3_mostOfNumber 34 (.ireturn) 1 35 := ⟨by decide +kernel, rfl⟩
theorem dd_X3_mostOfNumber_35 : jd cX3_mostOfNumber 35 (.iload_n 1) 1 36 := ⟨by decide +kernel, rfl⟩
theorem dd_X3_mostOfNumber_36 : jd cX3_mostOfNumber 36 (.iconst 1) 1 37 := ⟨by decide +kernel, rfl⟩
theorem dd_X3_mostOfNumber_37 : jd cX3_mostOfNumber 37 (.iadd) 1 38 := ⟨by decide +kernel, rfl⟩
theorem dd_X3_mostOfNumber_38 : jd cX3_mostOfNumber 38 (.invokestatic 93) 3 41 := ⟨by decide +kernel, rfl⟩
theorem dd_X3_mostOfNumber_41 : jd cX3_mostOfNumber 41 (.ireturn) 1 42 := ⟨by decide +kernel, rfl⟩
theorem dd_X3_mostOfNumber_1 : jd cX3_mostOfNumber 1 (.tableswitch 34 5 7 #[27, 29, 31]) 27 28 := ⟨by decide +kernel, rfl⟩
theorem m_X3_mostOfNumber : jmS yX3_mostOfNumber cX3_mostOfNumber 2 (some .int) 2 := ⟨(jj_m (w := Cond.code yX3_mostOfNumber cX3_mostOfNumber 2 (some .int)) (List.mem_of_getElem? (i := 412) (by decide +kernel)) rfl), (jj_m (w := Cond.initialized yX3_mostOfNumber.cls) (List.mem_of_getElem? (i := 65) (by decide +kernel)) rfl), ⟨by decide, by decide⟩, by decide +kernel⟩
theorem s_X3_mostOfNumber : (Cond.static yX3_mostOfNumber : Cond) ∈ jj_tb := (jj_m (w := Cond.static yX3_mostOfNumber) (List.mem_of_getElem? (i := 411) (by decide +kernel)) rfl)
def fX3_mostOfNumber (i0 : Int32) (i1 : Int32)  : Option (Int32) :=
  if i0 = 5 then
    some (4 : Int32)
  else
    if i0 = 6 then
      some (3 : Int32)
    else
      if i0 = 7 then
        some (9 : Int32)
      else
        (fX4_mostOfTrait (i1 + (1 : Int32))).bind fun r4 =>
        some r4

set_option maxHeartbeats 4000000 in
set_option maxRecDepth 100000 in
theorem tX3_mostOfNumber (l : Launch) {σ : Type} (V : JV σ) (X : σ)  (i0 : Int32) (i1 : Int32) : JC l V yX3_mostOfNumber cX3_mostOfNumber 2 (some .int) jj_i 1 [.int i0, .int i1] X ((fX3_mostOfNumber i0 i1 ).map (fun r => (r, X))) := by
  refine jj_of (by decide) (Nat.le_of_ble_eq_true rfl) (fun E hlE hE => ?_)
  unfold fX3_mostOfNumber
  refine J_sub (L' := [(0, .int i0), (1, .int i1)]) [0, 1] rfl ?_
  refine J_iload_n hE dd_X3_mostOfNumber_0 0 rfl rfl ?_
  refine J_ite (fun c1 => ?_) (fun c1 => ?_)
  · refine J_tsAt hE c1 (off := 27) (tgt := 28) dd_X3_mostOfNumber_1 (by decide) (by decide) (by decide) (by decide) ?_
    refine J_iconst hE (v := (4 : Int32)) dd_X3_mostOfNumber_28 (by decide) ?_
    exact J_iret hE dd_X3_mostOfNumber_29 rfl rfl
  · refine J_ite (fun c2 => ?_) (fun c2 => ?_)
    · refine J_tsAt hE c2 (off := 29) (tgt := 30) dd_X3_mostOfNumber_1 (by decide) (by decide) (by decide) (by decide) ?_
      refine J_iconst hE (v := (3 : Int32)) dd_X3_mostOfNumber_30 (by decide) ?_
      exact J_iret hE dd_X3_mostOfNumber_31 rfl rfl
    · refine J_ite (fun c3 => ?_) (fun c3 => ?_)
      · refine J_tsAt hE c3 (off := 31) (tgt := 32) dd_X3_mostOfNumber_1 (by decide) (by decide) (by decide) (by decide) ?_
        refine J_bipush hE (v := (9 : Int32)) dd_X3_mostOfNumber_32 (by decide) ?_
        exact J_iret hE dd_X3_mostOfNumber_34 rfl rfl
      · refine J_tsOut hE (tgt := 35) dd_X3_mostOfNumber_1 (by have e0 : ¬ (i0).toInt = 5 := fun q => c1 (Int32.toInt_inj.mp (q.trans (by decide))); have e1 : ¬ (i0).toInt = 6 := fun q => c2 (Int32.toInt_inj.mp (q.trans (by decide))); have e2 : ¬ (i0).toInt = 7 := fun q => c3 (Int32.toInt_inj.mp (q.trans (by decide))); omega) (by decide) ?_
        refine J_iload_n hE dd_X3_mostOfNumber_35 1 rfl rfl ?_
        refine J_iconst hE (v := (1 : Int32)) dd_X3_mostOfNumber_36 (by decide) ?_
        refine J_iadd hE dd_X3_mostOfNumber_37 ?_
        refine J_invNri hE (host := "MothCustoms") (As := [.int (i1 + (1 : Int32))]) (st := []) (tX4_mostOfTrait E.2.1 V X (i1 + (1 : Int32))) m_X4_mostOfTrait s_X4_mostOfTrait rfl (by decide +kernel) (Nat.le_of_ble_eq_true rfl) (Nat.le_of_ble_eq_true rfl) rfl (Nat.le_of_ble_eq_true rfl) dd_X3_mostOfNumber_38 (fun r4 => ?_)
        exact J_iret hE dd_X3_mostOfNumber_41 rfl rfl
theorem dd_X3_isLetter_0 : jd cX3_isLetter 0 (.iload_n 0) 1 1 := ⟨by decide +kernel, rfl⟩
theorem dd_X3_isLetter_1 : jd cX3_isLetter 1 (.bipush 97) 2 3 := ⟨by decide +kernel, rfl⟩
theorem dd_X3_isLetter_16 : jd cX3_isLetter 16 (.iconst 0) 1 17 := ⟨by decide +kernel, rfl⟩
theorem dd_X3_isLetter_17 : jd cX3_isLetter 17 (.ireturn) 1 18 := ⟨by decide +kernel, rfl⟩
theorem dd_X3_isLetter_6 : jd cX3_isLetter 6 (.iload_n 0) 1 7 := ⟨by decide +kernel, rfl⟩
theorem dd_X3_isLetter_7 : jd cX3_isLetter 7 (.bipush 122) 2 9 := ⟨by decide +kernel, rfl⟩
theorem dd_X3_isLetter_12 : jd cX3_isLetter 12 (.iconst 1) 1 13 := ⟨by decide +kernel, rfl⟩
theorem dd_X3_isLetter_13 : jd cX3_isLetter 13 (.goto 4) 3 16 := ⟨by decide +kernel, rfl⟩
theorem dd_X3_isLetter_9 : jd cX3_isLetter 9 (.if_icmp .gt 7) 3 12 := ⟨by decide +kernel, rfl⟩
theorem dd_X3_isLetter_3 : jd cX3_isLetter 3 (.if_icmp .lt 13) 3 6 := ⟨by decide +kernel, rfl⟩
theorem m_X3_isLetter : jmS yX3_isLetter cX3_isLetter 1 (some .boolean) 1 := ⟨(jj_m (w := Cond.code yX3_isLetter cX3_isLetter 1 (some .boolean)) (List.mem_of_getElem? (i := 322) (by decide +kernel)) rfl), (jj_m (w := Cond.initialized yX3_isLetter.cls) (List.mem_of_getElem? (i := 65) (by decide +kernel)) rfl), ⟨by decide, by decide⟩, by decide +kernel⟩
theorem s_X3_isLetter : (Cond.static yX3_isLetter : Cond) ∈ jj_tb := (jj_m (w := Cond.static yX3_isLetter) (List.mem_of_getElem? (i := 321) (by decide +kernel)) rfl)
def fX3_isLetter (i0 : Int32)  : Option (Int32) :=
  if i0 < (97 : Int32) then
    some (0 : Int32)
  else
    if (122 : Int32) < i0 then
      some (0 : Int32)
    else
      some (1 : Int32)

set_option maxHeartbeats 4000000 in
set_option maxRecDepth 100000 in
theorem tX3_isLetter (l : Launch) {σ : Type} (V : JV σ) (X : σ)  (i0 : Int32) : JC l V yX3_isLetter cX3_isLetter 1 (some .boolean) jj_i 0 [.int i0] X ((fX3_isLetter i0 ).map (fun r => (r, X))) := by
  refine jj_of (by decide) (Nat.le_of_ble_eq_true rfl) (fun E hlE hE => ?_)
  unfold fX3_isLetter
  refine J_sub (L' := [(0, .int i0)]) [0] rfl ?_
  refine J_iload_n hE dd_X3_isLetter_0 0 rfl rfl ?_
  refine J_bipush hE (v := (97 : Int32)) dd_X3_isLetter_1 (by decide) ?_
  refine J_icmp_lt hE (tgt := 16) dd_X3_isLetter_3 (by decide) (fun c2 => ?_) (fun c2 => ?_)
  · refine J_iconst hE (v := (0 : Int32)) dd_X3_isLetter_16 (by decide) ?_
    exact J_zret hE (Or.inl rfl) dd_X3_isLetter_17 rfl rfl
  · refine J_iload_n hE dd_X3_isLetter_6 0 rfl rfl ?_
    refine J_bipush hE (v := (122 : Int32)) dd_X3_isLetter_7 (by decide) ?_
    refine J_icmp_gt hE (tgt := 16) dd_X3_isLetter_9 (by decide) (fun c1 => ?_) (fun c1 => ?_)
    · refine J_iconst hE (v := (0 : Int32)) dd_X3_isLetter_16 (by decide) ?_
      exact J_zret hE (Or.inl rfl) dd_X3_isLetter_17 rfl rfl
    · refine J_iconst hE (v := (1 : Int32)) dd_X3_isLetter_12 (by decide) ?_
      refine J_goto hE (tgt := 17) dd_X3_isLetter_13 (by decide) ?_
      exact J_zret hE (Or.inr rfl) dd_X3_isLetter_17 rfl rfl
theorem dd_X3_isFigure_0 : jd cX3_isFigure 0 (.iload_n 0) 1 1 := ⟨by decide +kernel, rfl⟩
theorem dd_X3_isFigure_1 : jd cX3_isFigure 1 (.bipush 48) 2 3 := ⟨by decide +kernel, rfl⟩
theorem dd_X3_isFigure_16 : jd cX3_isFigure 16 (.iconst 0) 1 17 := ⟨by decide +kernel, rfl⟩
theorem dd_X3_isFigure_17 : jd cX3_isFigure 17 (.ireturn) 1 18 := ⟨by decide +kernel, rfl⟩
theorem dd_X3_isFigure_6 : jd cX3_isFigure 6 (.iload_n 0) 1 7 := ⟨by decide +kernel, rfl⟩
theorem dd_X3_isFigure_7 : jd cX3_isFigure 7 (.bipush 57) 2 9 := ⟨by decide +kernel, rfl⟩
theorem dd_X3_isFigure_12 : jd cX3_isFigure 12 (.iconst 1) 1 13 := ⟨by decide +kernel, rfl⟩
theorem dd_X3_isFigure_13 : jd cX3_isFigure 13 (.goto 4) 3 16 := ⟨by decide +kernel, rfl⟩
theorem dd_X3_isFigure_9 : jd cX3_isFigure 9 (.if_icmp .gt 7) 3 12 := ⟨by decide +kernel, rfl⟩
theorem dd_X3_isFigure_3 : jd cX3_isFigure 3 (.if_icmp .lt 13) 3 6 := ⟨by decide +kernel, rfl⟩
theorem m_X3_isFigure : jmS yX3_isFigure cX3_isFigure 1 (some .boolean) 1 := ⟨(jj_m (w := Cond.code yX3_isFigure cX3_isFigure 1 (some .boolean)) (List.mem_of_getElem? (i := 329) (by decide +kernel)) rfl), (jj_m (w := Cond.initialized yX3_isFigure.cls) (List.mem_of_getElem? (i := 65) (by decide +kernel)) rfl), ⟨by decide, by decide⟩, by decide +kernel⟩
theorem s_X3_isFigure : (Cond.static yX3_isFigure : Cond) ∈ jj_tb := (jj_m (w := Cond.static yX3_isFigure) (List.mem_of_getElem? (i := 328) (by decide +kernel)) rfl)
def fX3_isFigure (i0 : Int32)  : Option (Int32) :=
  if i0 < (48 : Int32) then
    some (0 : Int32)
  else
    if (57 : Int32) < i0 then
      some (0 : Int32)
    else
      some (1 : Int32)

set_option maxHeartbeats 4000000 in
set_option maxRecDepth 100000 in
theorem tX3_isFigure (l : Launch) {σ : Type} (V : JV σ) (X : σ)  (i0 : Int32) : JC l V yX3_isFigure cX3_isFigure 1 (some .boolean) jj_i 0 [.int i0] X ((fX3_isFigure i0 ).map (fun r => (r, X))) := by
  refine jj_of (by decide) (Nat.le_of_ble_eq_true rfl) (fun E hlE hE => ?_)
  unfold fX3_isFigure
  refine J_sub (L' := [(0, .int i0)]) [0] rfl ?_
  refine J_iload_n hE dd_X3_isFigure_0 0 rfl rfl ?_
  refine J_bipush hE (v := (48 : Int32)) dd_X3_isFigure_1 (by decide) ?_
  refine J_icmp_lt hE (tgt := 16) dd_X3_isFigure_3 (by decide) (fun c2 => ?_) (fun c2 => ?_)
  · refine J_iconst hE (v := (0 : Int32)) dd_X3_isFigure_16 (by decide) ?_
    exact J_zret hE (Or.inl rfl) dd_X3_isFigure_17 rfl rfl
  · refine J_iload_n hE dd_X3_isFigure_6 0 rfl rfl ?_
    refine J_bipush hE (v := (57 : Int32)) dd_X3_isFigure_7 (by decide) ?_
    refine J_icmp_gt hE (tgt := 16) dd_X3_isFigure_9 (by decide) (fun c1 => ?_) (fun c1 => ?_)
    · refine J_iconst hE (v := (0 : Int32)) dd_X3_isFigure_16 (by decide) ?_
      exact J_zret hE (Or.inl rfl) dd_X3_isFigure_17 rfl rfl
    · refine J_iconst hE (v := (1 : Int32)) dd_X3_isFigure_12 (by decide) ?_
      refine J_goto hE (tgt := 17) dd_X3_isFigure_13 (by decide) ?_
      exact J_zret hE (Or.inr rfl) dd_X3_isFigure_17 rfl rfl
theorem dd_J6_bitCount_0f7a4_0 : jd cJ6_bitCount_0f7a4 0 (.iload_n 0) 1 1 := ⟨by decide +kernel, rfl⟩
theorem dd_J6_bitCount_0f7a4_1 : jd cJ6_bitCount_0f7a4 1 (.iload_n 0) 1 2 := ⟨by decide +kernel, rfl⟩
theorem dd_J6_bitCount_0f7a4_2 : jd cJ6_bitCount_0f7a4 2 (.iconst 1) 1 3 := ⟨by decide +kernel, rfl⟩
theorem dd_J6_bitCount_0f7a4_3 : jd cJ6_bitCount_0f7a4 3 (.iushr) 1 4 := ⟨by decide +kernel, rfl⟩
theorem ci_RJ6_265 : (Cond.constant "java/lang/Integer" 265 (1431655765 : Int32) : Cond) ∈ jj_tb := jj_m (List.mem_of_getElem? (i := 788) (by decide +kernel)) rfl
theorem dd_J6_bitCount_0f7a4_4 : jd cJ6_bitCount_0f7a4 4 (.ldc_w 265) 3 7 := ⟨by decide +kernel, rfl⟩
theorem dd_J6_bitCount_0f7a4_7 : jd cJ6_bitCount_0f7a4 7 (.iand) 1 8 := ⟨by decide +kernel, rfl⟩
theorem dd_J6_bitCount_0f7a4_8 : jd cJ6_bitCount_0f7a4 8 (.isub) 1 9 := ⟨by decide +kernel, rfl⟩
theorem dd_J6_bitCount_0f7a4_9 : jd cJ6_bitCount_0f7a4 9 (.istore_n 0) 1 10 := ⟨by decide +kernel, rfl⟩
theorem dd_J6_bitCount_0f7a4_10 : jd cJ6_bitCount_0f7a4 10 (.iload_n 0) 1 11 := ⟨by decide +kernel, rfl⟩
theorem ci_RJ6_266 : (Cond.constant "java/lang/Integer" 266 (858993459 : Int32) : Cond) ∈ jj_tb := jj_m (List.mem_of_getElem? (i := 789) (by decide +kernel)) rfl
theorem dd_J6_bitCount_0f7a4_11 : jd cJ6_bitCount_0f7a4 11 (.ldc_w 266) 3 14 := ⟨by decide +kernel, rfl⟩
theorem dd_J6_bitCount_0f7a4_14 : jd cJ6_bitCount_0f7a4 14 (.iand) 1 15 := ⟨by decide +kernel, rfl⟩
theorem dd_J6_bitCount_0f7a4_15 : jd cJ6_bitCount_0f7a4 15 (.iload_n 0) 1 16 := ⟨by decide +kernel, rfl⟩
theorem dd_J6_bitCount_0f7a4_16 : jd cJ6_bitCount_0f7a4 16 (.iconst 2) 1 17 := ⟨by decide +kernel, rfl⟩
theorem dd_J6_bitCount_0f7a4_17 : jd cJ6_bitCount_0f7a4 17 (.iushr) 1 18 := ⟨by decide +kernel, rfl⟩
theorem dd_J6_bitCount_0f7a4_18 : jd cJ6_bitCount_0f7a4 18 (.ldc_w 266) 3 21 := ⟨by decide +kernel, rfl⟩
theorem dd_J6_bitCount_0f7a4_21 : jd cJ6_bitCount_0f7a4 21 (.iand) 1 22 := ⟨by decide +kernel, rfl⟩
theorem dd_J6_bitCount_0f7a4_22 : jd cJ6_bitCount_0f7a4 22 (.iadd) 1 23 := ⟨by decide +kernel, rfl⟩
theorem dd_J6_bitCount_0f7a4_23 : jd cJ6_bitCount_0f7a4 23 (.istore_n 0) 1 24 := ⟨by decide +kernel, rfl⟩
theorem dd_J6_bitCount_0f7a4_24 : jd cJ6_bitCount_0f7a4 24 (.iload_n 0) 1 25 := ⟨by decide +kernel, rfl⟩
theorem dd_J6_bitCount_0f7a4_25 : jd cJ6_bitCount_0f7a4 25 (.iload_n 0) 1 26 := ⟨by decide +kernel, rfl⟩
theorem dd_J6_bitCount_0f7a4_26 : jd cJ6_bitCount_0f7a4 26 (.iconst 4) 1 27 := ⟨by decide +kernel, rfl⟩
theorem dd_J6_bitCount_0f7a4_27 : jd cJ6_bitCount_0f7a4 27 (.iushr) 1 28 := ⟨by decide +kernel, rfl⟩
theorem dd_J6_bitCount_0f7a4_28 : jd cJ6_bitCount_0f7a4 28 (.iadd) 1 29 := ⟨by decide +kernel, rfl⟩
theorem ci_RJ6_267 : (Cond.constant "java/lang/Integer" 267 (252645135 : Int32) : Cond) ∈ jj_tb := jj_m (List.mem_of_getElem? (i := 790) (by decide +kernel)) rfl
theorem dd_J6_bitCount_0f7a4_29 : jd cJ6_bitCount_0f7a4 29 (.ldc_w 267) 3 32 := ⟨by decide +kernel, rfl⟩
theorem dd_J6_bitCount_0f7a4_32 : jd cJ6_bitCount_0f7a4 32 (.iand) 1 33 := ⟨by decide +kernel, rfl⟩
theorem dd_J6_bitCount_0f7a4_33 : jd cJ6_bitCount_0f7a4 33 (.istore_n 0) 1 34 := ⟨by decide +kernel, rfl⟩
theorem dd_J6_bitCount_0f7a4_34 : jd cJ6_bitCount_0f7a4 34 (.iload_n 0) 1 35 := ⟨by decide +kernel, rfl⟩
theorem dd_J6_bitCount_0f7a4_35 : jd cJ6_bitCount_0f7a4 35 (.iload_n 0) 1 36 := ⟨by decide +kernel, rfl⟩
theorem dd_J6_bitCount_0f7a4_36 : jd cJ6_bitCount_0f7a4 36 (.bipush 8) 2 38 := ⟨by decide +kernel, rfl⟩
theorem dd_J6_bitCount_0f7a4_38 : jd cJ6_bitCount_0f7a4 38 (.iushr) 1 39 := ⟨by decide +kernel, rfl⟩
theorem dd_J6_bitCount_0f7a4_39 : jd cJ6_bitCount_0f7a4 39 (.iadd) 1 40 := ⟨by decide +kernel, rfl⟩
theorem dd_J6_bitCount_0f7a4_40 : jd cJ6_bitCount_0f7a4 40 (.istore_n 0) 1 41 := ⟨by decide +kernel, rfl⟩
theorem dd_J6_bitCount_0f7a4_41 : jd cJ6_bitCount_0f7a4 41 (.iload_n 0) 1 42 := ⟨by decide +kernel, rfl⟩
theorem dd_J6_bitCount_0f7a4_42 : jd cJ6_bitCount_0f7a4 42 (.iload_n 0) 1 43 := ⟨by decide +kernel, rfl⟩
theorem dd_J6_bitCount_0f7a4_43 : jd cJ6_bitCount_0f7a4 43 (.bipush 16) 2 45 := ⟨by decide +kernel, rfl⟩
theorem dd_J6_bitCount_0f7a4_45 : jd cJ6_bitCount_0f7a4 45 (.iushr) 1 46 := ⟨by decide +kernel, rfl⟩
theorem dd_J6_bitCount_0f7a4_46 : jd cJ6_bitCount_0f7a4 46 (.iadd) 1 47 := ⟨by decide +kernel, rfl⟩
theorem dd_J6_bitCount_0f7a4_47 : jd cJ6_bitCount_0f7a4 47 (.istore_n 0) 1 48 := ⟨by decide +kernel, rfl⟩
theorem dd_J6_bitCount_0f7a4_48 : jd cJ6_bitCount_0f7a4 48 (.iload_n 0) 1 49 := ⟨by decide +kernel, rfl⟩
theorem dd_J6_bitCount_0f7a4_49 : jd cJ6_bitCount_0f7a4 49 (.bipush 63) 2 51 := ⟨by decide +kernel, rfl⟩
theorem dd_J6_bitCount_0f7a4_51 : jd cJ6_bitCount_0f7a4 51 (.iand) 1 52 := ⟨by decide +kernel, rfl⟩
theorem dd_J6_bitCount_0f7a4_52 : jd cJ6_bitCount_0f7a4 52 (.ireturn) 1 53 := ⟨by decide +kernel, rfl⟩
theorem m_J6_bitCount_0f7a4 : jmS yJ6_bitCount_0f7a4 cJ6_bitCount_0f7a4 1 (some .int) 1 := ⟨(jj_m (w := Cond.code yJ6_bitCount_0f7a4 cJ6_bitCount_0f7a4 1 (some .int)) (List.mem_of_getElem? (i := 787) (by decide +kernel)) rfl), (jj_m (w := Cond.initialized yJ6_bitCount_0f7a4.cls) (List.mem_of_getElem? (i := 76) (by decide +kernel)) rfl), ⟨by decide, by decide⟩, by decide +kernel⟩
theorem s_J6_bitCount_0f7a4 : (Cond.static yJ6_bitCount_0f7a4 : Cond) ∈ jj_tb := (jj_m (w := Cond.static yJ6_bitCount_0f7a4) (List.mem_of_getElem? (i := 786) (by decide +kernel)) rfl)
def fJ6_bitCount_0f7a4 (i0 : Int32)  : Option (Int32) :=
  lt ((i0 - (((i0.toUInt32 >>> ((1 : Int32).toUInt32 &&& Int32.toUInt32 31)).toInt32) &&& (1431655765 : Int32)))) fun x1 =>
  lt (((x1 &&& (858993459 : Int32)) + (((x1.toUInt32 >>> ((2 : Int32).toUInt32 &&& Int32.toUInt32 31)).toInt32) &&& (858993459 : Int32)))) fun x2 =>
  lt (((x2 + ((x2.toUInt32 >>> ((4 : Int32).toUInt32 &&& Int32.toUInt32 31)).toInt32)) &&& (252645135 : Int32))) fun x3 =>
  lt ((x3 + ((x3.toUInt32 >>> ((8 : Int32).toUInt32 &&& Int32.toUInt32 31)).toInt32))) fun x4 =>
  lt ((x4 + ((x4.toUInt32 >>> ((16 : Int32).toUInt32 &&& Int32.toUInt32 31)).toInt32))) fun x5 =>
  some (x5 &&& (63 : Int32))

set_option maxHeartbeats 4000000 in
set_option maxRecDepth 100000 in
theorem tJ6_bitCount_0f7a4 (l : Launch) {σ : Type} (V : JV σ) (X : σ)  (i0 : Int32) : JC l V yJ6_bitCount_0f7a4 cJ6_bitCount_0f7a4 1 (some .int) jj_i 0 [.int i0] X ((fJ6_bitCount_0f7a4 i0 ).map (fun r => (r, X))) := by
  refine jj_of (by decide) (Nat.le_of_ble_eq_true rfl) (fun E hlE hE => ?_)
  unfold fJ6_bitCount_0f7a4
  refine J_sub (L' := [(0, .int i0)]) [0] rfl ?_
  refine J_iload_n hE dd_J6_bitCount_0f7a4_0 0 rfl rfl ?_
  refine J_iload_n hE dd_J6_bitCount_0f7a4_1 0 rfl rfl ?_
  refine J_iconst hE (v := (1 : Int32)) dd_J6_bitCount_0f7a4_2 (by decide) ?_
  refine J_iushr hE dd_J6_bitCount_0f7a4_3 ?_
  refine J_ldcw hE (v := (1431655765 : Int32)) dd_J6_bitCount_0f7a4_4 ci_RJ6_265 ?_
  refine J_iand hE dd_J6_bitCount_0f7a4_7 ?_
  refine J_isub hE dd_J6_bitCount_0f7a4_8 ?_
  refine J_leti (fun x1 => ?_)
  refine J_istore_n hE (L' := [(0, .int x1)]) dd_J6_bitCount_0f7a4_9 (Nat.le_of_ble_eq_true rfl) rfl rfl ?_
  refine J_iload_n hE dd_J6_bitCount_0f7a4_10 0 rfl rfl ?_
  refine J_ldcw hE (v := (858993459 : Int32)) dd_J6_bitCount_0f7a4_11 ci_RJ6_266 ?_
  refine J_iand hE dd_J6_bitCount_0f7a4_14 ?_
  refine J_iload_n hE dd_J6_bitCount_0f7a4_15 0 rfl rfl ?_
  refine J_iconst hE (v := (2 : Int32)) dd_J6_bitCount_0f7a4_16 (by decide) ?_
  refine J_iushr hE dd_J6_bitCount_0f7a4_17 ?_
  refine J_ldcw hE (v := (858993459 : Int32)) dd_J6_bitCount_0f7a4_18 ci_RJ6_266 ?_
  refine J_iand hE dd_J6_bitCount_0f7a4_21 ?_
  refine J_iadd hE dd_J6_bitCount_0f7a4_22 ?_
  refine J_leti (fun x2 => ?_)
  refine J_istore_n hE (L' := [(0, .int x2)]) dd_J6_bitCount_0f7a4_23 (Nat.le_of_ble_eq_true rfl) rfl rfl ?_
  refine J_iload_n hE dd_J6_bitCount_0f7a4_24 0 rfl rfl ?_
  refine J_iload_n hE dd_J6_bitCount_0f7a4_25 0 rfl rfl ?_
  refine J_iconst hE (v := (4 : Int32)) dd_J6_bitCount_0f7a4_26 (by decide) ?_
  refine J_iushr hE dd_J6_bitCount_0f7a4_27 ?_
  refine J_iadd hE dd_J6_bitCount_0f7a4_28 ?_
  refine J_ldcw hE (v := (252645135 : Int32)) dd_J6_bitCount_0f7a4_29 ci_RJ6_267 ?_
  refine J_iand hE dd_J6_bitCount_0f7a4_32 ?_
  refine J_leti (fun x3 => ?_)
  refine J_istore_n hE (L' := [(0, .int x3)]) dd_J6_bitCount_0f7a4_33 (Nat.le_of_ble_eq_true rfl) rfl rfl ?_
  refine J_iload_n hE dd_J6_bitCount_0f7a4_34 0 rfl rfl ?_
  refine J_iload_n hE dd_J6_bitCount_0f7a4_35 0 rfl rfl ?_
  refine J_bipush hE (v := (8 : Int32)) dd_J6_bitCount_0f7a4_36 (by decide) ?_
  refine J_iushr hE dd_J6_bitCount_0f7a4_38 ?_
  refine J_iadd hE dd_J6_bitCount_0f7a4_39 ?_
  refine J_leti (fun x4 => ?_)
  refine J_istore_n hE (L' := [(0, .int x4)]) dd_J6_bitCount_0f7a4_40 (Nat.le_of_ble_eq_true rfl) rfl rfl ?_
  refine J_iload_n hE dd_J6_bitCount_0f7a4_41 0 rfl rfl ?_
  refine J_iload_n hE dd_J6_bitCount_0f7a4_42 0 rfl rfl ?_
  refine J_bipush hE (v := (16 : Int32)) dd_J6_bitCount_0f7a4_43 (by decide) ?_
  refine J_iushr hE dd_J6_bitCount_0f7a4_45 ?_
  refine J_iadd hE dd_J6_bitCount_0f7a4_46 ?_
  refine J_leti (fun x5 => ?_)
  refine J_istore_n hE (L' := [(0, .int x5)]) dd_J6_bitCount_0f7a4_47 (Nat.le_of_ble_eq_true rfl) rfl rfl ?_
  refine J_iload_n hE dd_J6_bitCount_0f7a4_48 0 rfl rfl ?_
  refine J_bipush hE (v := (63 : Int32)) dd_J6_bitCount_0f7a4_49 (by decide) ?_
  refine J_iand hE dd_J6_bitCount_0f7a4_51 ?_
  exact J_iret hE dd_J6_bitCount_0f7a4_52 rfl rfl
