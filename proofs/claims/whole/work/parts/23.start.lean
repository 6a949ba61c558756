theorem dd_L_law_0 : jd cL_law 0 (.new 7) 3 3 := ⟨by decide +kernel, rfl⟩
theorem dd_L_law_3 : jd cL_law 3 (.dup) 1 4 := ⟨by decide +kernel, rfl⟩
theorem dd_L_law_4 : jd cL_law 4 (.invokespecial 9) 3 7 := ⟨by decide +kernel, rfl⟩
theorem dd_L_law_7 : jd cL_law 7 (.astore_n 1) 1 8 := ⟨by decide +kernel, rfl⟩
theorem dd_L_law_8 : jd cL_law 8 (.new 10) 3 11 := ⟨by decide +kernel, rfl⟩
theorem dd_L_law_11 : jd cL_law 11 (.dup) 1 12 := ⟨by decide +kernel, rfl⟩
theorem dd_L_law_12 : jd cL_law 12 (.invokespecial 12) 3 15 := ⟨by decide +kernel, rfl⟩
theorem dd_L_law_15 : jd cL_law 15 (.astore_n 2) 1 16 := ⟨by decide +kernel, rfl⟩
theorem dd_L_law_16 : jd cL_law 16 (.iconst 0) 1 17 := ⟨by decide +kernel, rfl⟩
theorem dd_L_law_17 : jd cL_law 17 (.istore_n 3) 1 18 := ⟨by decide +kernel, rfl⟩
theorem cl0_RL_7 : (Cond.classLink "MothCustomsLaw" 7 "MothCustoms" : Cond) ∈ jj_tb := jj_m (List.mem_of_getElem? (i := 77) (by decide +kernel)) rfl
theorem cl0_RL_10 : (Cond.classLink "MothCustomsLaw" 10 "MothCustomsModel" : Cond) ∈ jj_tb := jj_m (List.mem_of_getElem? (i := 791) (by decide +kernel)) rfl
theorem cin_X4 : (Cond.instantiable "MothCustoms" 8 : Cond) ∈ jj_tb := jj_m (List.mem_of_getElem? (i := 78) (by decide +kernel)) rfl
theorem cit_X4 : (Cond.initialized "MothCustoms" : Cond) ∈ jj_tb := jj_m (List.mem_of_getElem? (i := 64) (by decide +kernel)) rfl
theorem cin_X5 : (Cond.instantiable "MothCustomsModel" 25 : Cond) ∈ jj_tb := jj_m (List.mem_of_getElem? (i := 792) (by decide +kernel)) rfl
theorem cit_X5 : (Cond.initialized "MothCustomsModel" : Cond) ∈ jj_tb := jj_m (List.mem_of_getElem? (i := 69) (by decide +kernel)) rfl
theorem ml_RL_9 : (Cond.methodLink "MothCustomsLaw" 9 yX4_init : Cond) ∈ jj_tb := jj_m (List.mem_of_getElem? (i := 79) (by decide +kernel)) rfl
theorem ml_RL_12 : (Cond.methodLink "MothCustomsLaw" 12 yX5_init : Cond) ∈ jj_tb := jj_m (List.mem_of_getElem? (i := 793) (by decide +kernel)) rfl
theorem lwi_X0 : ∀ w ∈ u_ws RX0 TX0 6, w ∈ lw_tbl := by decide +kernel
theorem lwi_X1 : ∀ w ∈ u_ws RX1 TX1 18, w ∈ lw_tbl := by decide +kernel
theorem lwi_X2 : ∀ w ∈ u_ws RX2 TX2 4, w ∈ lw_tbl := by decide +kernel
theorem lwi_X3 : ∀ w ∈ u_ws RX3 TX3 11, w ∈ lw_tbl := by decide +kernel
theorem lwi_X4 : ∀ w ∈ u_ws RX4 TX4 8, w ∈ lw_tbl := by decide +kernel
theorem lwi_X5 : ∀ w ∈ u_ws RX5 TX5 25, w ∈ lw_tbl := by decide +kernel
theorem jw_sub {w : Cond} (h : w ∈ jj_tb) : w ∈ lw_tbl := (List.mem_filter.mp h).1
abbrev lw_tm (i : Nat) : Term := Term.string RX3 (jj_six.getD i 0)
theorem lw_str {args : Array Value} {s : State} {A : Nat → Prop} (hgv : (Jvm.Cond.and given_1 narrow_1).before args s = true) (hts : ∀ w ∈ lw_tbl, w.before args s = true) (hA : ∀ a : Nat, a < s.heap.size → ¬ A a) : ∃ K Z : Nat → Nat, jj_St K Z A s s.heap := by
  have hs := flat_of_before _ hgv
  have m1 : ∀ i, i < 8 → Cond.exactly (lw_tm i) "java/lang/String" ∈ flatC (Jvm.Cond.and given_1 narrow_1) := by decide +kernel
  have m2 : ∀ i, i < 8 → Cond.eq (.field (lw_tm i) "java/lang/String" "coder" "B") (.int 0) ∈ flatC (Jvm.Cond.and given_1 narrow_1) := by decide +kernel
  have m3 : ∀ i, i < 8 → Cond.arrayOf (.field (lw_tm i) "java/lang/String" "value" "[B") .byte ∈ flatC (Jvm.Cond.and given_1 narrow_1) := by decide +kernel
  have m4 : ∀ i, i < 8 → Cond.eq (.length (.field (lw_tm i) "java/lang/String" "value" "[B")) (.int (Int32.ofNat (jj_len.getD i 0))) ∈ flatC (Jvm.Cond.and given_1 narrow_1) := by decide +kernel
  have m5 : ∀ i, i < 8 → ∀ j, j < jj_len.getD i 0 → Cond.eq (.elem (.field (lw_tm i) "java/lang/String" "value" "[B") (.int (Int32.ofNat j))) (.int ((jj_byt.getD i []).getD j 0)) ∈ flatC (Jvm.Cond.and given_1 narrow_1) := by decide +kernel
  have m6 : ∀ i, i < 8 → ∀ j, j < 8 → i ≠ j → Cond.not (Cond.eq (lw_tm i) (lw_tm j)) ∈ flatC (Jvm.Cond.and given_1 narrow_1) ∨ Cond.not (Cond.eq (lw_tm j) (lw_tm i)) ∈ flatC (Jvm.Cond.and given_1 narrow_1) := by decide +kernel
  obtain ⟨K, Z, h1, h2⟩ := vk_Sof (args := args) (s := s) (N := 8) (tm := lw_tm) (len := jj_len) (byt := jj_byt) (A := A) (by decide +kernel) (fun i hi => hs _ (m1 i hi)) (fun i hi => hs _ (m2 i hi)) (fun i hi => hs _ (m3 i hi)) (fun i hi => hs _ (m4 i hi)) (fun i hi j hj => hs _ (m5 i hi j hj)) (fun i j hi hj hij => (m6 i hi j hj hij).imp (fun h => hs _ h) (fun h => hs _ h)) hA
  have n1 : ∀ i, i < 8 → Cond.stringRef RX3 (jj_six.getD i 0) (jj_stx.getD i "") ∈ lw_tbl := by decide +kernel
  have n2 : ∀ q ∈ jj_nest, Cond.methodLinkNest q.1 q.2.1 q.2.2.1 q.2.2.2 ∈ lw_tbl := by decide +kernel
  refine ⟨K, Z, h1, fun i hi => vk_R.of (hts _ (n1 i hi)) (h2 i hi), fun q hq => va_Nw.of rfl (hts _ (n2 q hq)), va_Zof (hts (.laysStatic "java/lang/String" "COMPACT_STRINGS" "Z") (by decide +kernel)) (hts (.initialized "java/lang/String") (by decide +kernel)) (va_eqt (hs (Cond.eq (.static "java/lang/String" "COMPACT_STRINGS" "Z") (.int 1)) (by decide +kernel))) hA, va_Zqof (hts (.laysStatic "jdk/internal/util/Preconditions" "SIOOBE_FORMATTER" "Ljava/util/function/BiFunction;") (by decide +kernel)) (hts (.initialized "jdk/internal/util/Preconditions") (by decide +kernel)) (hs (Cond.isRef (.static "jdk/internal/util/Preconditions" "SIOOBE_FORMATTER" "Ljava/util/function/BiFunction;")) (by decide +kernel)) hA⟩
set_option maxHeartbeats 8000000 in
set_option maxRecDepth 100000 in
/-- THE LAW from its entry, if the pure law answers 1 -/
theorem lw_start {p : Program} {e : Env} {s : State} {m : MethodId} {below : List Frame} {meth : Method} {c : Code} (l : Launch) {b L : Nat} {xs : Nat → Int32} {qf : M3 × M2} (hlaw : fL_law L xs s0_X4 s1_X5 = some (1, qf)) (C0 : lw_At p s m meth c b L xs) : W p l e room_1 s m #[Value.ref b] below meth c s.heap [] 0 0 (lw_Z below #[Value.ref b] s) (entryFrame m ([Value.ref b] : List Value).toArray 4) := by
  obtain ⟨hx, hb, hr, hml, hown, hts, hX, hbl, hlocks, hgv⟩ := id C0
  have htb : ∀ w ∈ jj_tb, w.before #[Value.ref b] s = true := fun w hw => hts w (jw_sub hw)
  have hA : ∀ q : Nat, s.heap.size ≤ q → (fun q : Nat => s.heap.size ≤ q) q := fun _ h => h
  obtain ⟨K, Z, hSt⟩ := lw_str (A := fun q : Nat => s.heap.size ≤ q) hgv hts (fun a h => Nat.not_le.mpr h)
  obtain ⟨c0, i0, k0⟩ := u_known (C := RX0) (T := TX0) (N := 6) (n := 6) hts lwi_X0 (hts (.instantiable "MothCustoms$Search" 6) (by decide +kernel))
  obtain ⟨c1, i1, k1⟩ := u_known (C := RX1) (T := TX1) (N := 18) (n := 18) hts lwi_X1 (hts (.instantiable "MothCustoms$Shed" 18) (by decide +kernel))
  obtain ⟨c2, i2, k2⟩ := u_known (C := RX2) (T := TX2) (N := 4) (n := 4) hts lwi_X2 (hts (.instantiable "MothCustoms$Sheet" 4) (by decide +kernel))
  obtain ⟨c3, i3, k3⟩ := u_known (C := RX3) (T := TX3) (N := 11) (n := 11) hts lwi_X3 (hts (.instantiable "MothCustoms$Tape" 11) (by decide +kernel))
  obtain ⟨c4, i4, k4⟩ := u_known (C := RX4) (T := TX4) (N := 8) (n := 8) hts lwi_X4 (hts (.instantiable "MothCustoms" 8) (by decide +kernel))
  obtain ⟨c5, i5, k5⟩ := u_known (C := RX5) (T := TX5) (N := 25) (n := 25) hts lwi_X5 (hts (.instantiable "MothCustomsModel" 25) (by decide +kernel))
  obtain ⟨D, hK⟩ : ∃ D : va_G, va_K D vwCl [] s := by
    refine ⟨(fun k => [c0, c1, c2, c3, c4, c5].getD k c0, fun k => [i0, i1, i2, i3, i4, i5].getD k i0), fun k q hq => ?_, fun k q h => by simp at h⟩
    match k, hq with
    | 0, hq => cases hq; exact k0
    | 1, hq => cases hq; exact k1
    | 2, hq => cases hq; exact k2
    | 3, hq => cases hq; exact k3
    | 4, hq => cases hq; exact k4
    | 5, hq => cases hq; exact k5
    | k + 6, hq => simp [vwCl] at hq
  have hE : KOk (p, l, e, room_1, s, m, #[Value.ref b], below, meth, c, 4, (fun q : Nat => s.heap.size ≤ q), lw_Z below #[Value.ref b] s, D, K, Z) cL_law RL 4 meth.name room_1 := ⟨hx, hb, ⟨hml, rfl⟩, hown, htb, ⟨rfl, rfl⟩, hA, hSt, va_AO.of (hts (.arrayOver (.object "MothCustoms$Shed")) (by decide +kernel)), va_AO.of (hts (.arrayOver (.object "MothCustoms$Sheet")) (by decide +kernel))⟩
  have hl := lv_entry ([.ref b]) (n := 4) (Nat.le_of_ble_eq_true rfl)
  rw [lg_entry_eq]
  refine (?_ : KJ (p, l, e, room_1, s, m, #[Value.ref b], below, meth, c, 4, (fun q : Nat => s.heap.size ≤ q), lw_Z below #[Value.ref b] s, D, K, Z) [] [] 0 0 0 [(0, .ref b)] []) _ _ _ hK (fun k q h => by simp at h) ⟨fun i j p q h => by simp at h, fun k q h => by simp at h⟩ va_S.rf hl
  refine K_new hE (ci := 4) (fs := [.null, .null, .null, .null, .null, .null, .int 0, .int 0]) dd_L_law_0 rfl jc_X4 cl0_RL_7 cin_X4 cit_X4 nd_X4 (Nat.le_of_ble_eq_true rfl) (Nat.le_of_ble_eq_true rfl) (fun q1 => ?_)
  refine K_num (cn' := 1) (sn' := 8) rfl rfl ?_
  refine K_dup hE dd_L_law_3 rfl ?_
  refine K_init hE (cn := 1) (sn := 8) (st := [.ref q1]) (host := "") (ws := []) (tX4_init l) m_X4_init (Or.inl ml_RL_9) ⟨Nat.le_of_ble_eq_true rfl, Nat.le_of_ble_eq_true rfl⟩ (Nat.le_of_ble_eq_true rfl) (Nat.le_of_ble_eq_true rfl) (Nat.le_of_ble_eq_true rfl) (Nat.le_of_ble_eq_true rfl) dd_L_law_4 (fun y => ?_)
  refine K_ws (ws' := bw_X4 q1 y s0_X4) (tys' := bt_X4 y) rfl rfl ?_
  refine K_num (cn' := 77) (sn' := 775) rfl rfl ?_
  refine K_astore_n hE (L' := [(1, .ref q1), (0, .ref b)]) dd_L_law_7 (Nat.le_of_ble_eq_true rfl) rfl rfl ?_
  refine K_new hE (ci := 5) (fs := [.null, .null, .null, .int 0, .int 0, .null, .int 0, .int 0, .int 0, .int 0, .int 0, .null, .int 0, .int 0, .int 0, .int 0, .int 0, .int 0, .int 0, .null, .null, .null, .null, .int 0, .null]) dd_L_law_8 rfl jc_X5 cl0_RL_10 cin_X5 cit_X5 nd_X5 (Nat.le_of_ble_eq_true rfl) (Nat.le_of_ble_eq_true rfl) (fun q2 => ?_)
  refine K_num (cn' := 78) (sn' := 800) rfl rfl ?_
  refine K_dup hE dd_L_law_11 rfl ?_
  refine K_init hE (cn := 78) (sn := 800) (st := [.ref q2]) (host := "") (ws := bw_X4 q1 y s0_X4) (tX5_init l) m_X5_init (Or.inl ml_RL_12) ⟨Nat.le_of_ble_eq_true rfl, Nat.le_of_ble_eq_true rfl⟩ (Nat.le_of_ble_eq_true rfl) (Nat.le_of_ble_eq_true rfl) (Nat.le_of_ble_eq_true rfl) (Nat.le_of_ble_eq_true rfl) dd_L_law_12 (fun z => ?_)
  refine K_num (cn' := 88) (sn' := 1507) rfl rfl ?_
  refine K_astore_n hE (L' := [(2, .ref q2), (1, .ref q1), (0, .ref b)]) dd_L_law_15 (Nat.le_of_ble_eq_true rfl) rfl rfl ?_
  refine K_iconst hE (v := 0) dd_L_law_16 (by decide) ?_
  refine K_istore_n hE (L' := [(3, .int 0), (2, .ref q2), (1, .ref q1), (0, .ref b)]) dd_L_law_17 (Nat.le_of_ble_eq_true rfl) rfl rfl ?_
  intro H locs ls hK hP hD hS hl
  have hl := lv_sub hl [3, 2, 1, 0] rfl
  refine tL_law (V := VL D K Z q1 q2 y z) (bl_vL D K Z q1 q2 y z) (E := (p, l, e, room_1, s, m, #[Value.ref b], below, meth, c, 4, (fun q : Nat => s.heap.size ≤ q), 88, 1507, lw_Z below #[Value.ref b] s, (1, qf))) (Ln := L) (xs := xs) (bs := b) ⟨hx, hb, ⟨hml, rfl⟩, hown, htb, ⟨Nat.le_of_ble_eq_true rfl, Nat.le_of_ble_eq_true rfl, Nat.le_of_ble_eq_true rfl, Nat.le_of_ble_eq_true rfl⟩, hK, hA, hSt, fun i H1 locs1 ls1 pc1 hP1 hD1 hS1 hi hd1 => ?_⟩ ⟨hX, hbl, Nat.not_le.mpr hbl⟩ s0_X4 s1_X5 (by rw [hlaw]; rfl) H locs ls hP hD hS hl
  rcases hi with ⟨-, e2, -⟩ | ⟨x, -, e2, -⟩ | ⟨ty, x, -, -, -, e3⟩
  · cases e2
  · cases e2
  · rw [e3] at hd1
    refine va_forget (fun q hq => hS1.2.2 q hq) ?_
    refine W.widen (k := 600000) (n := 7302250) (Nat.le_of_ble_eq_true rfl) (Nat.le_of_ble_eq_true rfl) ?_
    exact lw_ret hx hb hr hlocks hd1
