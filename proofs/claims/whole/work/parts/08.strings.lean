/-! String constants: length and charAt, by the JDK's own code -/
section KS
variable {σ ρ α : Type} {fin : α → ρ × σ} {V : JV σ} {E : JE σ ρ} {cc : ByteArray} {own : String} {n d : Nat} {ret : Option FieldType} {enc : ρ → Option Value} {o : Option α} {pc pc' : Nat} {L L' : List (Nat × Value)} {st : List Value} {X : σ}
theorem J_getsCS (hE : JOk V E cc own n d ret enc) {ix : Nat} (hd : jd cc pc (.getstatic ix) 3 pc') (hw : Cond.fieldLink own ix "java/lang/String" "COMPACT_STRINGS" "Z" ∈ jj_tb) (kk : J V E fin o pc' L (.int 1 :: st) X) : J V E fin o pc L st X := by
  obtain ⟨p, l, e, R, s, m, args, below, meth, c, nL, A, cn, sn, Q, res⟩ := E
  obtain ⟨hx, hb, ⟨hml, hnL⟩, hown, hts, hR, hK, hA, hSt, hq⟩ := hE
  obtain ⟨hd, rfl⟩ := hd
  intro ho H locs ls hP hD hS hl
  exact va_gets hx hb hSt.2.2.2.1 hS hown (hts _ hw) (fun _ h => h) hd (kk ho H locs ls hP hD hS hl)
theorem J_getsSF (hE : JOk V E cc own n d ret enc) {ix : Nat} (hd : jd cc pc (.getstatic ix) 3 pc') (hw : Cond.fieldLink own ix "jdk/internal/util/Preconditions" "SIOOBE_FORMATTER" "Ljava/util/function/BiFunction;" ∈ jj_tb) (kk : ∀ r : Option Nat, J V E fin o pc' L (va_rf r :: st) X) : J V E fin o pc L st X := by
  obtain ⟨p, l, e, R, s, m, args, below, meth, c, nL, A, cn, sn, Q, res⟩ := E
  obtain ⟨hx, hb, ⟨hml, hnL⟩, hown, hts, hR, hK, hA, hSt, hq⟩ := hE
  obtain ⟨hd, rfl⟩ := hd
  intro ho H locs ls hP hD hS hl
  rcases hSt.2.2.2.2 with h | ⟨t, h⟩
  · exact va_gets hx hb h hS hown (hts _ hw) (fun _ h => h) hd (kk none ho H locs ls hP hD hS hl)
  · exact va_gets hx hb h hS hown (hts _ hw) (fun _ h => h) hd (kk (some t) ho H locs ls hP hD hS hl)
theorem J_kval (hE : JOk V E cc own n d ret enc) {ix k : Nat} (hk : k < 8) (hd : jd cc pc (.getfield ix) 3 pc') (hw : Cond.fieldLink own ix "java/lang/String" "value" "[B" ∈ jj_tb) (kk : J V E fin o pc' L (.ref (V.2.2.2.2.2 k) :: st) X) : J V E fin o pc L (.ref (V.2.2.2.2.1 k) :: st) X := by
  obtain ⟨p, l, e, R, s, m, args, below, meth, c, nL, A, cn, sn, Q, res⟩ := E
  obtain ⟨hx, hb, ⟨hml, hnL⟩, hown, hts, hR, hK, hA, hSt, hq⟩ := hE
  obtain ⟨hd, rfl⟩ := hd
  intro ho H locs ls hP hD hS hl
  exact vk_getf hx hb (hSt.1.1 k hk).2.2.1 hS hown (hts _ hw) (fun _ h => h) hd (kk ho H locs ls hP hD hS hl)
theorem J_kcod (hE : JOk V E cc own n d ret enc) {ix k : Nat} (hk : k < 8) (hd : jd cc pc (.getfield ix) 3 pc') (hw : Cond.fieldLink own ix "java/lang/String" "coder" "B" ∈ jj_tb) (kk : J V E fin o pc' L (.int 0 :: st) X) : J V E fin o pc L (.ref (V.2.2.2.2.1 k) :: st) X := by
  obtain ⟨p, l, e, R, s, m, args, below, meth, c, nL, A, cn, sn, Q, res⟩ := E
  obtain ⟨hx, hb, ⟨hml, hnL⟩, hown, hts, hR, hK, hA, hSt, hq⟩ := hE
  obtain ⟨hd, rfl⟩ := hd
  intro ho H locs ls hP hD hS hl
  exact vk_getf hx hb (hSt.1.1 k hk).2.1 hS hown (hts _ hw) (fun _ h => h) hd (kk ho H locs ls hP hD hS hl)
theorem J_klen (hE : JOk V E cc own n d ret enc) {k : Nat} (hk : k < 8) (hd : jd cc pc .arraylength 1 pc') (kk : J V E fin o pc' L (.int (Int32.ofNat (jj_len.getD k 0)) :: st) X) : J V E fin o pc L (.ref (V.2.2.2.2.2 k) :: st) X := by
  obtain ⟨p, l, e, R, s, m, args, below, meth, c, nL, A, cn, sn, Q, res⟩ := E
  obtain ⟨hx, hb, ⟨hml, hnL⟩, hown, hts, hR, hK, hA, hSt, hq⟩ := hE
  obtain ⟨hd, rfl⟩ := hd
  intro ho H locs ls hP hD hS hl
  exact va_tlen hx hb (hSt.1.1 k hk).2.2.2 hS rfl hd (kk ho H locs ls hP hD hS hl)
theorem J_kbyt (hE : JOk V E cc own n d ret enc) {k : Nat} {i : Int32} (hk : k < 8) (hi : ¬ (i < 0 ∨ jj_len.getD k 0 ≤ i.toNatClampNeg)) (hd : jd cc pc .baload 1 pc') (kk : J V E fin o pc' L (.int ((jj_byt.getD k []).getD i.toNatClampNeg 0) :: st) X) : J V E fin o pc L (.int i :: .ref (V.2.2.2.2.2 k) :: st) X := by
  obtain ⟨p, l, e, R, s, m, args, below, meth, c, nL, A, cn, sn, Q, res⟩ := E
  obtain ⟨hx, hb, ⟨hml, hnL⟩, hown, hts, hR, hK, hA, hSt, hq⟩ := hE
  obtain ⟨hd, rfl⟩ := hd
  intro ho H locs ls hP hD hS hl
  exact va_tb hx hb (hSt.1.1 k hk).2.2.2 hS hi rfl hd (kk ho H locs ls hP hD hS hl)
theorem J_i2c (hE : JOk V E cc own n d ret enc) {x v : Int32} (hd : jd cc pc .i2c 1 pc') (hv : (x.toUInt32 % 65536).toInt32 = v) (kk : J V E fin o pc' L (.int v :: st) X) : J V E fin o pc L (.int x :: st) X := by
  obtain ⟨p, l, e, R, s, m, args, below, meth, c, nL, A, cn, sn, Q, res⟩ := E
  obtain ⟨hx, hb, ⟨hml, hnL⟩, hown, hts, hR, hK, hA, hSt, hq⟩ := hE
  obtain ⟨hd, rfl⟩ := hd
  intro ho H locs ls hP hD hS hl
  exact lv_i2c hx hb hd hv (kk ho H locs ls hP hD hS hl)
theorem J_nret {ty : FieldType} (hE : JOk V E cc own n d (some ty) enc) {r : α} {v : Int32} (hz : narrow ty (.int v) = .int v) (hd : jd cc pc .ireturn 1 pc') (hr : enc (fin r).1 = some (.int v)) (hX : (fin r).2 = X) : J V E fin (some r) pc L [.int v] X := by
  obtain ⟨p, l, e, R, s, m, args, below, meth, c, nL, A, cn, sn, Q, res⟩ := E
  obtain ⟨hx, hb, ⟨hml, hnL⟩, hown, hts, hR, hK, hA, hSt, hq⟩ := hE
  obtain ⟨hd, rfl⟩ := hd
  intro ho H locs ls hP hD hS hl
  have hr0 : fin r = res := Option.some.inj ho
  subst hr0
  subst hX
  have z := hq .ireturn H locs ls pc hP hD hS (Or.inr (Or.inr ⟨_, v, rfl, hr, hz, rfl⟩)) hd
  rw [hr] at z
  exact z
theorem J_aload_q (hE : JOk V E cc own n d ret enc) {f : Fin 4} {i : Nat} {r : Option Nat} (hd : jd cc pc (.aload_n f) 1 pc') (j : Nat) (hi : (f : Nat) = i) (hk : L[j]? = some (i, va_rf r)) (kk : J V E fin o pc' L (va_rf r :: st) X) : J V E fin o pc L st X := by
  obtain ⟨p, l, e, R, s, m, args, below, meth, c, nL, A, cn, sn, Q, res⟩ := E
  obtain ⟨hx, hb, ⟨hml, hnL⟩, hown, hts, hR, hK, hA, hSt, hq⟩ := hE
  obtain ⟨hd, rfl⟩ := hd
  intro ho H locs ls hP hD hS hl
  cases r with
  | none => exact lv_aload_nN hx hb hd hi (lv_at hl j hk) (kk ho H locs ls hP hD hS hl)
  | some t => exact lv_aload_n hx hb hd hi (lv_at hl j hk) (kk ho H locs ls hP hD hS hl)
end KS

theorem dd_J3_checkIndex_8e157_0 : jd cJ3_checkIndex_8e157 0 (.iload_n 0) 1 1 := ⟨by decide +kernel, rfl⟩
theorem dd_J3_checkIndex_8e157_1 : jd cJ3_checkIndex_8e157 1 (.ifCond .lt 8) 3 4 := ⟨by decide +kernel, rfl⟩
theorem dd_J3_checkIndex_8e157_4 : jd cJ3_checkIndex_8e157 4 (.iload_n 0) 1 5 := ⟨by decide +kernel, rfl⟩
theorem dd_J3_checkIndex_8e157_5 : jd cJ3_checkIndex_8e157 5 (.iload_n 1) 1 6 := ⟨by decide +kernel, rfl⟩
theorem dd_J3_checkIndex_8e157_6 : jd cJ3_checkIndex_8e157 6 (.if_icmp .lt 10) 3 9 := ⟨by decide +kernel, rfl⟩
theorem dd_J3_checkIndex_8e157_9 : jd cJ3_checkIndex_8e157 9 (.aload_n 2) 1 10 := ⟨by decide +kernel, rfl⟩
theorem dd_J3_checkIndex_8e157_10 : jd cJ3_checkIndex_8e157 10 (.iload_n 0) 1 11 := ⟨by decide +kernel, rfl⟩
theorem dd_J3_checkIndex_8e157_11 : jd cJ3_checkIndex_8e157 11 (.iload_n 1) 1 12 := ⟨by decide +kernel, rfl⟩
theorem dd_J3_checkIndex_8e157_12 : jd cJ3_checkIndex_8e157 12 (.invokestatic 95) 3 15 := ⟨by decide +kernel, rfl⟩
theorem dd_J3_checkIndex_8e157_15 : jd cJ3_checkIndex_8e157 15 (.athrow) 1 16 := ⟨by decide +kernel, rfl⟩
theorem dd_J3_checkIndex_8e157_16 : jd cJ3_checkIndex_8e157 16 (.iload_n 0) 1 17 := ⟨by decide +kernel, rfl⟩
theorem dd_J3_checkIndex_8e157_17 : jd cJ3_checkIndex_8e157 17 (.ireturn) 1 18 := ⟨by decide +kernel, rfl⟩
theorem m_J3_checkIndex_8e157 : jmS yJ3_checkIndex_8e157 cJ3_checkIndex_8e157 3 (some .int) 3 := ⟨(jj_m (w := Cond.code yJ3_checkIndex_8e157 cJ3_checkIndex_8e157 3 (some .int)) (List.mem_of_getElem? (i := 379) (by decide +kernel)) rfl), (jj_m (w := Cond.initialized yJ3_checkIndex_8e157.cls) (List.mem_of_getElem? (i := 72) (by decide +kernel)) rfl), ⟨by decide, by decide⟩, by decide +kernel⟩
theorem s_J3_checkIndex_8e157 : (Cond.static yJ3_checkIndex_8e157 : Cond) ∈ jj_tb := (jj_m (w := Cond.static yJ3_checkIndex_8e157) (List.mem_of_getElem? (i := 378) (by decide +kernel)) rfl)
theorem dd_J0_checkIndex_df160_0 : jd cJ0_checkIndex_df160 0 (.iload_n 0) 1 1 := ⟨by decide +kernel, rfl⟩
theorem dd_J0_checkIndex_df160_1 : jd cJ0_checkIndex_df160 1 (.iload_n 1) 1 2 := ⟨by decide +kernel, rfl⟩
theorem dd_J0_checkIndex_df160_2 : jd cJ0_checkIndex_df160 2 (.getstatic 1053) 3 5 := ⟨by decide +kernel, rfl⟩
theorem dd_J0_checkIndex_df160_5 : jd cJ0_checkIndex_df160 5 (.invokestatic 1059) 3 8 := ⟨by decide +kernel, rfl⟩
theorem dd_J0_checkIndex_df160_8 : jd cJ0_checkIndex_df160 8 (.pop) 1 9 := ⟨by decide +kernel, rfl⟩
theorem dd_J0_checkIndex_df160_9 : jd cJ0_checkIndex_df160 9 (.return_) 1 10 := ⟨by decide +kernel, rfl⟩
theorem m_J0_checkIndex_df160 : jmS yJ0_checkIndex_df160 cJ0_checkIndex_df160 2 none 2 := ⟨(jj_m (w := Cond.code yJ0_checkIndex_df160 cJ0_checkIndex_df160 2 none) (List.mem_of_getElem? (i := 374) (by decide +kernel)) rfl), (jj_m (w := Cond.initialized yJ0_checkIndex_df160.cls) (List.mem_of_getElem? (i := 70) (by decide +kernel)) rfl), ⟨by decide, by decide⟩, by decide +kernel⟩
theorem s_J0_checkIndex_df160 : (Cond.static yJ0_checkIndex_df160 : Cond) ∈ jj_tb := (jj_m (w := Cond.static yJ0_checkIndex_df160) (List.mem_of_getElem? (i := 373) (by decide +kernel)) rfl)
theorem dd_J0_coder_7d493_0 : jd cJ0_coder_7d493 0 (.getstatic 38) 3 3 := ⟨by decide +kernel, rfl⟩
theorem dd_J0_coder_7d493_3 : jd cJ0_coder_7d493 3 (.ifCond .eq 10) 3 6 := ⟨by decide +kernel, rfl⟩
theorem dd_J0_coder_7d493_6 : jd cJ0_coder_7d493 6 (.aload_n 0) 1 7 := ⟨by decide +kernel, rfl⟩
theorem dd_J0_coder_7d493_7 : jd cJ0_coder_7d493 7 (.getfield 15) 3 10 := ⟨by decide +kernel, rfl⟩
theorem dd_J0_coder_7d493_10 : jd cJ0_coder_7d493 10 (.goto 4) 3 13 := ⟨by decide +kernel, rfl⟩
theorem dd_J0_coder_7d493_13 : jd cJ0_coder_7d493 13 (.iconst 1) 1 14 := ⟨by decide +kernel, rfl⟩
theorem dd_J0_coder_7d493_14 : jd cJ0_coder_7d493 14 (.ireturn) 1 15 := ⟨by decide +kernel, rfl⟩
theorem m_J0_coder_7d493 : jmV yJ0_coder_7d493 cJ0_coder_7d493 1 (some .byte) 0 := ⟨⟨(jj_m (w := Cond.code yJ0_coder_7d493 cJ0_coder_7d493 1 (some .byte)) (List.mem_of_getElem? (i := 358) (by decide +kernel)) rfl), (jj_m (w := Cond.initialized yJ0_coder_7d493.cls) (List.mem_of_getElem? (i := 70) (by decide +kernel)) rfl), ⟨by decide, by decide⟩, by decide +kernel⟩, (jj_m (w := Cond.instanceMethod yJ0_coder_7d493) (List.mem_of_getElem? (i := 356) (by decide +kernel)) rfl), (jj_m (w := Cond.selects yJ0_coder_7d493.cls yJ0_coder_7d493 yJ0_coder_7d493) (List.mem_of_getElem? (i := 357) (by decide +kernel)) rfl)⟩
theorem dd_J0_isLatin1_aae02_0 : jd cJ0_isLatin1_aae02 0 (.getstatic 38) 3 3 := ⟨by decide +kernel, rfl⟩
theorem dd_J0_isLatin1_aae02_3 : jd cJ0_isLatin1_aae02 3 (.ifCond .eq 14) 3 6 := ⟨by decide +kernel, rfl⟩
theorem dd_J0_isLatin1_aae02_6 : jd cJ0_isLatin1_aae02 6 (.aload_n 0) 1 7 := ⟨by decide +kernel, rfl⟩
theorem dd_J0_isLatin1_aae02_7 : jd cJ0_isLatin1_aae02 7 (.getfield 15) 3 10 := ⟨by decide +kernel, rfl⟩
theorem dd_J0_isLatin1_aae02_10 : jd cJ0_isLatin1_aae02 10 (.ifCond .ne 7) 3 13 := ⟨by decide +kernel, rfl⟩
theorem dd_J0_isLatin1_aae02_13 : jd cJ0_isLatin1_aae02 13 (.iconst 1) 1 14 := ⟨by decide +kernel, rfl⟩
theorem dd_J0_isLatin1_aae02_14 : jd cJ0_isLatin1_aae02 14 (.goto 4) 3 17 := ⟨by decide +kernel, rfl⟩
theorem dd_J0_isLatin1_aae02_17 : jd cJ0_isLatin1_aae02 17 (.iconst 0) 1 18 := ⟨by decide +kernel, rfl⟩
theorem dd_J0_isLatin1_aae02_18 : jd cJ0_isLatin1_aae02 18 (.ireturn) 1 19 := ⟨by decide +kernel, rfl⟩
theorem m_J0_isLatin1_aae02 : jmV yJ0_isLatin1_aae02 cJ0_isLatin1_aae02 1 (some .boolean) 0 := ⟨⟨(jj_m (w := Cond.code yJ0_isLatin1_aae02 cJ0_isLatin1_aae02 1 (some .boolean)) (List.mem_of_getElem? (i := 368) (by decide +kernel)) rfl), (jj_m (w := Cond.initialized yJ0_isLatin1_aae02.cls) (List.mem_of_getElem? (i := 70) (by decide +kernel)) rfl), ⟨by decide, by decide⟩, by decide +kernel⟩, (jj_m (w := Cond.instanceMethod yJ0_isLatin1_aae02) (List.mem_of_getElem? (i := 366) (by decide +kernel)) rfl), (jj_m (w := Cond.selects yJ0_isLatin1_aae02.cls yJ0_isLatin1_aae02 yJ0_isLatin1_aae02) (List.mem_of_getElem? (i := 367) (by decide +kernel)) rfl)⟩
theorem dd_J1_charAt_3b067_0 : jd cJ1_charAt_3b067 0 (.iload_n 1) 1 1 := ⟨by decide +kernel, rfl⟩
theorem dd_J1_charAt_3b067_1 : jd cJ1_charAt_3b067 1 (.aload_n 0) 1 2 := ⟨by decide +kernel, rfl⟩
theorem dd_J1_charAt_3b067_2 : jd cJ1_charAt_3b067 2 (.arraylength) 1 3 := ⟨by decide +kernel, rfl⟩
theorem dd_J1_charAt_3b067_3 : jd cJ1_charAt_3b067 3 (.invokestatic 9) 3 6 := ⟨by decide +kernel, rfl⟩
theorem dd_J1_charAt_3b067_6 : jd cJ1_charAt_3b067 6 (.aload_n 0) 1 7 := ⟨by decide +kernel, rfl⟩
theorem dd_J1_charAt_3b067_7 : jd cJ1_charAt_3b067 7 (.iload_n 1) 1 8 := ⟨by decide +kernel, rfl⟩
theorem dd_J1_charAt_3b067_8 : jd cJ1_charAt_3b067 8 (.baload) 1 9 := ⟨by decide +kernel, rfl⟩
theorem dd_J1_charAt_3b067_9 : jd cJ1_charAt_3b067 9 (.sipush 255) 3 12 := ⟨by decide +kernel, rfl⟩
theorem dd_J1_charAt_3b067_12 : jd cJ1_charAt_3b067 12 (.iand) 1 13 := ⟨by decide +kernel, rfl⟩
theorem dd_J1_charAt_3b067_13 : jd cJ1_charAt_3b067 13 (.i2c) 1 14 := ⟨by decide +kernel, rfl⟩
theorem dd_J1_charAt_3b067_14 : jd cJ1_charAt_3b067 14 (.ireturn) 1 15 := ⟨by decide +kernel, rfl⟩
theorem m_J1_charAt_3b067 : jmS yJ1_charAt_3b067 cJ1_charAt_3b067 2 (some .char) 2 := ⟨(jj_m (w := Cond.code yJ1_charAt_3b067 cJ1_charAt_3b067 2 (some .char)) (List.mem_of_getElem? (i := 371) (by decide +kernel)) rfl), (jj_m (w := Cond.initialized yJ1_charAt_3b067.cls) (List.mem_of_getElem? (i := 71) (by decide +kernel)) rfl), ⟨by decide, by decide⟩, by decide +kernel⟩
theorem s_J1_charAt_3b067 : (Cond.static yJ1_charAt_3b067 : Cond) ∈ jj_tb := (jj_m (w := Cond.static yJ1_charAt_3b067) (List.mem_of_getElem? (i := 370) (by decide +kernel)) rfl)
theorem dd_J0_length_8abf5_0 : jd cJ0_length_8abf5 0 (.aload_n 0) 1 1 := ⟨by decide +kernel, rfl⟩
theorem dd_J0_length_8abf5_1 : jd cJ0_length_8abf5 1 (.getfield 9) 3 4 := ⟨by decide +kernel, rfl⟩
theorem dd_J0_length_8abf5_4 : jd cJ0_length_8abf5 4 (.arraylength) 1 5 := ⟨by decide +kernel, rfl⟩
theorem dd_J0_length_8abf5_5 : jd cJ0_length_8abf5 5 (.aload_n 0) 1 6 := ⟨by decide +kernel, rfl⟩
theorem dd_J0_length_8abf5_6 : jd cJ0_length_8abf5 6 (.invokevirtual 335) 3 9 := ⟨by decide +kernel, rfl⟩
theorem dd_J0_length_8abf5_9 : jd cJ0_length_8abf5 9 (.ishr) 1 10 := ⟨by decide +kernel, rfl⟩
theorem dd_J0_length_8abf5_10 : jd cJ0_length_8abf5 10 (.ireturn) 1 11 := ⟨by decide +kernel, rfl⟩
theorem m_J0_length_8abf5 : jmV yJ0_length_8abf5 cJ0_length_8abf5 1 (some .int) 0 := ⟨⟨(jj_m (w := Cond.code yJ0_length_8abf5 cJ0_length_8abf5 1 (some .int)) (List.mem_of_getElem? (i := 354) (by decide +kernel)) rfl), (jj_m (w := Cond.initialized yJ0_length_8abf5.cls) (List.mem_of_getElem? (i := 70) (by decide +kernel)) rfl), ⟨by decide, by decide⟩, by decide +kernel⟩, (jj_m (w := Cond.instanceMethod yJ0_length_8abf5) (List.mem_of_getElem? (i := 352) (by decide +kernel)) rfl), (jj_m (w := Cond.selects yJ0_length_8abf5.cls yJ0_length_8abf5 yJ0_length_8abf5) (List.mem_of_getElem? (i := 353) (by decide +kernel)) rfl)⟩
theorem dd_J0_charAt_5068e_0 : jd cJ0_charAt_5068e 0 (.aload_n 0) 1 1 := ⟨by decide +kernel, rfl⟩
theorem dd_J0_charAt_5068e_1 : jd cJ0_charAt_5068e 1 (.invokevirtual 492) 3 4 := ⟨by decide +kernel, rfl⟩
theorem dd_J0_charAt_5068e_4 : jd cJ0_charAt_5068e 4 (.ifCond .eq 12) 3 7 := ⟨by decide +kernel, rfl⟩
theorem dd_J0_charAt_5068e_7 : jd cJ0_charAt_5068e 7 (.aload_n 0) 1 8 := ⟨by decide +kernel, rfl⟩
theorem dd_J0_charAt_5068e_8 : jd cJ0_charAt_5068e 8 (.getfield 9) 3 11 := ⟨by decide +kernel, rfl⟩
theorem dd_J0_charAt_5068e_11 : jd cJ0_charAt_5068e 11 (.iload_n 1) 1 12 := ⟨by decide +kernel, rfl⟩
theorem dd_J0_charAt_5068e_12 : jd cJ0_charAt_5068e 12 (.invokestatic 495) 3 15 := ⟨by decide +kernel, rfl⟩
theorem dd_J0_charAt_5068e_15 : jd cJ0_charAt_5068e 15 (.ireturn) 1 16 := ⟨by decide +kernel, rfl⟩
theorem dd_J0_charAt_5068e_16 : jd cJ0_charAt_5068e 16 (.aload_n 0) 1 17 := ⟨by decide +kernel, rfl⟩
theorem dd_J0_charAt_5068e_17 : jd cJ0_charAt_5068e 17 (.getfield 9) 3 20 := ⟨by decide +kernel, rfl⟩
theorem dd_J0_charAt_5068e_20 : jd cJ0_charAt_5068e 20 (.iload_n 1) 1 21 := ⟨by decide +kernel, rfl⟩
theorem dd_J0_charAt_5068e_21 : jd cJ0_charAt_5068e 21 (.invokestatic 498) 3 24 := ⟨by decide +kernel, rfl⟩
theorem dd_J0_charAt_5068e_24 : jd cJ0_charAt_5068e 24 (.ireturn) 1 25 := ⟨by decide +kernel, rfl⟩
theorem m_J0_charAt_5068e : jmV yJ0_charAt_5068e cJ0_charAt_5068e 2 (some .char) 1 := ⟨⟨(jj_m (w := Cond.code yJ0_charAt_5068e cJ0_charAt_5068e 2 (some .char)) (List.mem_of_getElem? (i := 364) (by decide +kernel)) rfl), (jj_m (w := Cond.initialized yJ0_charAt_5068e.cls) (List.mem_of_getElem? (i := 70) (by decide +kernel)) rfl), ⟨by decide, by decide⟩, by decide +kernel⟩, (jj_m (w := Cond.instanceMethod yJ0_charAt_5068e) (List.mem_of_getElem? (i := 362) (by decide +kernel)) rfl), (jj_m (w := Cond.selects yJ0_charAt_5068e.cls yJ0_charAt_5068e yJ0_charAt_5068e) (List.mem_of_getElem? (i := 363) (by decide +kernel)) rfl)⟩
theorem ml_RJ0_335 : (Cond.methodLink "java/lang/String" 335 yJ0_coder_7d493 : Cond) ∈ jj_tb := jj_m (List.mem_of_getElem? (i := 355) (by decide +kernel)) rfl
theorem ml_RJ0_492 : (Cond.methodLink "java/lang/String" 492 yJ0_isLatin1_aae02 : Cond) ∈ jj_tb := jj_m (List.mem_of_getElem? (i := 365) (by decide +kernel)) rfl
theorem ml_RJ0_495 : (Cond.methodLink "java/lang/String" 495 yJ1_charAt_3b067 : Cond) ∈ jj_tb := jj_m (List.mem_of_getElem? (i := 369) (by decide +kernel)) rfl
theorem ml_RJ1_9 : (Cond.methodLink "java/lang/StringLatin1" 9 yJ0_checkIndex_df160 : Cond) ∈ jj_tb := jj_m (List.mem_of_getElem? (i := 372) (by decide +kernel)) rfl
theorem ml_RJ0_1059 : (Cond.methodLink "java/lang/String" 1059 yJ3_checkIndex_8e157 : Cond) ∈ jj_tb := jj_m (List.mem_of_getElem? (i := 377) (by decide +kernel)) rfl
theorem fl_RJ0_38 : (Cond.fieldLink "java/lang/String" 38 "java/lang/String" "COMPACT_STRINGS" "Z" : Cond) ∈ jj_tb := jj_m (List.mem_of_getElem? (i := 359) (by decide +kernel)) rfl
theorem fl_RJ0_1053 : (Cond.fieldLink "java/lang/String" 1053 "jdk/internal/util/Preconditions" "SIOOBE_FORMATTER" "Ljava/util/function/BiFunction;" : Cond) ∈ jj_tb := jj_m (List.mem_of_getElem? (i := 375) (by decide +kernel)) rfl
theorem fl_RJ0_9 : (Cond.fieldLink "java/lang/String" 9 "java/lang/String" "value" "[B" : Cond) ∈ jj_tb := jj_m (List.mem_of_getElem? (i := 1274) (by decide +kernel)) rfl
theorem fl_RJ0_15 : (Cond.fieldLink "java/lang/String" 15 "java/lang/String" "coder" "B" : Cond) ∈ jj_tb := jj_m (List.mem_of_getElem? (i := 1275) (by decide +kernel)) rfl

set_option maxHeartbeats 4000000 in
set_option maxRecDepth 100000 in
theorem tJ3_checkIndex (l : Launch) {σ : Type} (V : JV σ) (X : σ) {i m : Int32} (h1 : ¬ i < 0) (h2 : i < m) (r : Option Nat) : JC l V yJ3_checkIndex_8e157 cJ3_checkIndex_8e157 3 (some .int) jj_i 0 [.int i, .int m, va_rf r] X ((some i).map (fun r => (r, X))) := by
  refine jj_of (by decide) (by cases r <;> exact Nat.le_of_ble_eq_true rfl) (fun E hlE hE => ?_)
  have hL : lv_args 0 [.int i, .int m, va_rf r] = [(0, .int i), (1, .int m), (2, va_rf r)] := by cases r <;> rfl
  rw [hL]
  refine J_iload_n hE dd_J3_checkIndex_8e157_0 0 rfl rfl ?_
  refine J_eq (o' := if i < 0 then none else some i) (by rw [if_neg h1]) ?_
  refine J_if_lt hE (tgt := 9) dd_J3_checkIndex_8e157_1 (by decide) (fun c => absurd c h1) (fun _ => ?_)
  refine J_iload_n hE dd_J3_checkIndex_8e157_4 0 rfl rfl ?_
  refine J_iload_n hE dd_J3_checkIndex_8e157_5 1 rfl rfl ?_
  refine J_eq (o' := if i < m then some i else none) (by rw [if_pos h2]) ?_
  refine J_icmp_lt hE (tgt := 16) dd_J3_checkIndex_8e157_6 (by decide) (fun _ => ?_) (fun c => absurd h2 c)
  refine J_iload_n hE dd_J3_checkIndex_8e157_16 0 rfl rfl ?_
  exact J_iret hE dd_J3_checkIndex_8e157_17 rfl rfl
set_option maxHeartbeats 4000000 in
set_option maxRecDepth 100000 in
theorem tJ0_checkIndex (l : Launch) {σ : Type} (V : JV σ) (X : σ) {i m : Int32} (h1 : ¬ i < 0) (h2 : i < m) : JC l V yJ0_checkIndex_df160 cJ0_checkIndex_df160 2 none jj_v 1 [.int i, .int m] X ((some X).map (fun q => ((), q))) := by
  refine jj_of (by decide) (Nat.le_of_ble_eq_true rfl) (fun E hlE hE => ?_)
  refine J_sub (L' := [(0, .int i), (1, .int m)]) [0, 1] rfl ?_
  refine J_iload_n hE dd_J0_checkIndex_df160_0 0 rfl rfl ?_
  refine J_iload_n hE dd_J0_checkIndex_df160_1 1 rfl rfl ?_
  refine J_getsSF hE dd_J0_checkIndex_df160_2 fl_RJ0_1053 (fun r => ?_)
  refine J_eq (o' := (some i).bind (fun _ => some X)) rfl ?_
  refine J_invSri hE (As := [.int i, .int m, va_rf r]) (st := []) (tJ3_checkIndex E.2.1 V X h1 h2 r) m_J3_checkIndex_8e157 s_J3_checkIndex_8e157 rfl ml_RJ0_1059 (Nat.le_of_ble_eq_true rfl) (Nat.le_of_ble_eq_true rfl) rfl (Nat.le_of_ble_eq_true rfl) dd_J0_checkIndex_df160_5 (fun _ => ?_)
  refine J_pop hE dd_J0_checkIndex_df160_8 rfl ?_
  exact J_vret hE dd_J0_checkIndex_df160_9 rfl rfl
set_option maxHeartbeats 4000000 in
set_option maxRecDepth 100000 in
theorem tJ0_coder (l : Launch) {k : Nat} (hk : k < 8) {σ : Type} (V : JV σ) (X : σ) : JC l V yJ0_coder_7d493 cJ0_coder_7d493 1 (some .byte) jj_i 0 [.ref (V.2.2.2.2.1 k)] X ((some (0 : Int32)).map (fun r => (r, X))) := by
  refine jj_of (by decide) (Nat.le_of_ble_eq_true rfl) (fun E hlE hE => ?_)
  refine J_sub (L' := [(0, .ref (V.2.2.2.2.1 k))]) [0] rfl ?_
  refine J_getsCS hE dd_J0_coder_7d493_0 fl_RJ0_38 ?_
  refine J_eq (o' := if (1 : Int32) = 0 then none else some 0) rfl ?_
  refine J_if_eq hE (tgt := 13) dd_J0_coder_7d493_3 (by decide) (fun c => absurd c (by decide)) (fun _ => ?_)
  refine J_aload_n hE dd_J0_coder_7d493_6 0 rfl rfl ?_
  refine J_kcod hE hk dd_J0_coder_7d493_7 fl_RJ0_15 ?_
  refine J_goto hE (tgt := 14) dd_J0_coder_7d493_10 (by decide) ?_
  exact J_nret hE rfl dd_J0_coder_7d493_14 rfl rfl
set_option maxHeartbeats 4000000 in
set_option maxRecDepth 100000 in
theorem tJ0_isLatin1 (l : Launch) {k : Nat} (hk : k < 8) {σ : Type} (V : JV σ) (X : σ) : JC l V yJ0_isLatin1_aae02 cJ0_isLatin1_aae02 1 (some .boolean) jj_i 0 [.ref (V.2.2.2.2.1 k)] X ((some (1 : Int32)).map (fun r => (r, X))) := by
  refine jj_of (by decide) (Nat.le_of_ble_eq_true rfl) (fun E hlE hE => ?_)
  refine J_sub (L' := [(0, .ref (V.2.2.2.2.1 k))]) [0] rfl ?_
  refine J_getsCS hE dd_J0_isLatin1_aae02_0 fl_RJ0_38 ?_
  refine J_eq (o' := if (1 : Int32) = 0 then none else some 1) rfl ?_
  refine J_if_eq hE (tgt := 17) dd_J0_isLatin1_aae02_3 (by decide) (fun c => absurd c (by decide)) (fun _ => ?_)
  refine J_aload_n hE dd_J0_isLatin1_aae02_6 0 rfl rfl ?_
  refine J_kcod hE hk dd_J0_isLatin1_aae02_7 fl_RJ0_15 ?_
  refine J_eq (o' := if (0 : Int32) = 0 then some 1 else none) rfl ?_
  refine J_if_ne hE (tgt := 17) dd_J0_isLatin1_aae02_10 (by decide) (fun c => absurd rfl c) (fun _ => ?_)
  refine J_iconst hE (v := 1) dd_J0_isLatin1_aae02_13 (by decide) ?_
  refine J_goto hE (tgt := 18) dd_J0_isLatin1_aae02_14 (by decide) ?_
  exact J_nret hE rfl dd_J0_isLatin1_aae02_18 rfl rfl
/-- a byte of a literal is its char -/
theorem kb_all : ∀ k, k < 8 → ∀ j, j < jj_len.getD k 0 → ((((jj_byt.getD k []).getD j 0) &&& 255).toUInt32 % 65536).toInt32 = (jj_byt.getD k []).getD j 0 ∧ narrow .char (.int ((jj_byt.getD k []).getD j 0)) = .int ((jj_byt.getD k []).getD j 0) := by decide +kernel
theorem kl_all : ∀ k, k < 8 → jj_len.getD k 0 < 100 := by decide +kernel
theorem kl_lt {k : Nat} {i : Int32} (hk : k < 8) (hi : ¬ (i < 0 ∨ jj_len.getD k 0 ≤ i.toNatClampNeg)) : i < Int32.ofNat (jj_len.getD k 0) := by
  have h1 := kl_all k hk
  have h2 : ¬ jj_len.getD k 0 ≤ i.toNatClampNeg := fun q => hi (Or.inr q)
  obtain ⟨j, hj, hij⟩ := nI_of (x := i) (fun q => hi (Or.inl q))
  rw [hij, nI_clamp hj] at h2
  rw [hij]
  exact nI_lt (by omega) (by omega)
def fJ0_length_8abf5 (k : Nat) : Option Int32 := some (Int32.ofNat (jj_len.getD k 0))
def fJ0_charAt_5068e (k : Nat) (i : Int32) : Option Int32 := bnd i (jj_len.getD k 0) (some ((jj_byt.getD k []).getD i.toNatClampNeg 0))
theorem sh0 : ∀ k, k < 8 → Int32.ofNat (jj_len.getD k 0) >>> ((0 : Int32) &&& 31) = Int32.ofNat (jj_len.getD k 0) := by decide +kernel
set_option maxHeartbeats 4000000 in
set_option maxRecDepth 100000 in
theorem tJ0_length_8abf5 (l : Launch) {k : Nat} (hk : k < 8) {σ : Type} (V : JV σ) (X : σ) : JC l V yJ0_length_8abf5 cJ0_length_8abf5 1 (some .int) jj_i 4 [.ref (V.2.2.2.2.1 k)] X ((fJ0_length_8abf5 k).map (fun r => (r, X))) := by
  refine jj_of (by decide) (Nat.le_of_ble_eq_true rfl) (fun E hlE hE => ?_)
  refine J_sub (L' := [(0, .ref (V.2.2.2.2.1 k))]) [0] rfl ?_
  refine J_aload_n hE dd_J0_length_8abf5_0 0 rfl rfl ?_
  refine J_kval hE hk dd_J0_length_8abf5_1 fl_RJ0_9 ?_
  refine J_klen hE hk dd_J0_length_8abf5_4 ?_
  refine J_aload_n hE dd_J0_length_8abf5_5 0 rfl rfl ?_
  refine J_eq (o' := (some (0 : Int32)).bind (fun c => some (Int32.ofNat (jj_len.getD k 0) >>> (c &&& 31)))) (by unfold fJ0_length_8abf5; exact congrArg some (sh0 k hk).symm) ?_
  refine J_invK hE (As := []) (st := [.int (Int32.ofNat (jj_len.getD k 0))]) (tJ0_coder E.2.1 hk V X) hk m_J0_coder_7d493 rfl rfl ml_RJ0_335 (Nat.le_of_ble_eq_true rfl) (Nat.le_of_ble_eq_true rfl) rfl (Nat.le_of_ble_eq_true rfl) dd_J0_length_8abf5_6 (fun c => ?_)
  refine J_ishr hE dd_J0_length_8abf5_9 ?_
  exact J_iret hE dd_J0_length_8abf5_10 rfl rfl
set_option maxHeartbeats 4000000 in
set_option maxRecDepth 100000 in
theorem tJ1_charAt (l : Launch) {k : Nat} {i : Int32} (hk : k < 8) (hi : ¬ (i < 0 ∨ jj_len.getD k 0 ≤ i.toNatClampNeg)) {σ : Type} (V : JV σ) (X : σ) : JC l V yJ1_charAt_3b067 cJ1_charAt_3b067 2 (some .char) jj_i 2 [.ref (V.2.2.2.2.2 k), .int i] X ((some ((jj_byt.getD k []).getD i.toNatClampNeg 0)).map (fun r => (r, X))) := by
  have hj : i.toNatClampNeg < jj_len.getD k 0 := Nat.not_le.mp (fun q => hi (Or.inr q))
  refine jj_of (by decide) (Nat.le_of_ble_eq_true rfl) (fun E hlE hE => ?_)
  refine J_sub (L' := [(0, .ref (V.2.2.2.2.2 k)), (1, .int i)]) [0, 1] rfl ?_
  refine J_iload_n hE dd_J1_charAt_3b067_0 1 rfl rfl ?_
  refine J_aload_n hE dd_J1_charAt_3b067_1 0 rfl rfl ?_
  refine J_klen hE hk dd_J1_charAt_3b067_2 ?_
  refine J_eq (o' := (some X).bind (fun _ => some ((jj_byt.getD k []).getD i.toNatClampNeg 0))) rfl ?_
  refine J_invSwv hE (e := fun x => X) (As := [.int i, .int (Int32.ofNat (jj_len.getD k 0))]) (st := []) (tJ0_checkIndex E.2.1 V X (fun q => hi (Or.inl q)) (kl_lt hk hi)) m_J0_checkIndex_df160 s_J0_checkIndex_df160 rfl ml_RJ1_9 (Nat.le_of_ble_eq_true rfl) (Nat.le_of_ble_eq_true rfl) rfl (Nat.le_of_ble_eq_true rfl) dd_J1_charAt_3b067_3 (fun _ => ?_)
  refine J_aload_n hE dd_J1_charAt_3b067_6 0 rfl rfl ?_
  refine J_iload_n hE dd_J1_charAt_3b067_7 1 rfl rfl ?_
  refine J_kbyt hE hk hi dd_J1_charAt_3b067_8 ?_
  refine J_sipush hE (v := 255) dd_J1_charAt_3b067_9 (by decide) ?_
  refine J_iand hE dd_J1_charAt_3b067_12 ?_
  refine J_i2c hE dd_J1_charAt_3b067_13 (kb_all k hk _ hj).1 ?_
  exact J_nret hE (kb_all k hk _ hj).2 dd_J1_charAt_3b067_14 rfl rfl
set_option maxHeartbeats 4000000 in
set_option maxRecDepth 100000 in
theorem tJ0_charAt_5068e (l : Launch) {k : Nat} (hk : k < 8) {σ : Type} (V : JV σ) (X : σ) (i : Int32) : JC l V yJ0_charAt_5068e cJ0_charAt_5068e 2 (some .char) jj_i 4 [.ref (V.2.2.2.2.1 k), .int i] X ((fJ0_charAt_5068e k i).map (fun r => (r, X))) := by
  unfold fJ0_charAt_5068e bnd
  by_cases hi : i < 0 ∨ jj_len.getD k 0 ≤ i.toNatClampNeg
  · rw [if_pos hi]
    exact JC_none
  rw [if_neg hi]
  have hj : i.toNatClampNeg < jj_len.getD k 0 := Nat.not_le.mp (fun q => hi (Or.inr q))
  refine jj_of (by decide) (Nat.le_of_ble_eq_true rfl) (fun E hlE hE => ?_)
  refine J_sub (L' := [(0, .ref (V.2.2.2.2.1 k)), (1, .int i)]) [0, 1] rfl ?_
  refine J_aload_n hE dd_J0_charAt_5068e_0 0 rfl rfl ?_
  refine J_eq (o' := (some (1 : Int32)).bind (fun c => if c = 0 then none else some ((jj_byt.getD k []).getD i.toNatClampNeg 0))) rfl ?_
  refine J_invK hE (As := []) (st := []) (tJ0_isLatin1 E.2.1 hk V X) hk m_J0_isLatin1_aae02 rfl rfl ml_RJ0_492 (Nat.le_of_ble_eq_true rfl) (Nat.le_of_ble_eq_true rfl) rfl (Nat.le_of_ble_eq_true rfl) dd_J0_charAt_5068e_1 (fun c => ?_)
  refine J_if_eq hE (tgt := 16) dd_J0_charAt_5068e_4 (by decide) (fun _ => J_none) (fun _ => ?_)
  refine J_aload_n hE dd_J0_charAt_5068e_7 0 rfl rfl ?_
  refine J_kval hE hk dd_J0_charAt_5068e_8 fl_RJ0_9 ?_
  refine J_iload_n hE dd_J0_charAt_5068e_11 1 rfl rfl ?_
  refine J_eq (o' := (some ((jj_byt.getD k []).getD i.toNatClampNeg 0)).bind (fun c => if c = (jj_byt.getD k []).getD i.toNatClampNeg 0 then some c else none)) (by simp) ?_
  refine J_invSri hE (As := [.ref (V.2.2.2.2.2 k), .int i]) (st := []) (tJ1_charAt E.2.1 hk hi V X) m_J1_charAt_3b067 s_J1_charAt_3b067 rfl ml_RJ0_495 (Nat.le_of_ble_eq_true rfl) (Nat.le_of_ble_eq_true rfl) rfl (Nat.le_of_ble_eq_true rfl) dd_J0_charAt_5068e_12 (fun c => ?_)
  refine J_ite (fun hc => ?_) (fun _ => J_none)
  exact J_nret hE (by rw [hc]; exact (kb_all k hk _ hj).2) dd_J0_charAt_5068e_15 rfl rfl
