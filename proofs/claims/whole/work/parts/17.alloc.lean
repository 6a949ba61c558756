/-! Allocation: a judgement for constructors over a growing list of cells -/
abbrev KE : Type := Program × Launch × Env × Room × State × MethodId × Array Value × List Frame × Method × Code × Nat × (Nat → Prop) × (State → Prop) × va_G × (Nat → Nat) × (Nat → Nat)
def KJ (E : KE) (ws : va_W) (tys : List (ClassId × FieldType)) (cn sn pc : Nat) (L : List (Nat × Value)) (st : List Value) : Prop :=
  match E with
  | (p, l, e, R, s, m, args, below, meth, c, nL, A, Q, D, _, _) => ∀ (H : Heap) (locs : List Loc) (ls : Array Slot), va_K D vwCl tys s → va_P D vwCl ws H → va_D A ws → va_S A s.heap H locs → lv_has ls nL L → W p l e R s m args below meth c H locs cn sn Q (F0 m pc ls st)
def KOk (E : KE) (cc : ByteArray) (own : String) (n : Nat) (nm : String) (Rm : Room) : Prop :=
  match E with
  | (p, _, _, R, s, m, args, _, meth, c, nL, A, _, _, K, Z) => p.tables.exec = Jvm.exec ∧ c.code = cc ∧ (c.maxLocals = n ∧ nL = n) ∧ s.vm.findClass own = some m.cls ∧ (∀ w ∈ jj_tb, w.before args s = true) ∧ (meth.name = nm ∧ R = Rm) ∧ (∀ q : Nat, s.heap.size ≤ q → A q) ∧ jj_St K Z A s s.heap ∧ va_AO "MothCustoms$Shed" s ∧ va_AO "MothCustoms$Sheet" s
def jj_Ra (d mc ms : Nat) : Room := { frames := d, cells := mc, slots := ms, locals := 60 * d }
/-- a constructor's contract: on a fresh object of class ci it makes mc cells of ms slots, and leaves the cells W1 -/
def JI {β : Type} (l : Launch) (y : MethodName) (cc : ByteArray) (n d mc ms ci : Nat) (fs0 : List Value) (W1 : Nat → β → va_W) (T1 : β → List (ClassId × FieldType)) : Prop :=
  ∀ (D : va_G) (K Z : Nat → Nat) (h0 sz : Nat), Met l y (.code y cc n none :: jj_tb) (jj_Ra d mc ms)
    (va_Pc [.ref h0] (fun U => U.heap.size = sz ∧ va_P D vwCl [(h0, .inr (ci, fs0))] U.heap ∧ va_K D vwCl [] U ∧ va_D (fun _ => True) [(h0, .inr (ci, fs0))] ∧ jj_St K Z (va_A [(h0, .inr (ci, fs0))] sz) U U.heap ∧ va_AO "MothCustoms$Shed" U ∧ va_AO "MothCustoms$Sheet" U))
    (fun _ st oc t => (oc = .returned none ∧ ∃ x : β, va_P D vwCl (W1 h0 x) t.heap ∧ va_K D vwCl (T1 x) t ∧ va_D (va_A [(h0, .inr (ci, fs0))] sz) (W1 h0 x)) ∧ va_F (va_A [(h0, .inr (ci, fs0))] sz) st t)
    mc ms (va_A [(h0, .inr (ci, fs0))] sz)
theorem jw_objI : (Cond.instanceMethod Lib.objectInit : Cond) ∈ jj_tb := jj_m (List.mem_of_getElem? (i := 83) (by decide +kernel)) rfl
theorem jw_objC : (Cond.code Lib.objectInit ⟨#[0xb1]⟩ 1 none : Cond) ∈ jj_tb := jj_m (List.mem_of_getElem? (i := 84) (by decide +kernel)) rfl
section KR
variable {E : KE} {cc : ByteArray} {own nm : String} {n : Nat} {Rm : Room} {ws ws' : va_W} {tys : List (ClassId × FieldType)} {cn sn pc pc' : Nat} {L L' : List (Nat × Value)} {st : List Value}
theorem K_ws {tys' : List (ClassId × FieldType)} (h : ws = ws') (ht : tys = tys') (k : KJ E ws' tys' cn sn pc L st) : KJ E ws tys cn sn pc L st := by rw [h, ht]; exact k
theorem K_num {cn' sn' : Nat} (h1 : cn = cn') (h2 : sn = sn') (k : KJ E ws tys cn' sn' pc L st) : KJ E ws tys cn sn pc L st := by rw [h1, h2]; exact k
theorem K_iconst (hE : KOk E cc own n nm Rm) {z : Int} {v : Int32} (hd : jd cc pc (.iconst z) 1 pc') (hv : Int32.ofInt z = v) (k : KJ E ws tys cn sn pc' L (.int v :: st)) : KJ E ws tys cn sn pc L (st) := by
  obtain ⟨p, l, e, R, s, m, args, below, meth, c, nL, A, Q, D, K, Z⟩ := E
  obtain ⟨hx, hb, ⟨hml, hnL⟩, hown, hts, hin, hA, hSt, hAO1, hAO2⟩ := hE
  obtain ⟨hd, rfl⟩ := hd
  intro H locs ls hK hP hD hS hl
  exact lv_iconst hx hb hd hv (k H locs ls hK hP hD hS hl)
theorem K_bipush (hE : KOk E cc own n nm Rm) {z : Int} {v : Int32} (hd : jd cc pc (.bipush z) 2 pc') (hv : (Int8.ofInt z).toInt32 = v) (k : KJ E ws tys cn sn pc' L (.int v :: st)) : KJ E ws tys cn sn pc L (st) := by
  obtain ⟨p, l, e, R, s, m, args, below, meth, c, nL, A, Q, D, K, Z⟩ := E
  obtain ⟨hx, hb, ⟨hml, hnL⟩, hown, hts, hin, hA, hSt, hAO1, hAO2⟩ := hE
  obtain ⟨hd, rfl⟩ := hd
  intro H locs ls hK hP hD hS hl
  exact lv_bipush hx hb hd hv (k H locs ls hK hP hD hS hl)
theorem K_sipush (hE : KOk E cc own n nm Rm) {z : Int} {v : Int32} (hd : jd cc pc (.sipush z) 3 pc') (hv : (Int16.ofInt z).toInt32 = v) (k : KJ E ws tys cn sn pc' L (.int v :: st)) : KJ E ws tys cn sn pc L (st) := by
  obtain ⟨p, l, e, R, s, m, args, below, meth, c, nL, A, Q, D, K, Z⟩ := E
  obtain ⟨hx, hb, ⟨hml, hnL⟩, hown, hts, hin, hA, hSt, hAO1, hAO2⟩ := hE
  obtain ⟨hd, rfl⟩ := hd
  intro H locs ls hK hP hD hS hl
  exact lv_sipush hx hb hd hv (k H locs ls hK hP hD hS hl)
theorem K_dup (hE : KOk E cc own n nm Rm) {v : Value} (hd : jd cc pc .dup 1 pc') (hc : v.category = 1) (k : KJ E ws tys cn sn pc' L (v :: v :: st)) : KJ E ws tys cn sn pc L (v :: st) := by
  obtain ⟨p, l, e, R, s, m, args, below, meth, c, nL, A, Q, D, K, Z⟩ := E
  obtain ⟨hx, hb, ⟨hml, hnL⟩, hown, hts, hin, hA, hSt, hAO1, hAO2⟩ := hE
  obtain ⟨hd, rfl⟩ := hd
  intro H locs ls hK hP hD hS hl
  exact lv_dup hx hb hd hc (k H locs ls hK hP hD hS hl)
theorem K_aload_n (hE : KOk E cc own n nm Rm) {f : Fin 4} {i : Nat} {x : Nat} (hd : jd cc pc (.aload_n f) 1 pc') (j : Nat) (hi : (f : Nat) = i) (hk : L[j]? = some (i, .ref x)) (k : KJ E ws tys cn sn pc' L (.ref x :: st)) : KJ E ws tys cn sn pc L (st) := by
  obtain ⟨p, l, e, R, s, m, args, below, meth, c, nL, A, Q, D, K, Z⟩ := E
  obtain ⟨hx, hb, ⟨hml, hnL⟩, hown, hts, hin, hA, hSt, hAO1, hAO2⟩ := hE
  obtain ⟨hd, rfl⟩ := hd
  intro H locs ls hK hP hD hS hl
  exact lv_aload_n hx hb hd hi (lv_at hl j hk) (k H locs ls hK hP hD hS hl)
theorem K_iload_n (hE : KOk E cc own n nm Rm) {f : Fin 4} {i : Nat} {x : Int32} (hd : jd cc pc (.iload_n f) 1 pc') (j : Nat) (hi : (f : Nat) = i) (hk : L[j]? = some (i, .int x)) (k : KJ E ws tys cn sn pc' L (.int x :: st)) : KJ E ws tys cn sn pc L (st) := by
  obtain ⟨p, l, e, R, s, m, args, below, meth, c, nL, A, Q, D, K, Z⟩ := E
  obtain ⟨hx, hb, ⟨hml, hnL⟩, hown, hts, hin, hA, hSt, hAO1, hAO2⟩ := hE
  obtain ⟨hd, rfl⟩ := hd
  intro H locs ls hK hP hD hS hl
  exact lv_iload_n hx hb hd hi (lv_at hl j hk) (k H locs ls hK hP hD hS hl)
theorem K_istore_n (hE : KOk E cc own n nm Rm) {f : Fin 4} {i : Nat} {x : Int32} (hd : jd cc pc (.istore_n f) 1 pc') (hn : i < n) (hi : (f : Nat) = i) (hL : (i, Value.int x) :: L.filter (fun q => !(q.1 == i) && !(q.1 + 1 == i && q.2.category == 2)) = L') (k : KJ E ws tys cn sn pc' L' st) : KJ E ws tys cn sn pc L (.int x :: st) := by
  obtain ⟨p, l, e, R, s, m, args, below, meth, c, nL, A, Q, D, K, Z⟩ := E
  obtain ⟨hx, hb, ⟨hml, hnL⟩, hown, hts, hin, hA, hSt, hAO1, hAO2⟩ := hE
  obtain ⟨hd, rfl⟩ := hd
  intro H locs ls hK hP hD hS hl
  subst hnL
  exact lv_istore_n hx hb hd hi hl hn hL (fun ls' hl' => k H locs ls' hK hP hD hS hl')
theorem K_astore_n (hE : KOk E cc own n nm Rm) {f : Fin 4} {i : Nat} {x : Nat} (hd : jd cc pc (.astore_n f) 1 pc') (hn : i < n) (hi : (f : Nat) = i) (hL : (i, Value.ref x) :: L.filter (fun q => !(q.1 == i) && !(q.1 + 1 == i && q.2.category == 2)) = L') (k : KJ E ws tys cn sn pc' L' st) : KJ E ws tys cn sn pc L (.ref x :: st) := by
  obtain ⟨p, l, e, R, s, m, args, below, meth, c, nL, A, Q, D, K, Z⟩ := E
  obtain ⟨hx, hb, ⟨hml, hnL⟩, hown, hts, hin, hA, hSt, hAO1, hAO2⟩ := hE
  obtain ⟨hd, rfl⟩ := hd
  intro H locs ls hK hP hD hS hl
  subst hnL
  exact lv_astore_n hx hb hd hi hl hn hL (fun ls' hl' => k H locs ls' hK hP hD hS hl')
theorem K_iinc (hE : KOk E cc own n nm Rm) {i j : Nat} {z : Int} {x v : Int32} (hd : jd cc pc (.iinc i z) 3 pc') (hk : L[j]? = some (i, .int x)) (hv : x + Int32.ofInt z = v) (hn : i < n) (hL : (i, Value.int v) :: L.filter (fun q => !(q.1 == i) && !(q.1 + 1 == i && q.2.category == 2)) = L') (k : KJ E ws tys cn sn pc' L' st) : KJ E ws tys cn sn pc L st := by
  obtain ⟨p, l, e, R, s, m, args, below, meth, c, nL, A, Q, D, K, Z⟩ := E
  obtain ⟨hx, hb, ⟨hml, hnL⟩, hown, hts, hin, hA, hSt, hAO1, hAO2⟩ := hE
  obtain ⟨hd, rfl⟩ := hd
  intro H locs ls hK hP hD hS hl
  subst hnL
  exact lv_iinc hx hb hd hl hk hv hn hL (fun ls' hl' => k H locs ls' hK hP hD hS hl')
theorem K_goto (hE : KOk E cc own n nm Rm) {z : Int} {tgt : Nat} (hd : jd cc pc (.goto z) 3 pc') (ht : (pc : Int) + z = (tgt : Int)) (k : KJ E ws tys cn sn tgt L st) : KJ E ws tys cn sn pc L st := by
  obtain ⟨p, l, e, R, s, m, args, below, meth, c, nL, A, Q, D, K, Z⟩ := E
  obtain ⟨hx, hb, ⟨hml, hnL⟩, hown, hts, hin, hA, hSt, hAO1, hAO2⟩ := hE
  obtain ⟨hd, rfl⟩ := hd
  intro H locs ls hK hP hD hS hl
  exact lv_goto hx hb hd ht (k H locs ls hK hP hD hS hl)
theorem K_geT (hE : KOk E cc own n nm Rm) {x y : Int32} {z : Int} {tgt : Nat} (hd : jd cc pc (.if_icmp .ge z) 3 pc') (ht : (pc : Int) + z = (tgt : Int)) (hc : y ≤ x) (k : KJ E ws tys cn sn tgt L st) : KJ E ws tys cn sn pc L (.int y :: .int x :: st) := by
  obtain ⟨p, l, e, R, s, m, args, below, meth, c, nL, A, Q, D, K, Z⟩ := E
  obtain ⟨hx, hb, ⟨hml, hnL⟩, hown, hts, hin, hA, hSt, hAO1, hAO2⟩ := hE
  obtain ⟨hd, rfl⟩ := hd
  intro H locs ls hK hP hD hS hl
  exact lv_icmp_ge hx hb hd ht (fun _ => k H locs ls hK hP hD hS hl) (fun q => absurd hc q)
theorem K_geF (hE : KOk E cc own n nm Rm) {x y : Int32} {z : Int} {tgt : Nat} (hd : jd cc pc (.if_icmp .ge z) 3 pc') (ht : (pc : Int) + z = (tgt : Int)) (hc : ¬ y ≤ x) (k : KJ E ws tys cn sn pc' L st) : KJ E ws tys cn sn pc L (.int y :: .int x :: st) := by
  obtain ⟨p, l, e, R, s, m, args, below, meth, c, nL, A, Q, D, K, Z⟩ := E
  obtain ⟨hx, hb, ⟨hml, hnL⟩, hown, hts, hin, hA, hSt, hAO1, hAO2⟩ := hE
  obtain ⟨hd, rfl⟩ := hd
  intro H locs ls hK hP hD hS hl
  exact lv_icmp_ge hx hb hd ht (fun q => absurd q hc) (fun _ => k H locs ls hK hP hD hS hl)
theorem K_obj (hE : KOk E cc own n nm Rm) {ix a : Nat} (hd : jd cc pc (.invokespecial ix) 3 pc') (hw : Cond.methodLink own ix Lib.objectInit ∈ jj_tb) (h1 : 1 ≤ Rm.frames) (h2 : (st.map fun v => v.category).sum + 12 ≤ Rm.locals) (k : KJ E ws tys cn sn pc' L st) : KJ E ws tys cn sn pc L (.ref a :: st) := by
  obtain ⟨p, l, e, R, s, m, args, below, meth, c, nL, A, Q, D, K, Z⟩ := E
  obtain ⟨hx, hb, ⟨hml, hnL⟩, hown, hts, hin, hA, hSt, hAO1, hAO2⟩ := hE
  obtain ⟨hd, rfl⟩ := hd
  intro H locs ls hK hP hD hS hl
  obtain ⟨-, rfl⟩ := hin
  exact W.objInit hx hb hown (hts _ hw) (hts _ jw_objI) (hts _ jw_objC) (g := F0 m pc ls (.ref a :: st)) rfl (by show ls.size = _; rw [hml, ← hnL]; exact hl.1) rfl hd h1 (by show 2 * 0 + _ + 12 ≤ _; omega) (k H locs ls hK hP hD hS hl)
theorem K_get (hE : KOk E cc own n nm Rm) {a : Nat} {C : String} {T : u_T} {N ix ci : Nat} {ty : Nat → FieldType} {fs : List Value} {v : Value} (q0 : Nat) (ho : ws[q0]? = some (a, .inr (ci, fs))) (hci : vwCl[ci]? = some (C, T, N)) (hc : jcl (C, T, N) ty) (k : Nat) (hk : k < N) (hl : Cond.fieldLink own ix (T k).1 (T k).2.1 (T k).2.2.1 ∈ jj_tb) (hv : fs[k]? = some v) (hd : jd cc pc (.getfield ix) 3 pc') (kk : KJ E ws tys cn sn pc' L (v :: st)) : KJ E ws tys cn sn pc L (.ref a :: st) := by
  obtain ⟨p, l, e, R, s, m, args, below, meth, c, nL, A, Q, D, K, Z⟩ := E
  obtain ⟨hx, hb, ⟨hml, hnL⟩, hown, hts, hin, hA, hSt, hAO1, hAO2⟩ := hE
  obtain ⟨hd, rfl⟩ := hd
  intro H locs ls hK hP hD hS hl2
  exact va_get hx hb hts hc.1 hown hK hP q0 ho hci k hk (hts _ hl) (fun _ h => h) hv hd (kk H locs ls hK hP hD hS hl2)
theorem K_putF (hE : KOk E cc own n nm Rm) {a : Nat} {C : String} {T : u_T} {N ix ci : Nat} {ty : Nat → FieldType} {fs : List Value} {v : Value} (hinit : nm = "<init>") (q0 : Nat) (ho : ws[q0]? = some (a, .inr (ci, fs))) (hci : vwCl[ci]? = some (C, T, N)) (hc : jcl (C, T, N) ty) (k : Nat) (hk : k < N) (hl : Cond.fieldLink own ix (T k).1 (T k).2.1 (T k).2.2.1 ∈ jj_tb) (hfin : (T k).2.2.2 = true) (howner : (T k).1 = own) (hn : narrow (ty k) v = v) (hfit : fits (ty k) v = true) (hlen : k < fs.length) (hd : jd cc pc (.putfield ix) 3 pc') (hws : ws.set q0 (a, .inr (ci, fs.set k v)) = ws') (kk : KJ E ws' tys cn sn pc' L st) : KJ E ws tys cn sn pc L (v :: .ref a :: st) := by
  obtain ⟨p, l, e, R, s, m, args, below, meth, c, nL, A, Q, D, K, Z⟩ := E
  obtain ⟨hx, hb, ⟨hml, hnL⟩, hown, hts, hin, hA, hSt, hAO1, hAO2⟩ := hE
  obtain ⟨hd, rfl⟩ := hd
  intro H locs ls hK hP hD hS hl2
  refine va_putF hx hb hts hc.1 ty hc.2.1 hc.2.2 hown hK hP hD hS q0 ho hci k hk (hts _ hl) (fun _ h => h) hfin (hin.1.trans hinit) howner (hc.2.1 k hk) hn hfit hlen hd (fun H1 locs1 hP1 hD1 hS1 => ?_)
  rw [hws] at hP1 hD1
  exact kk H1 locs1 ls hK hP1 hD1 hS1 hl2
theorem K_put (hE : KOk E cc own n nm Rm) {a : Nat} {C : String} {T : u_T} {N ix ci : Nat} {ty : Nat → FieldType} {fs : List Value} {v : Value} (q0 : Nat) (ho : ws[q0]? = some (a, .inr (ci, fs))) (hci : vwCl[ci]? = some (C, T, N)) (hc : jcl (C, T, N) ty) (k : Nat) (hk : k < N) (hl : Cond.fieldLink own ix (T k).1 (T k).2.1 (T k).2.2.1 ∈ jj_tb) (hfin : (T k).2.2.2 = false) (hn : narrow (ty k) v = v) (hfit : fits (ty k) v = true) (hlen : k < fs.length) (hd : jd cc pc (.putfield ix) 3 pc') (hws : ws.set q0 (a, .inr (ci, fs.set k v)) = ws') (kk : KJ E ws' tys cn sn pc' L st) : KJ E ws tys cn sn pc L (v :: .ref a :: st) := by
  obtain ⟨p, l, e, R, s, m, args, below, meth, c, nL, A, Q, D, K, Z⟩ := E
  obtain ⟨hx, hb, ⟨hml, hnL⟩, hown, hts, hin, hA, hSt, hAO1, hAO2⟩ := hE
  obtain ⟨hd, rfl⟩ := hd
  intro H locs ls hK hP hD hS hl2
  refine va_put hx hb hts hc.1 ty hc.2.1 hc.2.2 hown hK hP hD hS q0 ho hci k hk (hts _ hl) (fun _ h => h) hfin (hc.2.1 k hk) hn hfit hlen hd (fun H1 locs1 hP1 hD1 hS1 => ?_)
  rw [hws] at hP1 hD1
  exact kk H1 locs1 ls hK hP1 hD1 hS1 hl2
theorem K_newa (hE : KOk E cc own n nm Rm) {at0 : ArrayType} {ty : FieldType} {N : Nat} {z : Int32} (hd : jd cc pc (.newarray at0) 2 pc') (hty : newarray.typeOf at0 = ty) (hw : Cond.arrayClass (newarray.typeOf at0) ∈ jj_tb) (hv : ∀ cA : ClassId, vp_cell cA (N, .inl (fun _ => 0)) = arrV cA N (fun _ => defaultValue ty)) (hz0 : ¬ z < 0) (hz : z.toNatClampNeg = N) (hbig : N * componentBytes ty ≤ 536870912) (hc : cn + 1 ≤ Rm.cells) (hs : sn + N ≤ Rm.slots) (kk : ∀ (q : Nat) (cA : ClassId), KJ E (ws ++ [(q, .inl (cA, N, .inl (fun _ => 0)))]) (tys ++ [(cA, ty)]) (cn + 1) (sn + N) pc' L (.ref q :: st)) : KJ E ws tys cn sn pc L (.int z :: st) := by
  obtain ⟨p, l, e, R, s, m, args, below, meth, c, nL, A, Q, D, K, Z⟩ := E
  obtain ⟨hx, hb, ⟨hml, hnL⟩, hown, hts, hin, hA, hSt, hAO1, hAO2⟩ := hE
  obtain ⟨hd, rfl⟩ := hd
  intro H locs ls hK hP hD hS hl
  obtain ⟨-, rfl⟩ := hin
  exact va_newa hx hb (atype := at0) (hts _ hw) hty hK hP hD hS hA (a0 := (N, .inl (fun _ => 0))) hv hz0 hz hbig hc hs hd (fun q cA H1 hK1 hP1 hD1 hS1 => kk q cA H1 locs ls hK1 hP1 hD1 hS1 hl)
theorem K_newq (hE : KOk E cc own n nm Rm) {C : String} {ix N : Nat} {z : Int32} (hd : jd cc pc (.anewarray ix) 3 pc') (hw : Cond.classLink own ix C ∈ jj_tb) (hC : C = "MothCustoms$Shed" ∨ C = "MothCustoms$Sheet") (hz0 : ¬ z < 0) (hz : z.toNatClampNeg = N) (hbig : N * 4 ≤ 536870912) (hc : cn + 1 ≤ Rm.cells) (hs : sn + N ≤ Rm.slots) (kk : ∀ (q : Nat) (cA : ClassId), KJ E (ws ++ [(q, .inl (cA, N, .inr (.inr (.inr (.inr (fun _ => none))))))]) (tys ++ [(cA, .object C)]) (cn + 1) (sn + N) pc' L (.ref q :: st)) : KJ E ws tys cn sn pc L (.int z :: st) := by
  obtain ⟨p, l, e, R, s, m, args, below, meth, c, nL, A, Q, D, K, Z⟩ := E
  obtain ⟨hx, hb, ⟨hml, hnL⟩, hown, hts, hin, hA, hSt, hAO1, hAO2⟩ := hE
  obtain ⟨hd, rfl⟩ := hd
  intro H locs ls hK hP hD hS hl
  obtain ⟨-, rfl⟩ := hin
  exact va_newq hx hb hown (hts _ hw) (by rcases hC with rfl | rfl; exact hAO1; exact hAO2) hK hP hD hS hA hz0 hz hbig hc hs hd (fun q cA H1 hK1 hP1 hD1 hS1 => kk q cA H1 locs ls hK1 hP1 hD1 hS1 hl)
theorem K_new (hE : KOk E cc own n nm Rm) {C : String} {T : u_T} {N ix ci : Nat} {ty : Nat → FieldType} {fs : List Value} (hd : jd cc pc (.new ix) 3 pc') (hci : vwCl[ci]? = some (C, T, N)) (hcl : jcl (C, T, N) ty) (hw : Cond.classLink own ix C ∈ jj_tb) (hw2 : Cond.instantiable C N ∈ jj_tb) (hw3 : Cond.initialized C ∈ jj_tb) (hfs : ∀ j, j < N → defaultValue (ty j) = vp_V fs j) (hc : cn + 1 ≤ Rm.cells) (hs : sn + N ≤ Rm.slots) (kk : ∀ q : Nat, KJ E (ws ++ [(q, .inr (ci, fs))]) tys (cn + 1) (sn + N) pc' L (.ref q :: st)) : KJ E ws tys cn sn pc L st := by
  obtain ⟨p, l, e, R, s, m, args, below, meth, c, nL, A, Q, D, K, Z⟩ := E
  obtain ⟨hx, hb, ⟨hml, hnL⟩, hown, hts, hin, hA, hSt, hAO1, hAO2⟩ := hE
  obtain ⟨hd, rfl⟩ := hd
  intro H locs ls hK hP hD hS hl
  obtain ⟨-, rfl⟩ := hin
  exact va_new hx hb hts hcl.1 ty hcl.2.1 hown (hts _ hw) (hts _ hw2) (hts _ hw3) hK hP hD hS hA hci hfs hc hs hd (fun q H1 hP1 hD1 hS1 => kk q H1 locs ls hK hP1 hD1 hS1 hl)
theorem K_astq (hE : KOk E cc own n nm Rm) {a N v ci : Nat} {i : Int32} {cA : ClassId} {r : vw_C} {vs : List Value} {f : Nat → Option Nat} (hd : jd cc pc .aastore 1 pc') (q0 t0 qk : Nat) (ha : ws[q0]? = some (a, .inl (cA, N, .inr (.inr (.inr (.inr f)))))) (ht : tys[t0]? = some (cA, .object r.1)) (hv : ws[qk]? = some (v, .inr (ci, vs))) (hc : vwCl[ci]? = some r) (hin : vp_in i N) (hws : ws.set q0 (a, .inl (cA, N, .inr (.inr (.inr (.inr (va_up f i.toNatClampNeg (some v))))))) = ws') (kk : KJ E ws' tys cn sn pc' L st) : KJ E ws tys cn sn pc L (.ref v :: .int i :: .ref a :: st) := by
  obtain ⟨p, l, e, R, s, m, args, below, meth, c, nL, A, Q, D, K, Z⟩ := E
  obtain ⟨hx, hb, ⟨hml, hnL⟩, hown, hts, hin0, hA, hSt, hAO1, hAO2⟩ := hE
  obtain ⟨hd, rfl⟩ := hd
  intro H locs ls hK hP hD hS hl
  refine va_astq hx hb hK hP hD hS q0 t0 qk ci ha ht hv hc hin hd (fun H1 locs1 hP1 hD1 hS1 => ?_)
  rw [hws] at hP1 hD1
  exact kk H1 locs1 ls hK hP1 hD1 hS1 hl
/-- what a callee leaves stands behind what was there -/
theorem K_join {A0 : Nat → Prop} {D : va_G} {cl : List vw_C} {wc w1 : va_W} {H H1 : Heap} (hP : va_P D cl (ws ++ wc) H) (hD : va_D A0 (ws ++ wc)) (hk : ∀ q : Nat, q < H.size → ¬ va_A wc H.size q → H1[q]? = H[q]?) (hF : ∀ q, va_A wc H.size q → A0 q) (hP1 : va_P D cl w1 H1) (hD1 : va_D (va_A wc H.size) w1) : va_P D cl (ws ++ w1) H1 ∧ va_D A0 (ws ++ w1) := by
  have hl : ∀ (k : Nat) (q : Nat × va_E), ws[k]? = some q → (ws ++ wc)[k]? = some q := fun k q h => by rw [List.getElem?_append_left (List.getElem?_eq_some_iff.mp h).1]; exact h
  have hr : ∀ (k : Nat) (q : Nat × va_E), wc[k]? = some q → (ws ++ wc)[ws.length + k]? = some q := fun k q h => by rw [List.getElem?_append_right (by omega), Nat.add_sub_cancel_left]; exact h
  have apart : ∀ (k : Nat) (q : Nat × va_E), ws[k]? = some q → q.1 < H.size ∧ ¬ va_A wc H.size q.1 := by
    intro k q hq
    have h1 := (hP k q (hl k q hq)).lt
    refine ⟨h1, fun h => ?_⟩
    rcases h with ⟨k2, e, h⟩ | h
    · have h3 := hD.1 k (ws.length + k2) q (q.1, e) (hl k q hq) (hr k2 _ h) rfl
      have h4 := (List.getElem?_eq_some_iff.mp hq).1
      omega
    · omega
  refine ⟨va_P.app (fun k q hq => ?_) hP1, va_D.app ⟨fun i j x y hx hy hxy => hD.1 i j x y (hl i x hx) (hl j y hy) hxy, fun k q hq => hD.2 k q (hl k q hq)⟩ (hD1.weaken (fun k q _ h => hF q.1 h)) (fun i j x y hx hy hxy => ?_)⟩
  · obtain ⟨g1, g2⟩ := apart k q hq
    exact (hP k q (hl k q hq)).kept (hk q.1 g1 g2)
  · exact (apart i x hx).2 (by rw [hxy]; exact hD1.2 j y hy)
/-- a constructor's words -/
def jmI (y : MethodName) (cc : ByteArray) (n : Nat) : Prop := jmS y cc n none 0 ∧ Cond.instanceMethod y ∈ jj_tb ∧ y.name = "<init>"
theorem K_pre {l : Launch} {s : State} {A : Nat → Prop} {H : Heap} {locs : List Loc} {D : va_G} {K Z : Nat → Nat} {q ci : Nat} {fs0 : List Value} (hK : va_K D vwCl tys s) (hSt : jj_St K Z A s s.heap) (h1 : va_AO "MothCustoms$Shed" s) (h2 : va_AO "MothCustoms$Sheet" s) (hA : ∀ q : Nat, s.heap.size ≤ q → A q) (hP : va_P D vwCl (ws ++ [(q, .inr (ci, fs0))]) H) (hD : va_D A (ws ++ [(q, .inr (ci, fs0))])) (hS : va_S A s.heap H locs) :
    (∀ x, va_A [(q, .inr (ci, fs0))] H.size x → A x) ∧ PreS s H (va_Pc [.ref q] (fun U => U.heap.size = H.size ∧ va_P D vwCl [(q, .inr (ci, fs0))] U.heap ∧ va_K D vwCl [] U ∧ va_D (fun _ => True) [(q, .inr (ci, fs0))] ∧ jj_St K Z (va_A [(q, .inr (ci, fs0))] H.size) U U.heap ∧ va_AO "MothCustoms$Shed" U ∧ va_AO "MothCustoms$Sheet" U)) [.ref q] := by
  have hl : ∀ (k : Nat) (x : Nat × va_E), [(q, (Sum.inr (ci, fs0) : va_E))][k]? = some x → (ws ++ [(q, .inr (ci, fs0))])[ws.length + k]? = some x := fun k x h => by rw [List.getElem?_append_right (by omega), Nat.add_sub_cancel_left]; exact h
  have hAA : ∀ x, va_A [(q, .inr (ci, fs0))] H.size x → A x := fun x h => by
    rcases h with ⟨k, e, h⟩ | h
    · exact hD.2 _ _ (hl k _ h)
    · exact hA x (Nat.le_trans hS.1 h)
  have hD1 : va_D A [(q, .inr (ci, fs0))] := ⟨fun i j x y hx hy hxy => by have := hD.1 _ _ x y (hl i x hx) (hl j y hy) hxy; omega, fun k x h => hD.2 _ x (hl k x h)⟩
  refine ⟨hAA, jj_blind (fun a U g mk z => ?_), fun U hU hW => ⟨rfl, by rw [hU], ?_, va_K.moved hW.alike (hK.sub [] rfl), hD1.weaken (fun _ _ _ _ => trivial), hSt.to hS hAA hW hU, h1.moved hW.alike, h2.moved hW.alike⟩⟩
  · obtain ⟨z1, z2, z3, z4, z5, z6, z7⟩ := z
    exact ⟨z1, z2, va_K.moved (u := U) (U := U.calling g mk a) (Vm.Alike.refl U.vm) z3, z4, z5.calling, z6.moved (Vm.Alike.refl U.vm), z7.moved (Vm.Alike.refl U.vm)⟩
  · rw [hU]
    exact fun k x h => hP _ x (hl k x h)
theorem K_back {β : Type} {p : Program} {l : Launch} {e : Env} {R : Room} {s : State} {m : MethodId} {args : Array Value} {below : List Frame} {meth : Method} {c : Code} {H : Heap} {locs : List Loc} {Q : State → Prop} {ls : Array Slot} {rest st0 : List Value} {A A1 : Nat → Prop} {D : va_G} {mc ms q ci : Nat} {fs0 : List Value} {W1 : β → va_W} {T1 : β → List (ClassId × FieldType)} {free : Addr → Prop}
    (hr : va_Run p l e R s m args below meth c H locs cn sn mc ms (F0 m pc ls st0) rest (fun st oc t => (oc = .returned none ∧ ∃ x : β, va_P D vwCl (W1 x) t.heap ∧ va_K D vwCl (T1 x) t ∧ va_D A1 (W1 x)) ∧ va_F A1 st t) free) (hK : va_K D vwCl tys s) (hP : va_P D vwCl (ws ++ [(q, .inr (ci, fs0))]) H) (hD : va_D A (ws ++ [(q, .inr (ci, fs0))])) (hA1 : A1 = va_A [(q, .inr (ci, fs0))] H.size) (hS : va_S A s.heap H locs) (hA : ∀ q, A1 q → A q) (hf : ∀ q, free q → A q)
    (kk : ∀ (x : β) (H1 : Heap) (locs1 : List Loc), va_K D vwCl (tys ++ T1 x) s → va_P D vwCl (ws ++ W1 x) H1 → va_D A (ws ++ W1 x) → va_S A s.heap H1 locs1 → W p l e R s m args below meth c H1 locs1 (cn + mc) (sn + ms) Q (F0 m (pc + 3) ls rest)) : W p l e R s m args below meth c H locs cn sn Q (F0 m pc ls st0) := by
  intro T hT X
  obtain ⟨v, st₀, t, T', Lc, h0, X', hL, e1, e2, ⟨⟨hv, x, hp, hk, hd⟩, hz, hkk⟩, stp⟩ := hr T hT X
  cases hv
  rw [h0] at hz hkk
  subst hA1
  obtain ⟨hP1, hD1⟩ := K_join hP hD (fun y h1 h2 => hkk y h1 h2) hA hp hd
  obtain ⟨t2, a1, b1⟩ := kk x T'.heap (locs ++ Lc) (hK.app (va_K.moved (by rw [← e2]; exact (X'.warmed.alike).symm) hk)) (by rw [e1]; exact hP1) hD1
    ⟨Nat.le_trans hS.1 (by rw [e1]; exact hz), fun q h1 h2 => by rw [e1, hkk q (Nat.lt_of_lt_of_le h1 hS.1) (fun z => h2 (hA q z))]; exact hS.2.1 q h1 h2, fun q hq => by
      rcases List.mem_append.mp hq with h | h
      · exact hS.2.2 q h
      · exact hf _ (hL q h)⟩ T' rfl X'
  exact ⟨t2, stp t2 a1, b1⟩
theorem K_init (hE : KOk E cc own n nm Rm) {β : Type} {y : MethodName} {cc' : ByteArray} {n' d' mc ms ci ix q : Nat} {fs0 : List Value} {W1 : Nat → β → va_W} {T1 : β → List (ClassId × FieldType)} {host : String} (hC : JI E.2.1 y cc' n' d' mc ms ci fs0 W1 T1) (hm : jmI y cc' n') (hlk : Cond.methodLink own ix y ∈ jj_tb ∨ (own, ix, y, host) ∈ jj_nest) (hdd : d' + 1 ≤ Rm.frames ∧ 60 * (d' + 1) ≤ Rm.locals) (hn' : n' ≤ 41) (hcat : (st.map fun v => v.category).sum ≤ 8) (hc : cn + mc ≤ Rm.cells) (hs : sn + ms ≤ Rm.slots) (hd : jd cc pc (.invokespecial ix) 3 pc') (kk : ∀ x : β, KJ E (ws ++ W1 q x) (tys ++ T1 x) (cn + mc) (sn + ms) pc' L st) : KJ E (ws ++ [(q, .inr (ci, fs0))]) tys cn sn pc L (.ref q :: st) := by
  obtain ⟨p, l, e, R, s, m, args, below, meth, c, nL, A, Q, D, K, Z⟩ := E
  obtain ⟨hx, hb, ⟨hml, hnL⟩, hown, hts, hin, hA, hSt, hAO1, hAO2⟩ := hE
  obtain ⟨hd, rfl⟩ := hd
  intro H locs ls hK hP hD hS hl
  obtain ⟨-, rfl⟩ := hin
  obtain ⟨hfr, hpre⟩ := K_pre (l := l) hK hSt hAO1 hAO2 hA hP hD hS
  have hM := hC D K Z q H.size
  have hroom : (jj_Ra d' mc ms).frames + 1 ≤ R.frames ∧ 8 + (n' + 11) + (jj_Ra d' mc ms).locals ≤ R.locals := ⟨hdd.1, by show 8 + (n' + 11) + 60 * d' ≤ R.locals; have := hdd.2; omega⟩
  obtain ⟨hmS, hmI, hmn⟩ := hm
  rcases hlk with hlk | hlk
  · exact K_back (va_runI (nL := nL) (As := []) (rest := st) ⟨hx, hb, by rw [hml, hnL], hown, hts⟩ hM (cwI 0 hts (jj_good0 hmS) rfl rfl rfl (hts _ hmS.2.1) (hts _ hlk) (hts _ hmI) hmn ⟨hmS.2.2.1.1, hmS.2.2.1.2, hmS.2.2.2⟩ hroom) hpre rfl rfl hl.1 rfl (lv_room (pc := pc) (ls := ls) (rest := .ref q :: st) (m := m) hcat) hd ⟨hc, hs⟩) hK hP hD rfl hS hfr hfr (fun x H1 locs1 k1 p1 d1 s1 => kk x H1 locs1 ls k1 p1 d1 s1 hl)
  · exact K_back (va_runIN (nL := nL) (host := host) (As := []) (rest := st) ⟨hx, hb, by rw [hml, hnL], hown, hts⟩ hM ⟨va_cnB 0 hts (jj_good0 hmS) rfl rfl rfl (hSt.2.2.1 _ hlk) (hts _ hmS.2.1) ⟨hmS.2.2.1.1, hmS.2.2.1.2, hmS.2.2.2⟩ hroom, hmn, hts _ hmI⟩ hpre rfl rfl hl.1 rfl (lv_room (pc := pc) (ls := ls) (rest := .ref q :: st) (m := m) hcat) hd ⟨hc, hs⟩) hK hP hD rfl hS hfr hfr (fun x H1 locs1 k1 p1 d1 s1 => kk x H1 locs1 ls k1 p1 d1 s1 hl)
end KR
