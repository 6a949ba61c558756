/-! J: a judgement of my own over the kit's W. 'J V E fin o pc L st X': from pc, with the locals L, the operand stack st and a heap that holds the world of the pure state X: if the pure answer o is (some of) the method's answer, the machine comes to its end with it. Rules take the machine's step and the pure program's head off together. -/
def jj_tb : List Cond := lw_tbl.filter goodWord
theorem jj_m {w : Cond} (h : w ∈ lw_tbl) (g : goodWord w = true) : w ∈ jj_tb := List.mem_filter.mpr ⟨h, g⟩
theorem jj_g1 {ws : List Cond} (h : ∀ w ∈ ws, w ∈ jj_tb) : GoodIn jj_tb ws := fun w q => ⟨h w q, good_of_word (List.mem_filter.mp (h w q)).2⟩
def jj_R (d : Nat) : Room := { frames := d, cells := 0, slots := 0, locals := 60 * d }
def jj_len : List Nat := [4, 5, 5, 7, 3, 7, 4, 4]
def jj_byt : List (List Int32) := [[98, 111, 108, 116], [112, 108, 97, 105, 110], [112, 105, 99, 107, 121], [103, 108, 117, 116, 116, 111, 110], [102, 97, 116], [99, 97, 109, 112, 104, 111, 114], [109, 111, 111, 110], [114, 97, 116, 101]]
def jj_six : List Nat := [111, 117, 119, 121, 123, 125, 126, 127]
def jj_stx : List String := ["bolt", "plain", "picky", "glutton", "fat", "camphor", "moon", "rate"]
/-- private members that a nest mate calls: caller, place, method, host -/
def jj_nest : List (String × Nat × MethodName × String) := [("MothCustoms", 11, ⟨"MothCustoms$Tape", "<init>", "()V"⟩, "MothCustoms"), ("MothCustoms", 18, ⟨"MothCustoms$Shed", "<init>", "()V"⟩, "MothCustoms"), ("MothCustoms", 36, ⟨"MothCustoms$Sheet", "<init>", "()V"⟩, "MothCustoms"), ("MothCustoms", 39, ⟨"MothCustoms$Search", "<init>", "()V"⟩, "MothCustoms"), ("MothCustoms$Search", 11, ⟨"MothCustoms$Shed", "<init>", "()V"⟩, "MothCustoms"), ("MothCustoms$Tape", 93, ⟨"MothCustoms", "mostOfTrait", "(I)I"⟩, "MothCustoms"), ("MothCustoms$Tape", 85, ⟨"MothCustoms", "within", "(III)Z"⟩, "MothCustoms"), ("MothCustoms$Shed", 80, ⟨"MothCustoms", "within", "(III)Z"⟩, "MothCustoms"), ("MothCustoms$Sheet", 26, ⟨"MothCustoms", "within", "(III)Z"⟩, "MothCustoms")]
/-- the String constants of the claim: cells K i, their bytes at Z i, none of them in A -/
def jj_St (K Z : Nat → Nat) (A : Nat → Prop) (U : State) (H : Heap) : Prop := vk_S 8 jj_len jj_byt K Z A U H ∧ (∀ i : Nat, i < 8 → vk_R RX3 (jj_six.getD i 0) (jj_stx.getD i "") (K i) U) ∧ (∀ q ∈ jj_nest, va_Nw (.methodLinkNest q.1 q.2.1 q.2.2.1 q.2.2.2) U) ∧ va_Z "java/lang/String" "COMPACT_STRINGS" "Z" (.int 1) A U H ∧ va_Zq "jdk/internal/util/Preconditions" "SIOOBE_FORMATTER" "Ljava/util/function/BiFunction;" A U H
/-- several ways to one place: the rest of the program by what differs -/
def jn {α β : Type} (body : (β → α) → α) (k : β → α) : α := body k
def lt {α β : Type} (e : α) (f : α → β) : β := f e
abbrev JV (σ : Type) : Type := va_G × List vw_C × List (ClassId × FieldType) × (σ → va_W) × (Nat → Nat) × (Nat → Nat)
abbrev JE (σ ρ : Type) : Type := Program × Launch × Env × Room × State × MethodId × Array Value × List Frame × Method × Code × Nat × (Nat → Prop) × Nat × Nat × (State → Prop) × (ρ × σ)
def J {σ ρ α : Type} (V : JV σ) (E : JE σ ρ) (fin : α → ρ × σ) (o : Option α) (pc : Nat) (L : List (Nat × Value)) (st : List Value) (X : σ) : Prop :=
  match E with
  | (p, l, e, R, s, m, args, below, meth, c, nL, A, cn, sn, Q, res) => o.map fin = some res → ∀ (H : Heap) (locs : List Loc) (ls : Array Slot), va_P V.1 V.2.1 (V.2.2.2.1 X) H → va_D A (V.2.2.2.1 X) → va_S A s.heap H locs → lv_has ls nL L → W p l e R s m args below meth c H locs cn sn Q (F0 m pc ls st)
/-- how an answer is left: the instruction, by the answer's kind -/
def jj_ret (ret : Option FieldType) (v : Option Value) (i : Instr) : Prop := (ret = none ∧ v = none ∧ i = .return_) ∨ (∃ x : Int64, ret = some .long ∧ v = some (.long x) ∧ i = .lreturn) ∨ (∃ (ty : FieldType) (x : Int32), ret = some ty ∧ v = some (.int x) ∧ narrow ty (.int x) = .int x ∧ i = .ireturn)
def JOk {σ ρ : Type} (V : JV σ) (E : JE σ ρ) (cc : ByteArray) (own : String) (n d : Nat) (ret : Option FieldType) (enc : ρ → Option Value) : Prop :=
  match E with
  | (p, l, e, R, s, m, args, below, meth, c, nL, A, cn, sn, Q, res) => p.tables.exec = Jvm.exec ∧ c.code = cc ∧ (c.maxLocals = n ∧ nL = n) ∧ s.vm.findClass own = some m.cls ∧ (∀ w ∈ jj_tb, w.before args s = true) ∧ (d ≤ R.frames ∧ 60 * d ≤ R.locals ∧ cn ≤ R.cells ∧ sn ≤ R.slots) ∧ va_K V.1 V.2.1 V.2.2.1 s ∧ (∀ q : Nat, s.heap.size ≤ q → A q) ∧ jj_St V.2.2.2.2.1 V.2.2.2.2.2 A s s.heap ∧
    (∀ (i : Instr) (H : Heap) (locs : List Loc) (ls : Array Slot) (pc : Nat), va_P V.1 V.2.1 (V.2.2.2.1 res.2) H → va_D A (V.2.2.2.1 res.2) → va_S A s.heap H locs → jj_ret ret (enc res.1) i → decode cc pc = .ok (i, 1) → W p l e R s m args below meth c H locs cn sn Q (F0 m pc ls (enc res.1).toList))
/-- an instruction at its place, and the place behind it -/
def jd (cc : ByteArray) (pc : Nat) (i : Instr) (len pc' : Nat) : Prop := decode cc pc = .ok (i, len) ∧ pc + len = pc'
/-- a method's contract at one pure state: if the pure answer is there, the machine gives it -/
def JC {σ ρ : Type} (l : Launch) (V : JV σ) (y : MethodName) (cc : ByteArray) (n : Nat) (ret : Option FieldType) (enc : ρ → Option Value) (d : Nat) (av : List Value) (X : σ) (o : Option (ρ × σ)) : Prop :=
  ∀ res : ρ × σ, o = some res → ∀ sz : Nat, Met l y (.code y cc n ret :: jj_tb) (jj_R d)
    (va_Pc av (fun U => U.heap.size = sz ∧ va_P V.1 V.2.1 (V.2.2.2.1 X) U.heap ∧ va_K V.1 V.2.1 V.2.2.1 U ∧ va_D (fun _ => True) (V.2.2.2.1 X) ∧ jj_St V.2.2.2.2.1 V.2.2.2.2.2 (va_A (V.2.2.2.1 X) sz) U U.heap))
    (fun _ st oc t => (oc = .returned (enc res.1) ∧ va_P V.1 V.2.1 (V.2.2.2.1 res.2) t.heap ∧ va_K V.1 V.2.1 V.2.2.1 t ∧ va_D (va_A (V.2.2.2.1 X) sz) (V.2.2.2.1 res.2)) ∧ va_F (va_A (V.2.2.2.1 X) sz) st t)
    0 0 (va_A (V.2.2.2.1 X) sz)
theorem jj_of {σ ρ : Type} {l : Launch} {V : JV σ} {y : MethodName} {cc : ByteArray} {n : Nat} {ret : Option FieldType} {enc : ρ → Option Value} {d : Nat} {av : List Value} {X : σ} {α : Type} {fin : α → ρ × σ} {o : Option α} (hy : plainName y.cls = true) (hn : (lg_sl av).length ≤ n) (body : ∀ E : JE σ ρ, E.2.1 = l → JOk V E cc y.cls n d ret enc → J V E fin o 0 (lv_args 0 av) [] X) : JC l V y cc n ret enc d av X (o.map fin) := by
  intro res ho sz
  refine Met.ofW (cc := cc) (maxL := n) (ret := ret) hy rfl ?_
  intro p e s m args below meth c s₁ B hml hv
  obtain ⟨rfl, hsz, hP, hK, hD0, hSt⟩ := hv
  subst hsz
  have hts := atoms_spec (ws := .code y cc n ret :: jj_tb) B.pre
  have hD := hD0.self (sz := s.heap.size)
  have hl := lv_entry av hn
  rw [lg_entry_eq]
  have hlocks := B.notSynchronized
  refine body (p, l, e, jj_R d, s, m, av.toArray, below, meth, c, n, va_A (V.2.2.2.1 X) s.heap.size, 0, 0, _, res) rfl ⟨B.exec, B.bytes, ⟨hml, rfl⟩, findClass_of_methodNamed B.named, fun w hw => hts w (List.mem_cons_of_mem _ hw), ⟨Nat.le_refl _, Nat.le_refl _, Nat.le_refl _, Nat.le_refl _⟩, hK, fun q h => Or.inr h, hSt, ?_⟩ ho _ _ _ hP hD va_S.rf hl
  intro i H locs ls pc hP hD hS hi hdg
  have hx := B.exec
  have hb := B.bytes
  have hr := B.returns
  rcases hi with ⟨e1, e2, e3⟩ | ⟨x, e1, e2, e3⟩ | ⟨ty, x, e1, e2, e4, e3⟩
  · rw [e2]
    rw [e1] at hr
    rw [e3] at hdg
    exact W.vret hx hb hr (fun t ht hW => ⟨⟨rfl, by rw [ht]; exact hP, va_K.moved hW.alike hK, hD⟩, hS.F ht⟩) hS.2.2 hdg hlocks
  · rw [e2]
    rw [e1] at hr
    rw [e3] at hdg
    exact W.lret hx hb hr (fun t ht hW => ⟨⟨rfl, by rw [ht]; exact hP, va_K.moved hW.alike hK, hD⟩, hS.F ht⟩) hS.2.2 hdg hlocks
  · rw [e2]
    rw [e1] at hr
    rw [e3] at hdg
    exact W.zret hx hb hr e4 (fun t ht hW => ⟨⟨rfl, by rw [ht]; exact hP, va_K.moved hW.alike hK, hD⟩, hS.F ht⟩) hS.2.2 hdg hlocks
section JR
variable {σ ρ : Type} {V : JV σ} {E : JE σ ρ} {cc : ByteArray} {own : String} {n d : Nat} {ret : Option FieldType} {enc : ρ → Option Value} {α : Type} {fin : α → ρ × σ} {o : Option α} {pc pc' : Nat} {L L' : List (Nat × Value)} {st : List Value} {X : σ}

theorem J_none : J V E fin none pc L st X := by
  obtain ⟨p, l, e, R, s, m, args, below, meth, c, nL, A, cn, sn, Q, res⟩ := E
  intro ho
  exact absurd ho (by simp)
theorem J_eq {o' : Option α} (h : o = o') (k : J V E fin o' pc L st X) : J V E fin o pc L st X := h ▸ k
theorem J_sub (ks : List Nat) (h : lv_pick L ks = L') (k : J V E fin o pc L' st X) : J V E fin o pc L st X := by
  obtain ⟨p, l, e, R, s, m, args, below, meth, c, nL, A, cn, sn, Q, res⟩ := E
  intro ho H locs ls hP hD hS hl
  exact k ho H locs ls hP hD hS (lv_sub hl ks h)
theorem J_iconst (hE : JOk V E cc own n d ret enc) {z : Int} {v : Int32} (hd : jd cc pc (.iconst z) 1 pc') (hv : Int32.ofInt z = v) (k : J V E fin o pc' L (.int v :: st) X) : J V E fin o pc L (st) X := by
  obtain ⟨p, l, e, R, s, m, args, below, meth, c, nL, A, cn, sn, Q, res⟩ := E
  obtain ⟨hx, hb, ⟨hml, hnL⟩, hown, hts, hR, hK, hA, hSt, hq⟩ := hE
  obtain ⟨hd, rfl⟩ := hd
  intro ho H locs ls hP hD hS hl
  exact lv_iconst hx hb hd hv (k ho H locs ls hP hD hS hl)
theorem J_bipush (hE : JOk V E cc own n d ret enc) {z : Int} {v : Int32} (hd : jd cc pc (.bipush z) 2 pc') (hv : (Int8.ofInt z).toInt32 = v) (k : J V E fin o pc' L (.int v :: st) X) : J V E fin o pc L (st) X := by
  obtain ⟨p, l, e, R, s, m, args, below, meth, c, nL, A, cn, sn, Q, res⟩ := E
  obtain ⟨hx, hb, ⟨hml, hnL⟩, hown, hts, hR, hK, hA, hSt, hq⟩ := hE
  obtain ⟨hd, rfl⟩ := hd
  intro ho H locs ls hP hD hS hl
  exact lv_bipush hx hb hd hv (k ho H locs ls hP hD hS hl)
theorem J_sipush (hE : JOk V E cc own n d ret enc) {z : Int} {v : Int32} (hd : jd cc pc (.sipush z) 3 pc') (hv : (Int16.ofInt z).toInt32 = v) (k : J V E fin o pc' L (.int v :: st) X) : J V E fin o pc L (st) X := by
  obtain ⟨p, l, e, R, s, m, args, below, meth, c, nL, A, cn, sn, Q, res⟩ := E
  obtain ⟨hx, hb, ⟨hml, hnL⟩, hown, hts, hR, hK, hA, hSt, hq⟩ := hE
  obtain ⟨hd, rfl⟩ := hd
  intro ho H locs ls hP hD hS hl
  exact lv_sipush hx hb hd hv (k ho H locs ls hP hD hS hl)
theorem J_lconst (hE : JOk V E cc own n d ret enc) {z : Fin 2} {v : Int64} (hd : jd cc pc (.lconst z) 1 pc') (hv : Int64.ofNat (z : Nat) = v) (k : J V E fin o pc' L (.long v :: st) X) : J V E fin o pc L (st) X := by
  obtain ⟨p, l, e, R, s, m, args, below, meth, c, nL, A, cn, sn, Q, res⟩ := E
  obtain ⟨hx, hb, ⟨hml, hnL⟩, hown, hts, hR, hK, hA, hSt, hq⟩ := hE
  obtain ⟨hd, rfl⟩ := hd
  intro ho H locs ls hP hD hS hl
  exact lv_lconst hx hb hd hv (k ho H locs ls hP hD hS hl)
theorem J_ldc (hE : JOk V E cc own n d ret enc) {ix : Nat} {v : Int32} (hd : jd cc pc (.ldc ix) 2 pc') (hw : Cond.constant own ix v ∈ jj_tb) (k : J V E fin o pc' L (.int v :: st) X) : J V E fin o pc L (st) X := by
  obtain ⟨p, l, e, R, s, m, args, below, meth, c, nL, A, cn, sn, Q, res⟩ := E
  obtain ⟨hx, hb, ⟨hml, hnL⟩, hown, hts, hR, hK, hA, hSt, hq⟩ := hE
  obtain ⟨hd, rfl⟩ := hd
  intro ho H locs ls hP hD hS hl
  exact lv_ldc hx hb hown (hts _ hw) hd (k ho H locs ls hP hD hS hl)
theorem J_ldcw (hE : JOk V E cc own n d ret enc) {ix : Nat} {v : Int32} (hd : jd cc pc (.ldc_w ix) 3 pc') (hw : Cond.constant own ix v ∈ jj_tb) (k : J V E fin o pc' L (.int v :: st) X) : J V E fin o pc L (st) X := by
  obtain ⟨p, l, e, R, s, m, args, below, meth, c, nL, A, cn, sn, Q, res⟩ := E
  obtain ⟨hx, hb, ⟨hml, hnL⟩, hown, hts, hR, hK, hA, hSt, hq⟩ := hE
  obtain ⟨hd, rfl⟩ := hd
  intro ho H locs ls hP hD hS hl
  exact lv_ldcw hx hb hown (hts _ hw) hd (k ho H locs ls hP hD hS hl)
theorem J_ldc2 (hE : JOk V E cc own n d ret enc) {ix : Nat} {v : Int64} (hd : jd cc pc (.ldc2_w ix) 3 pc') (hw : Cond.constantLong own ix v ∈ jj_tb) (k : J V E fin o pc' L (.long v :: st) X) : J V E fin o pc L (st) X := by
  obtain ⟨p, l, e, R, s, m, args, below, meth, c, nL, A, cn, sn, Q, res⟩ := E
  obtain ⟨hx, hb, ⟨hml, hnL⟩, hown, hts, hR, hK, hA, hSt, hq⟩ := hE
  obtain ⟨hd, rfl⟩ := hd
  intro ho H locs ls hP hD hS hl
  exact lv_ldc2 hx hb hown (hts _ hw) hd (k ho H locs ls hP hD hS hl)
theorem J_iload_n (hE : JOk V E cc own n d ret enc) {f : Fin 4} {i : Nat} {x : Int32} (hd : jd cc pc (.iload_n f) 1 pc') (j : Nat) (hi : (f : Nat) = i) (hk : L[j]? = some (i, .int x)) (k : J V E fin o pc' L (.int x :: st) X) : J V E fin o pc L (st) X := by
  obtain ⟨p, l, e, R, s, m, args, below, meth, c, nL, A, cn, sn, Q, res⟩ := E
  obtain ⟨hx, hb, ⟨hml, hnL⟩, hown, hts, hR, hK, hA, hSt, hq⟩ := hE
  obtain ⟨hd, rfl⟩ := hd
  intro ho H locs ls hP hD hS hl
  exact lv_iload_n hx hb hd hi (lv_at hl j hk) (k ho H locs ls hP hD hS hl)
theorem J_iload (hE : JOk V E cc own n d ret enc) {i : Nat} {x : Int32} (hd : jd cc pc (.iload i) 2 pc') (j : Nat) (hk : L[j]? = some (i, .int x)) (k : J V E fin o pc' L (.int x :: st) X) : J V E fin o pc L (st) X := by
  obtain ⟨p, l, e, R, s, m, args, below, meth, c, nL, A, cn, sn, Q, res⟩ := E
  obtain ⟨hx, hb, ⟨hml, hnL⟩, hown, hts, hR, hK, hA, hSt, hq⟩ := hE
  obtain ⟨hd, rfl⟩ := hd
  intro ho H locs ls hP hD hS hl
  exact lv_iload hx hb hd (lv_at hl j hk) (k ho H locs ls hP hD hS hl)
theorem J_istore_n (hE : JOk V E cc own n d ret enc) {f : Fin 4} {i : Nat} {x : Int32} (hd : jd cc pc (.istore_n f) 1 pc') (hn : i < n) (hi : (f : Nat) = i) (hL : (i, Value.int x) :: L.filter (fun q => !(q.1 == i) && !(q.1 + 1 == i && q.2.category == 2)) = L') (k : J V E fin o pc' L' st X) : J V E fin o pc L (.int x :: st) X := by
  obtain ⟨p, l, e, R, s, m, args, below, meth, c, nL, A, cn, sn, Q, res⟩ := E
  obtain ⟨hx, hb, ⟨hml, hnL⟩, hown, hts, hR, hK, hA, hSt, hq⟩ := hE
  obtain ⟨hd, rfl⟩ := hd
  subst hnL
  intro ho H locs ls hP hD hS hl
  exact lv_istore_n hx hb hd hi hl hn hL (fun ls' hl' => k ho H locs ls' hP hD hS hl')
theorem J_istore (hE : JOk V E cc own n d ret enc) {i : Nat} {x : Int32} (hd : jd cc pc (.istore i) 2 pc') (hn : i < n) (hL : (i, Value.int x) :: L.filter (fun q => !(q.1 == i) && !(q.1 + 1 == i && q.2.category == 2)) = L') (k : J V E fin o pc' L' st X) : J V E fin o pc L (.int x :: st) X := by
  obtain ⟨p, l, e, R, s, m, args, below, meth, c, nL, A, cn, sn, Q, res⟩ := E
  obtain ⟨hx, hb, ⟨hml, hnL⟩, hown, hts, hR, hK, hA, hSt, hq⟩ := hE
  obtain ⟨hd, rfl⟩ := hd
  subst hnL
  intro ho H locs ls hP hD hS hl
  exact lv_istore hx hb hd hl hn hL (fun ls' hl' => k ho H locs ls' hP hD hS hl')
theorem J_lload_n (hE : JOk V E cc own n d ret enc) {f : Fin 4} {i : Nat} {x : Int64} (hd : jd cc pc (.lload_n f) 1 pc') (j : Nat) (hi : (f : Nat) = i) (hk : L[j]? = some (i, .long x)) (k : J V E fin o pc' L (.long x :: st) X) : J V E fin o pc L (st) X := by
  obtain ⟨p, l, e, R, s, m, args, below, meth, c, nL, A, cn, sn, Q, res⟩ := E
  obtain ⟨hx, hb, ⟨hml, hnL⟩, hown, hts, hR, hK, hA, hSt, hq⟩ := hE
  obtain ⟨hd, rfl⟩ := hd
  intro ho H locs ls hP hD hS hl
  exact lv_lload_n hx hb hd hi (lv_at hl j hk) (k ho H locs ls hP hD hS hl)
theorem J_lload (hE : JOk V E cc own n d ret enc) {i : Nat} {x : Int64} (hd : jd cc pc (.lload i) 2 pc') (j : Nat) (hk : L[j]? = some (i, .long x)) (k : J V E fin o pc' L (.long x :: st) X) : J V E fin o pc L (st) X := by
  obtain ⟨p, l, e, R, s, m, args, below, meth, c, nL, A, cn, sn, Q, res⟩ := E
  obtain ⟨hx, hb, ⟨hml, hnL⟩, hown, hts, hR, hK, hA, hSt, hq⟩ := hE
  obtain ⟨hd, rfl⟩ := hd
  intro ho H locs ls hP hD hS hl
  exact lv_lload hx hb hd (lv_at hl j hk) (k ho H locs ls hP hD hS hl)
theorem J_lstore_n (hE : JOk V E cc own n d ret enc) {f : Fin 4} {i : Nat} {x : Int64} (hd : jd cc pc (.lstore_n f) 1 pc') (hn : i + 1 < n) (hi : (f : Nat) = i) (hL : (i, Value.long x) :: L.filter (fun q => !(q.1 == i) && (!(q.1 == i + 1) && !(q.1 + 1 == i && q.2.category == 2))) = L') (k : J V E fin o pc' L' st X) : J V E fin o pc L (.long x :: st) X := by
  obtain ⟨p, l, e, R, s, m, args, below, meth, c, nL, A, cn, sn, Q, res⟩ := E
  obtain ⟨hx, hb, ⟨hml, hnL⟩, hown, hts, hR, hK, hA, hSt, hq⟩ := hE
  obtain ⟨hd, rfl⟩ := hd
  subst hnL
  intro ho H locs ls hP hD hS hl
  exact lv_lstore_n hx hb hd hi hl hn hL (fun ls' hl' => k ho H locs ls' hP hD hS hl')
theorem J_lstore (hE : JOk V E cc own n d ret enc) {i : Nat} {x : Int64} (hd : jd cc pc (.lstore i) 2 pc') (hn : i + 1 < n) (hL : (i, Value.long x) :: L.filter (fun q => !(q.1 == i) && (!(q.1 == i + 1) && !(q.1 + 1 == i && q.2.category == 2))) = L') (k : J V E fin o pc' L' st X) : J V E fin o pc L (.long x :: st) X := by
  obtain ⟨p, l, e, R, s, m, args, below, meth, c, nL, A, cn, sn, Q, res⟩ := E
  obtain ⟨hx, hb, ⟨hml, hnL⟩, hown, hts, hR, hK, hA, hSt, hq⟩ := hE
  obtain ⟨hd, rfl⟩ := hd
  subst hnL
  intro ho H locs ls hP hD hS hl
  exact lv_lstore hx hb hd hl hn hL (fun ls' hl' => k ho H locs ls' hP hD hS hl')
theorem J_aload_n (hE : JOk V E cc own n d ret enc) {f : Fin 4} {i : Nat} {x : Nat} (hd : jd cc pc (.aload_n f) 1 pc') (j : Nat) (hi : (f : Nat) = i) (hk : L[j]? = some (i, .ref x)) (k : J V E fin o pc' L (.ref x :: st) X) : J V E fin o pc L (st) X := by
  obtain ⟨p, l, e, R, s, m, args, below, meth, c, nL, A, cn, sn, Q, res⟩ := E
  obtain ⟨hx, hb, ⟨hml, hnL⟩, hown, hts, hR, hK, hA, hSt, hq⟩ := hE
  obtain ⟨hd, rfl⟩ := hd
  intro ho H locs ls hP hD hS hl
  exact lv_aload_n hx hb hd hi (lv_at hl j hk) (k ho H locs ls hP hD hS hl)
theorem J_aload (hE : JOk V E cc own n d ret enc) {i : Nat} {x : Nat} (hd : jd cc pc (.aload i) 2 pc') (j : Nat) (hk : L[j]? = some (i, .ref x)) (k : J V E fin o pc' L (.ref x :: st) X) : J V E fin o pc L (st) X := by
  obtain ⟨p, l, e, R, s, m, args, below, meth, c, nL, A, cn, sn, Q, res⟩ := E
  obtain ⟨hx, hb, ⟨hml, hnL⟩, hown, hts, hR, hK, hA, hSt, hq⟩ := hE
  obtain ⟨hd, rfl⟩ := hd
  intro ho H locs ls hP hD hS hl
  exact lv_aload hx hb hd (lv_at hl j hk) (k ho H locs ls hP hD hS hl)
theorem J_astore_n (hE : JOk V E cc own n d ret enc) {f : Fin 4} {i : Nat} {x : Nat} (hd : jd cc pc (.astore_n f) 1 pc') (hn : i < n) (hi : (f : Nat) = i) (hL : (i, Value.ref x) :: L.filter (fun q => !(q.1 == i) && !(q.1 + 1 == i && q.2.category == 2)) = L') (k : J V E fin o pc' L' st X) : J V E fin o pc L (.ref x :: st) X := by
  obtain ⟨p, l, e, R, s, m, args, below, meth, c, nL, A, cn, sn, Q, res⟩ := E
  obtain ⟨hx, hb, ⟨hml, hnL⟩, hown, hts, hR, hK, hA, hSt, hq⟩ := hE
  obtain ⟨hd, rfl⟩ := hd
  subst hnL
  intro ho H locs ls hP hD hS hl
  exact lv_astore_n hx hb hd hi hl hn hL (fun ls' hl' => k ho H locs ls' hP hD hS hl')
theorem J_astore (hE : JOk V E cc own n d ret enc) {i : Nat} {x : Nat} (hd : jd cc pc (.astore i) 2 pc') (hn : i < n) (hL : (i, Value.ref x) :: L.filter (fun q => !(q.1 == i) && !(q.1 + 1 == i && q.2.category == 2)) = L') (k : J V E fin o pc' L' st X) : J V E fin o pc L (.ref x :: st) X := by
  obtain ⟨p, l, e, R, s, m, args, below, meth, c, nL, A, cn, sn, Q, res⟩ := E
  obtain ⟨hx, hb, ⟨hml, hnL⟩, hown, hts, hR, hK, hA, hSt, hq⟩ := hE
  obtain ⟨hd, rfl⟩ := hd
  subst hnL
  intro ho H locs ls hP hD hS hl
  exact lv_astore hx hb hd hl hn hL (fun ls' hl' => k ho H locs ls' hP hD hS hl')
theorem J_iinc (hE : JOk V E cc own n d ret enc) {i j : Nat} {z : Int} {x v : Int32} (hd : jd cc pc (.iinc i z) 3 pc') (hk : L[j]? = some (i, .int x)) (hv : x + Int32.ofInt z = v) (hn : i < n) (hL : (i, Value.int v) :: L.filter (fun q => !(q.1 == i) && !(q.1 + 1 == i && q.2.category == 2)) = L') (k : J V E fin o pc' L' st X) : J V E fin o pc L st X := by
  obtain ⟨p, l, e, R, s, m, args, below, meth, c, nL, A, cn, sn, Q, res⟩ := E
  obtain ⟨hx, hb, ⟨hml, hnL⟩, hown, hts, hR, hK, hA, hSt, hq⟩ := hE
  obtain ⟨hd, rfl⟩ := hd
  subst hnL
  intro ho H locs ls hP hD hS hl
  exact lv_iinc hx hb hd hl hk hv hn hL (fun ls' hl' => k ho H locs ls' hP hD hS hl')
theorem J_iadd (hE : JOk V E cc own n d ret enc) {x y : Int32} (hd : jd cc pc .iadd 1 pc')  (k : J V E fin o pc' L (.int (x + y) :: st) X) : J V E fin o pc L (.int y :: .int x :: st) X := by
  obtain ⟨p, l, e, R, s, m, args, below, meth, c, nL, A, cn, sn, Q, res⟩ := E
  obtain ⟨hx, hb, ⟨hml, hnL⟩, hown, hts, hR, hK, hA, hSt, hq⟩ := hE
  obtain ⟨hd, rfl⟩ := hd
  intro ho H locs ls hP hD hS hl
  exact lv_iadd hx hb hd (k ho H locs ls hP hD hS hl)
theorem J_isub (hE : JOk V E cc own n d ret enc) {x y : Int32} (hd : jd cc pc .isub 1 pc')  (k : J V E fin o pc' L (.int (x - y) :: st) X) : J V E fin o pc L (.int y :: .int x :: st) X := by
  obtain ⟨p, l, e, R, s, m, args, below, meth, c, nL, A, cn, sn, Q, res⟩ := E
  obtain ⟨hx, hb, ⟨hml, hnL⟩, hown, hts, hR, hK, hA, hSt, hq⟩ := hE
  obtain ⟨hd, rfl⟩ := hd
  intro ho H locs ls hP hD hS hl
  exact lv_isub hx hb hd (k ho H locs ls hP hD hS hl)
theorem J_imul (hE : JOk V E cc own n d ret enc) {x y : Int32} (hd : jd cc pc .imul 1 pc')  (k : J V E fin o pc' L (.int (x * y) :: st) X) : J V E fin o pc L (.int y :: .int x :: st) X := by
  obtain ⟨p, l, e, R, s, m, args, below, meth, c, nL, A, cn, sn, Q, res⟩ := E
  obtain ⟨hx, hb, ⟨hml, hnL⟩, hown, hts, hR, hK, hA, hSt, hq⟩ := hE
  obtain ⟨hd, rfl⟩ := hd
  intro ho H locs ls hP hD hS hl
  exact lv_imul hx hb hd (k ho H locs ls hP hD hS hl)
theorem J_iand (hE : JOk V E cc own n d ret enc) {x y : Int32} (hd : jd cc pc .iand 1 pc')  (k : J V E fin o pc' L (.int (x &&& y) :: st) X) : J V E fin o pc L (.int y :: .int x :: st) X := by
  obtain ⟨p, l, e, R, s, m, args, below, meth, c, nL, A, cn, sn, Q, res⟩ := E
  obtain ⟨hx, hb, ⟨hml, hnL⟩, hown, hts, hR, hK, hA, hSt, hq⟩ := hE
  obtain ⟨hd, rfl⟩ := hd
  intro ho H locs ls hP hD hS hl
  exact lv_iand hx hb hd (k ho H locs ls hP hD hS hl)
theorem J_ior (hE : JOk V E cc own n d ret enc) {x y : Int32} (hd : jd cc pc .ior 1 pc')  (k : J V E fin o pc' L (.int (x ||| y) :: st) X) : J V E fin o pc L (.int y :: .int x :: st) X := by
  obtain ⟨p, l, e, R, s, m, args, below, meth, c, nL, A, cn, sn, Q, res⟩ := E
  obtain ⟨hx, hb, ⟨hml, hnL⟩, hown, hts, hR, hK, hA, hSt, hq⟩ := hE
  obtain ⟨hd, rfl⟩ := hd
  intro ho H locs ls hP hD hS hl
  exact lv_ior hx hb hd (k ho H locs ls hP hD hS hl)
theorem J_ixor (hE : JOk V E cc own n d ret enc) {x y : Int32} (hd : jd cc pc .ixor 1 pc')  (k : J V E fin o pc' L (.int (x ^^^ y) :: st) X) : J V E fin o pc L (.int y :: .int x :: st) X := by
  obtain ⟨p, l, e, R, s, m, args, below, meth, c, nL, A, cn, sn, Q, res⟩ := E
  obtain ⟨hx, hb, ⟨hml, hnL⟩, hown, hts, hR, hK, hA, hSt, hq⟩ := hE
  obtain ⟨hd, rfl⟩ := hd
  intro ho H locs ls hP hD hS hl
  exact lv_ixor hx hb hd (k ho H locs ls hP hD hS hl)
theorem J_ishl (hE : JOk V E cc own n d ret enc) {x y : Int32} (hd : jd cc pc .ishl 1 pc')  (k : J V E fin o pc' L (.int (x <<< (y &&& 31)) :: st) X) : J V E fin o pc L (.int y :: .int x :: st) X := by
  obtain ⟨p, l, e, R, s, m, args, below, meth, c, nL, A, cn, sn, Q, res⟩ := E
  obtain ⟨hx, hb, ⟨hml, hnL⟩, hown, hts, hR, hK, hA, hSt, hq⟩ := hE
  obtain ⟨hd, rfl⟩ := hd
  intro ho H locs ls hP hD hS hl
  exact lv_ishl hx hb hd (k ho H locs ls hP hD hS hl)
theorem J_ishr (hE : JOk V E cc own n d ret enc) {x y : Int32} (hd : jd cc pc .ishr 1 pc')  (k : J V E fin o pc' L (.int (x >>> (y &&& 31)) :: st) X) : J V E fin o pc L (.int y :: .int x :: st) X := by
  obtain ⟨p, l, e, R, s, m, args, below, meth, c, nL, A, cn, sn, Q, res⟩ := E
  obtain ⟨hx, hb, ⟨hml, hnL⟩, hown, hts, hR, hK, hA, hSt, hq⟩ := hE
  obtain ⟨hd, rfl⟩ := hd
  intro ho H locs ls hP hD hS hl
  exact lv_ishr hx hb hd (k ho H locs ls hP hD hS hl)
theorem J_iushr (hE : JOk V E cc own n d ret enc) {x y : Int32} (hd : jd cc pc .iushr 1 pc')  (k : J V E fin o pc' L (.int (x.toUInt32 >>> (y.toUInt32 &&& Int32.toUInt32 31)).toInt32 :: st) X) : J V E fin o pc L (.int y :: .int x :: st) X := by
  obtain ⟨p, l, e, R, s, m, args, below, meth, c, nL, A, cn, sn, Q, res⟩ := E
  obtain ⟨hx, hb, ⟨hml, hnL⟩, hown, hts, hR, hK, hA, hSt, hq⟩ := hE
  obtain ⟨hd, rfl⟩ := hd
  intro ho H locs ls hP hD hS hl
  exact lv_iushr hx hb hd rfl (k ho H locs ls hP hD hS hl)
theorem J_ladd (hE : JOk V E cc own n d ret enc) {x y : Int64} (hd : jd cc pc .ladd 1 pc')  (k : J V E fin o pc' L (.long (x + y) :: st) X) : J V E fin o pc L (.long y :: .long x :: st) X := by
  obtain ⟨p, l, e, R, s, m, args, below, meth, c, nL, A, cn, sn, Q, res⟩ := E
  obtain ⟨hx, hb, ⟨hml, hnL⟩, hown, hts, hR, hK, hA, hSt, hq⟩ := hE
  obtain ⟨hd, rfl⟩ := hd
  intro ho H locs ls hP hD hS hl
  exact lv_ladd hx hb hd (k ho H locs ls hP hD hS hl)
theorem J_lsub (hE : JOk V E cc own n d ret enc) {x y : Int64} (hd : jd cc pc .lsub 1 pc')  (k : J V E fin o pc' L (.long (x - y) :: st) X) : J V E fin o pc L (.long y :: .long x :: st) X := by
  obtain ⟨p, l, e, R, s, m, args, below, meth, c, nL, A, cn, sn, Q, res⟩ := E
  obtain ⟨hx, hb, ⟨hml, hnL⟩, hown, hts, hR, hK, hA, hSt, hq⟩ := hE
  obtain ⟨hd, rfl⟩ := hd
  intro ho H locs ls hP hD hS hl
  exact lv_lsub hx hb hd (k ho H locs ls hP hD hS hl)
theorem J_lmul (hE : JOk V E cc own n d ret enc) {x y : Int64} (hd : jd cc pc .lmul 1 pc')  (k : J V E fin o pc' L (.long (x * y) :: st) X) : J V E fin o pc L (.long y :: .long x :: st) X := by
  obtain ⟨p, l, e, R, s, m, args, below, meth, c, nL, A, cn, sn, Q, res⟩ := E
  obtain ⟨hx, hb, ⟨hml, hnL⟩, hown, hts, hR, hK, hA, hSt, hq⟩ := hE
  obtain ⟨hd, rfl⟩ := hd
  intro ho H locs ls hP hD hS hl
  exact lv_lmul hx hb hd (k ho H locs ls hP hD hS hl)
theorem J_i2l (hE : JOk V E cc own n d ret enc) {x : Int32} (hd : jd cc pc .i2l 1 pc')  (k : J V E fin o pc' L (.long x.toInt64 :: st) X) : J V E fin o pc L (.int x :: st) X := by
  obtain ⟨p, l, e, R, s, m, args, below, meth, c, nL, A, cn, sn, Q, res⟩ := E
  obtain ⟨hx, hb, ⟨hml, hnL⟩, hown, hts, hR, hK, hA, hSt, hq⟩ := hE
  obtain ⟨hd, rfl⟩ := hd
  intro ho H locs ls hP hD hS hl
  exact lv_i2l hx hb hd rfl (k ho H locs ls hP hD hS hl)
theorem J_i2b (hE : JOk V E cc own n d ret enc) {x : Int32} (hd : jd cc pc .i2b 1 pc')  (k : J V E fin o pc' L (.int x.toInt8.toInt32 :: st) X) : J V E fin o pc L (.int x :: st) X := by
  obtain ⟨p, l, e, R, s, m, args, below, meth, c, nL, A, cn, sn, Q, res⟩ := E
  obtain ⟨hx, hb, ⟨hml, hnL⟩, hown, hts, hR, hK, hA, hSt, hq⟩ := hE
  obtain ⟨hd, rfl⟩ := hd
  intro ho H locs ls hP hD hS hl
  exact lv_i2b hx hb hd rfl (k ho H locs ls hP hD hS hl)
theorem J_i2s (hE : JOk V E cc own n d ret enc) {x : Int32} (hd : jd cc pc .i2s 1 pc')  (k : J V E fin o pc' L (.int x.toInt16.toInt32 :: st) X) : J V E fin o pc L (.int x :: st) X := by
  obtain ⟨p, l, e, R, s, m, args, below, meth, c, nL, A, cn, sn, Q, res⟩ := E
  obtain ⟨hx, hb, ⟨hml, hnL⟩, hown, hts, hR, hK, hA, hSt, hq⟩ := hE
  obtain ⟨hd, rfl⟩ := hd
  intro ho H locs ls hP hD hS hl
  exact lv_i2s hx hb hd rfl (k ho H locs ls hP hD hS hl)
theorem J_lcmp (hE : JOk V E cc own n d ret enc) {x y : Int64} (hd : jd cc pc .lcmp 1 pc')  (k : J V E fin o pc' L (.int (lg_cmp x y) :: st) X) : J V E fin o pc L (.long y :: .long x :: st) X := by
  obtain ⟨p, l, e, R, s, m, args, below, meth, c, nL, A, cn, sn, Q, res⟩ := E
  obtain ⟨hx, hb, ⟨hml, hnL⟩, hown, hts, hR, hK, hA, hSt, hq⟩ := hE
  obtain ⟨hd, rfl⟩ := hd
  intro ho H locs ls hP hD hS hl
  exact W.lcmp hx hb hd (k ho H locs ls hP hD hS hl)
theorem J_dup (hE : JOk V E cc own n d ret enc) {v : Value} (hd : jd cc pc .dup 1 pc') (hc : v.category = 1) (k : J V E fin o pc' L (v :: v :: st) X) : J V E fin o pc L (v :: st) X := by
  obtain ⟨p, l, e, R, s, m, args, below, meth, c, nL, A, cn, sn, Q, res⟩ := E
  obtain ⟨hx, hb, ⟨hml, hnL⟩, hown, hts, hR, hK, hA, hSt, hq⟩ := hE
  obtain ⟨hd, rfl⟩ := hd
  intro ho H locs ls hP hD hS hl
  exact lv_dup hx hb hd hc (k ho H locs ls hP hD hS hl)
theorem J_dup2 (hE : JOk V E cc own n d ret enc) {v w : Value} (hd : jd cc pc .dup2 1 pc') (hc : v.category = 1) (hc2 : w.category = 1) (k : J V E fin o pc' L (v :: w :: v :: w :: st) X) : J V E fin o pc L (v :: w :: st) X := by
  obtain ⟨p, l, e, R, s, m, args, below, meth, c, nL, A, cn, sn, Q, res⟩ := E
  obtain ⟨hx, hb, ⟨hml, hnL⟩, hown, hts, hR, hK, hA, hSt, hq⟩ := hE
  obtain ⟨hd, rfl⟩ := hd
  intro ho H locs ls hP hD hS hl
  exact lv_dup2_11 hx hb hd hc hc2 (k ho H locs ls hP hD hS hl)
theorem J_dup_x1 (hE : JOk V E cc own n d ret enc) {v w : Value} (hd : jd cc pc .dup_x1 1 pc') (hc : v.category = 1) (hc2 : w.category = 1) (k : J V E fin o pc' L (v :: w :: v :: st) X) : J V E fin o pc L (v :: w :: st) X := by
  obtain ⟨p, l, e, R, s, m, args, below, meth, c, nL, A, cn, sn, Q, res⟩ := E
  obtain ⟨hx, hb, ⟨hml, hnL⟩, hown, hts, hR, hK, hA, hSt, hq⟩ := hE
  obtain ⟨hd, rfl⟩ := hd
  intro ho H locs ls hP hD hS hl
  exact lv_dup_x1 hx hb hd hc hc2 (k ho H locs ls hP hD hS hl)
theorem J_pop (hE : JOk V E cc own n d ret enc) {v : Value} (hd : jd cc pc .pop 1 pc') (hc : v.category = 1) (k : J V E fin o pc' L (st) X) : J V E fin o pc L (v :: st) X := by
  obtain ⟨p, l, e, R, s, m, args, below, meth, c, nL, A, cn, sn, Q, res⟩ := E
  obtain ⟨hx, hb, ⟨hml, hnL⟩, hown, hts, hR, hK, hA, hSt, hq⟩ := hE
  obtain ⟨hd, rfl⟩ := hd
  intro ho H locs ls hP hD hS hl
  exact lv_pop hx hb hd hc (k ho H locs ls hP hD hS hl)
theorem J_idiv (hE : JOk V E cc own n d ret enc) {x y : Int32} (hd : jd cc pc .idiv 1 pc') (k : ¬ y = 0 → J V E fin o pc' L (.int (x / y) :: st) X) : J V E fin (if y = 0 then none else o) pc L (.int y :: .int x :: st) X := by
  obtain ⟨p, l, e, R, s, m, args, below, meth, c, nL, A, cn, sn, Q, res⟩ := E
  obtain ⟨hx, hb, ⟨hml, hnL⟩, hown, hts, hR, hK, hA, hSt, hq⟩ := hE
  obtain ⟨hd, rfl⟩ := hd
  intro ho H locs ls hP hD hS hl
  by_cases h : y = 0
  · rw [if_pos h] at ho
    exact absurd ho (by simp)
  · rw [if_neg h] at ho
    exact lv_idiv hx hb hd h (k h ho H locs ls hP hD hS hl)
theorem J_irem (hE : JOk V E cc own n d ret enc) {x y : Int32} (hd : jd cc pc .irem 1 pc') (k : ¬ y = 0 → J V E fin o pc' L (.int (x - x / y * y) :: st) X) : J V E fin (if y = 0 then none else o) pc L (.int y :: .int x :: st) X := by
  obtain ⟨p, l, e, R, s, m, args, below, meth, c, nL, A, cn, sn, Q, res⟩ := E
  obtain ⟨hx, hb, ⟨hml, hnL⟩, hown, hts, hR, hK, hA, hSt, hq⟩ := hE
  obtain ⟨hd, rfl⟩ := hd
  intro ho H locs ls hP hD hS hl
  by_cases h : y = 0
  · rw [if_pos h] at ho
    exact absurd ho (by simp)
  · rw [if_neg h] at ho
    exact lv_irem hx hb hd h (k h ho H locs ls hP hD hS hl)
theorem J_ldiv (hE : JOk V E cc own n d ret enc) {x y : Int64} (hd : jd cc pc .ldiv 1 pc') (k : ¬ y = 0 → J V E fin o pc' L (.long (x / y) :: st) X) : J V E fin (if y = 0 then none else o) pc L (.long y :: .long x :: st) X := by
  obtain ⟨p, l, e, R, s, m, args, below, meth, c, nL, A, cn, sn, Q, res⟩ := E
  obtain ⟨hx, hb, ⟨hml, hnL⟩, hown, hts, hR, hK, hA, hSt, hq⟩ := hE
  obtain ⟨hd, rfl⟩ := hd
  intro ho H locs ls hP hD hS hl
  by_cases h : y = 0
  · rw [if_pos h] at ho
    exact absurd ho (by simp)
  · rw [if_neg h] at ho
    exact lv_ldiv hx hb hd h (k h ho H locs ls hP hD hS hl)
theorem J_lrem (hE : JOk V E cc own n d ret enc) {x y : Int64} (hd : jd cc pc .lrem 1 pc') (k : ¬ y = 0 → J V E fin o pc' L (.long (x - x / y * y) :: st) X) : J V E fin (if y = 0 then none else o) pc L (.long y :: .long x :: st) X := by
  obtain ⟨p, l, e, R, s, m, args, below, meth, c, nL, A, cn, sn, Q, res⟩ := E
  obtain ⟨hx, hb, ⟨hml, hnL⟩, hown, hts, hR, hK, hA, hSt, hq⟩ := hE
  obtain ⟨hd, rfl⟩ := hd
  intro ho H locs ls hP hD hS hl
  by_cases h : y = 0
  · rw [if_pos h] at ho
    exact absurd ho (by simp)
  · rw [if_neg h] at ho
    exact lv_lrem hx hb hd h (k h ho H locs ls hP hD hS hl)
theorem J_icmp_eq (hE : JOk V E cc own n d ret enc) {x y : Int32} {z : Int} {tgt : Nat} {ot of : Option α} (hd : jd cc pc (.if_icmp .eq z) 3 pc') (ht : (pc : Int) + z = (tgt : Int)) (kt : x = y → J V E fin ot tgt L st X) (kf : ¬ (x = y) → J V E fin of pc' L st X) : J V E fin (if x = y then ot else of) pc L (.int y :: .int x :: st) X := by
  obtain ⟨p, l, e, R, s, m, args, below, meth, c, nL, A, cn, sn, Q, res⟩ := E
  obtain ⟨hx, hb, ⟨hml, hnL⟩, hown, hts, hR, hK, hA, hSt, hq⟩ := hE
  obtain ⟨hd, rfl⟩ := hd
  intro ho H locs ls hP hD hS hl
  exact lv_icmp_eq hx hb hd ht (fun q => kt q (by rw [if_pos q] at ho; exact ho) H locs ls hP hD hS hl) (fun q => kf q (by rw [if_neg q] at ho; exact ho) H locs ls hP hD hS hl)
theorem J_if_eq (hE : JOk V E cc own n d ret enc) {x : Int32} {z : Int} {tgt : Nat} {ot of : Option α} (hd : jd cc pc (.ifCond .eq z) 3 pc') (ht : (pc : Int) + z = (tgt : Int)) (kt : x = 0 → J V E fin ot tgt L st X) (kf : ¬ (x = 0) → J V E fin of pc' L st X) : J V E fin (if x = 0 then ot else of) pc L (.int x :: st) X := by
  obtain ⟨p, l, e, R, s, m, args, below, meth, c, nL, A, cn, sn, Q, res⟩ := E
  obtain ⟨hx, hb, ⟨hml, hnL⟩, hown, hts, hR, hK, hA, hSt, hq⟩ := hE
  obtain ⟨hd, rfl⟩ := hd
  intro ho H locs ls hP hD hS hl
  exact lv_if_eq hx hb hd ht (fun q => kt q (by rw [if_pos q] at ho; exact ho) H locs ls hP hD hS hl) (fun q => kf q (by rw [if_neg q] at ho; exact ho) H locs ls hP hD hS hl)
theorem J_icmp_ne (hE : JOk V E cc own n d ret enc) {x y : Int32} {z : Int} {tgt : Nat} {ot of : Option α} (hd : jd cc pc (.if_icmp .ne z) 3 pc') (ht : (pc : Int) + z = (tgt : Int)) (kt : ¬ x = y → J V E fin ot tgt L st X) (kf : x = y → J V E fin of pc' L st X) : J V E fin (if x = y then of else ot) pc L (.int y :: .int x :: st) X := by
  obtain ⟨p, l, e, R, s, m, args, below, meth, c, nL, A, cn, sn, Q, res⟩ := E
  obtain ⟨hx, hb, ⟨hml, hnL⟩, hown, hts, hR, hK, hA, hSt, hq⟩ := hE
  obtain ⟨hd, rfl⟩ := hd
  intro ho H locs ls hP hD hS hl
  exact lv_icmp_ne hx hb hd ht (fun q => kt q (by rw [if_neg q] at ho; exact ho) H locs ls hP hD hS hl) (fun q => kf q (by rw [if_pos q] at ho; exact ho) H locs ls hP hD hS hl)
theorem J_if_ne (hE : JOk V E cc own n d ret enc) {x : Int32} {z : Int} {tgt : Nat} {ot of : Option α} (hd : jd cc pc (.ifCond .ne z) 3 pc') (ht : (pc : Int) + z = (tgt : Int)) (kt : ¬ x = 0 → J V E fin ot tgt L st X) (kf : x = 0 → J V E fin of pc' L st X) : J V E fin (if x = 0 then of else ot) pc L (.int x :: st) X := by
  obtain ⟨p, l, e, R, s, m, args, below, meth, c, nL, A, cn, sn, Q, res⟩ := E
  obtain ⟨hx, hb, ⟨hml, hnL⟩, hown, hts, hR, hK, hA, hSt, hq⟩ := hE
  obtain ⟨hd, rfl⟩ := hd
  intro ho H locs ls hP hD hS hl
  exact lv_if_ne hx hb hd ht (fun q => kt q (by rw [if_neg q] at ho; exact ho) H locs ls hP hD hS hl) (fun q => kf q (by rw [if_pos q] at ho; exact ho) H locs ls hP hD hS hl)
theorem J_icmp_lt (hE : JOk V E cc own n d ret enc) {x y : Int32} {z : Int} {tgt : Nat} {ot of : Option α} (hd : jd cc pc (.if_icmp .lt z) 3 pc') (ht : (pc : Int) + z = (tgt : Int)) (kt : x < y → J V E fin ot tgt L st X) (kf : ¬ (x < y) → J V E fin of pc' L st X) : J V E fin (if x < y then ot else of) pc L (.int y :: .int x :: st) X := by
  obtain ⟨p, l, e, R, s, m, args, below, meth, c, nL, A, cn, sn, Q, res⟩ := E
  obtain ⟨hx, hb, ⟨hml, hnL⟩, hown, hts, hR, hK, hA, hSt, hq⟩ := hE
  obtain ⟨hd, rfl⟩ := hd
  intro ho H locs ls hP hD hS hl
  exact lv_icmp_lt hx hb hd ht (fun q => kt q (by rw [if_pos q] at ho; exact ho) H locs ls hP hD hS hl) (fun q => kf q (by rw [if_neg q] at ho; exact ho) H locs ls hP hD hS hl)
theorem J_if_lt (hE : JOk V E cc own n d ret enc) {x : Int32} {z : Int} {tgt : Nat} {ot of : Option α} (hd : jd cc pc (.ifCond .lt z) 3 pc') (ht : (pc : Int) + z = (tgt : Int)) (kt : x < 0 → J V E fin ot tgt L st X) (kf : ¬ (x < 0) → J V E fin of pc' L st X) : J V E fin (if x < 0 then ot else of) pc L (.int x :: st) X := by
  obtain ⟨p, l, e, R, s, m, args, below, meth, c, nL, A, cn, sn, Q, res⟩ := E
  obtain ⟨hx, hb, ⟨hml, hnL⟩, hown, hts, hR, hK, hA, hSt, hq⟩ := hE
  obtain ⟨hd, rfl⟩ := hd
  intro ho H locs ls hP hD hS hl
  exact lv_if_lt hx hb hd ht (fun q => kt q (by rw [if_pos q] at ho; exact ho) H locs ls hP hD hS hl) (fun q => kf q (by rw [if_neg q] at ho; exact ho) H locs ls hP hD hS hl)
theorem J_icmp_ge (hE : JOk V E cc own n d ret enc) {x y : Int32} {z : Int} {tgt : Nat} {ot of : Option α} (hd : jd cc pc (.if_icmp .ge z) 3 pc') (ht : (pc : Int) + z = (tgt : Int)) (kt : y ≤ x → J V E fin ot tgt L st X) (kf : ¬ (y ≤ x) → J V E fin of pc' L st X) : J V E fin (if y ≤ x then ot else of) pc L (.int y :: .int x :: st) X := by
  obtain ⟨p, l, e, R, s, m, args, below, meth, c, nL, A, cn, sn, Q, res⟩ := E
  obtain ⟨hx, hb, ⟨hml, hnL⟩, hown, hts, hR, hK, hA, hSt, hq⟩ := hE
  obtain ⟨hd, rfl⟩ := hd
  intro ho H locs ls hP hD hS hl
  exact lv_icmp_ge hx hb hd ht (fun q => kt q (by rw [if_pos q] at ho; exact ho) H locs ls hP hD hS hl) (fun q => kf q (by rw [if_neg q] at ho; exact ho) H locs ls hP hD hS hl)
theorem J_if_ge (hE : JOk V E cc own n d ret enc) {x : Int32} {z : Int} {tgt : Nat} {ot of : Option α} (hd : jd cc pc (.ifCond .ge z) 3 pc') (ht : (pc : Int) + z = (tgt : Int)) (kt : 0 ≤ x → J V E fin ot tgt L st X) (kf : ¬ (0 ≤ x) → J V E fin of pc' L st X) : J V E fin (if 0 ≤ x then ot else of) pc L (.int x :: st) X := by
  obtain ⟨p, l, e, R, s, m, args, below, meth, c, nL, A, cn, sn, Q, res⟩ := E
  obtain ⟨hx, hb, ⟨hml, hnL⟩, hown, hts, hR, hK, hA, hSt, hq⟩ := hE
  obtain ⟨hd, rfl⟩ := hd
  intro ho H locs ls hP hD hS hl
  exact lv_if_ge hx hb hd ht (fun q => kt q (by rw [if_pos q] at ho; exact ho) H locs ls hP hD hS hl) (fun q => kf q (by rw [if_neg q] at ho; exact ho) H locs ls hP hD hS hl)
theorem J_icmp_gt (hE : JOk V E cc own n d ret enc) {x y : Int32} {z : Int} {tgt : Nat} {ot of : Option α} (hd : jd cc pc (.if_icmp .gt z) 3 pc') (ht : (pc : Int) + z = (tgt : Int)) (kt : y < x → J V E fin ot tgt L st X) (kf : ¬ (y < x) → J V E fin of pc' L st X) : J V E fin (if y < x then ot else of) pc L (.int y :: .int x :: st) X := by
  obtain ⟨p, l, e, R, s, m, args, below, meth, c, nL, A, cn, sn, Q, res⟩ := E
  obtain ⟨hx, hb, ⟨hml, hnL⟩, hown, hts, hR, hK, hA, hSt, hq⟩ := hE
  obtain ⟨hd, rfl⟩ := hd
  intro ho H locs ls hP hD hS hl
  exact lv_icmp_gt hx hb hd ht (fun q => kt q (by rw [if_pos q] at ho; exact ho) H locs ls hP hD hS hl) (fun q => kf q (by rw [if_neg q] at ho; exact ho) H locs ls hP hD hS hl)
theorem J_if_gt (hE : JOk V E cc own n d ret enc) {x : Int32} {z : Int} {tgt : Nat} {ot of : Option α} (hd : jd cc pc (.ifCond .gt z) 3 pc') (ht : (pc : Int) + z = (tgt : Int)) (kt : 0 < x → J V E fin ot tgt L st X) (kf : ¬ (0 < x) → J V E fin of pc' L st X) : J V E fin (if 0 < x then ot else of) pc L (.int x :: st) X := by
  obtain ⟨p, l, e, R, s, m, args, below, meth, c, nL, A, cn, sn, Q, res⟩ := E
  obtain ⟨hx, hb, ⟨hml, hnL⟩, hown, hts, hR, hK, hA, hSt, hq⟩ := hE
  obtain ⟨hd, rfl⟩ := hd
  intro ho H locs ls hP hD hS hl
  exact lv_if_gt hx hb hd ht (fun q => kt q (by rw [if_pos q] at ho; exact ho) H locs ls hP hD hS hl) (fun q => kf q (by rw [if_neg q] at ho; exact ho) H locs ls hP hD hS hl)
theorem J_icmp_le (hE : JOk V E cc own n d ret enc) {x y : Int32} {z : Int} {tgt : Nat} {ot of : Option α} (hd : jd cc pc (.if_icmp .le z) 3 pc') (ht : (pc : Int) + z = (tgt : Int)) (kt : x ≤ y → J V E fin ot tgt L st X) (kf : ¬ (x ≤ y) → J V E fin of pc' L st X) : J V E fin (if x ≤ y then ot else of) pc L (.int y :: .int x :: st) X := by
  obtain ⟨p, l, e, R, s, m, args, below, meth, c, nL, A, cn, sn, Q, res⟩ := E
  obtain ⟨hx, hb, ⟨hml, hnL⟩, hown, hts, hR, hK, hA, hSt, hq⟩ := hE
  obtain ⟨hd, rfl⟩ := hd
  intro ho H locs ls hP hD hS hl
  exact lv_icmp_le hx hb hd ht (fun q => kt q (by rw [if_pos q] at ho; exact ho) H locs ls hP hD hS hl) (fun q => kf q (by rw [if_neg q] at ho; exact ho) H locs ls hP hD hS hl)
theorem J_if_le (hE : JOk V E cc own n d ret enc) {x : Int32} {z : Int} {tgt : Nat} {ot of : Option α} (hd : jd cc pc (.ifCond .le z) 3 pc') (ht : (pc : Int) + z = (tgt : Int)) (kt : x ≤ 0 → J V E fin ot tgt L st X) (kf : ¬ (x ≤ 0) → J V E fin of pc' L st X) : J V E fin (if x ≤ 0 then ot else of) pc L (.int x :: st) X := by
  obtain ⟨p, l, e, R, s, m, args, below, meth, c, nL, A, cn, sn, Q, res⟩ := E
  obtain ⟨hx, hb, ⟨hml, hnL⟩, hown, hts, hR, hK, hA, hSt, hq⟩ := hE
  obtain ⟨hd, rfl⟩ := hd
  intro ho H locs ls hP hD hS hl
  exact lv_if_le hx hb hd ht (fun q => kt q (by rw [if_pos q] at ho; exact ho) H locs ls hP hD hS hl) (fun q => kf q (by rw [if_neg q] at ho; exact ho) H locs ls hP hD hS hl)
theorem J_goto (hE : JOk V E cc own n d ret enc) {z : Int} {tgt : Nat} (hd : jd cc pc (.goto z) 3 pc') (ht : (pc : Int) + z = (tgt : Int)) (k : J V E fin o tgt L st X) : J V E fin o pc L st X := by
  obtain ⟨p, l, e, R, s, m, args, below, meth, c, nL, A, cn, sn, Q, res⟩ := E
  obtain ⟨hx, hb, ⟨hml, hnL⟩, hown, hts, hR, hK, hA, hSt, hq⟩ := hE
  obtain ⟨hd, rfl⟩ := hd
  intro ho H locs ls hP hD hS hl
  exact lv_goto hx hb hd ht (k ho H locs ls hP hD hS hl)
theorem J_tsIn (hE : JOk V E cc own n d ret enc) {dflt lo hi : Int} {offs : Array Int} {len : Nat} {x : Int32} {off : Int} {tgt : Nat} (hd : jd cc pc (.tableswitch dflt lo hi offs) len pc') (h1 : ¬ x.toInt < lo) (h2 : ¬ hi < x.toInt) (ho : offs[(x.toInt - lo).toNat]? = some off) (ht : (pc : Int) + off = (tgt : Int)) (k : J V E fin o tgt L st X) : J V E fin o pc L (.int x :: st) X := by
  obtain ⟨p, l, e, R, s, m, args, below, meth, c, nL, A, cn, sn, Q, res⟩ := E
  obtain ⟨hx, hb, ⟨hml, hnL⟩, hown, hts, hR, hK, hA, hSt, hq⟩ := hE
  obtain ⟨hd, rfl⟩ := hd
  intro hoo H locs ls hP hD hS hl
  exact lv_tableIn hx hb hd h1 h2 ho ht (k hoo H locs ls hP hD hS hl)
theorem J_tsOut (hE : JOk V E cc own n d ret enc) {dflt lo hi : Int} {offs : Array Int} {len : Nat} {x : Int32} {tgt : Nat} (hd : jd cc pc (.tableswitch dflt lo hi offs) len pc') (h : x.toInt < lo ∨ hi < x.toInt) (ht : (pc : Int) + dflt = (tgt : Int)) (k : J V E fin o tgt L st X) : J V E fin o pc L (.int x :: st) X := by
  obtain ⟨p, l, e, R, s, m, args, below, meth, c, nL, A, cn, sn, Q, res⟩ := E
  obtain ⟨hx, hb, ⟨hml, hnL⟩, hown, hts, hR, hK, hA, hSt, hq⟩ := hE
  obtain ⟨hd, rfl⟩ := hd
  intro hoo H locs ls hP hD hS hl
  exact lv_tableOut hx hb hd h ht (k hoo H locs ls hP hD hS hl)
theorem J_lsw (hE : JOk V E cc own n d ret enc) {dflt : Int} {ps : Array (Int × Int)} {len : Nat} {x : Int32} {off : Int} {tgt : Nat} (hd : jd cc pc (.lookupswitch dflt ps) len pc') (hp : (ps.toList.zip (ps.toList.drop 1)).all (fun (a, next) => a.1 < next.1) = true) (hof : Op.lookupswitch.offset ps.toList dflt x.toInt = off) (ht : (pc : Int) + off = (tgt : Int)) (k : J V E fin o tgt L st X) : J V E fin o pc L (.int x :: st) X := by
  obtain ⟨p, l, e, R, s, m, args, below, meth, c, nL, A, cn, sn, Q, res⟩ := E
  obtain ⟨hx, hb, ⟨hml, hnL⟩, hown, hts, hR, hK, hA, hSt, hq⟩ := hE
  obtain ⟨hd, rfl⟩ := hd
  intro hoo H locs ls hP hD hS hl
  exact lv_lookup hx hb hd hp hof ht (k hoo H locs ls hP hD hS hl)
theorem J_iret (hE : JOk V E cc own n d (some .int) enc) {r : α} {v : Int32} (hd : jd cc pc .ireturn 1 pc') (hr : enc (fin r).1 = some (.int v)) (hX : (fin r).2 = X) : J V E fin (some r) pc L [.int v] X := by
  obtain ⟨p, l, e, R, s, m, args, below, meth, c, nL, A, cn, sn, Q, res⟩ := E
  obtain ⟨hx, hb, ⟨hml, hnL⟩, hown, hts, hR, hK, hA, hSt, hq⟩ := hE
  obtain ⟨hd, rfl⟩ := hd
  intro ho H locs ls hP hD hS hl
  have hr0 : fin r = res := Option.some.inj ho
  subst hr0
  subst hX
  have z := hq .ireturn H locs ls pc hP hD hS (Or.inr (Or.inr ⟨_, v, rfl, hr, rfl, rfl⟩)) hd
  rw [hr] at z
  exact z
theorem J_zret (hE : JOk V E cc own n d (some .boolean) enc) {r : α} {v : Int32} (hz : v = 0 ∨ v = 1) (hd : jd cc pc .ireturn 1 pc') (hr : enc (fin r).1 = some (.int v)) (hX : (fin r).2 = X) : J V E fin (some r) pc L [.int v] X := by
  obtain ⟨p, l, e, R, s, m, args, below, meth, c, nL, A, cn, sn, Q, res⟩ := E
  obtain ⟨hx, hb, ⟨hml, hnL⟩, hown, hts, hR, hK, hA, hSt, hq⟩ := hE
  obtain ⟨hd, rfl⟩ := hd
  intro ho H locs ls hP hD hS hl
  have hr0 : fin r = res := Option.some.inj ho
  subst hr0
  subst hX
  have z := hq .ireturn H locs ls pc hP hD hS (Or.inr (Or.inr ⟨_, v, rfl, hr, by rcases hz with rfl | rfl <;> rfl, rfl⟩)) hd
  rw [hr] at z
  exact z
theorem J_lret (hE : JOk V E cc own n d (some .long) enc) {r : α} {v : Int64} (hd : jd cc pc .lreturn 1 pc') (hr : enc (fin r).1 = some (.long v)) (hX : (fin r).2 = X) : J V E fin (some r) pc L [.long v] X := by
  obtain ⟨p, l, e, R, s, m, args, below, meth, c, nL, A, cn, sn, Q, res⟩ := E
  obtain ⟨hx, hb, ⟨hml, hnL⟩, hown, hts, hR, hK, hA, hSt, hq⟩ := hE
  obtain ⟨hd, rfl⟩ := hd
  intro ho H locs ls hP hD hS hl
  have hr0 : fin r = res := Option.some.inj ho
  subst hr0
  subst hX
  have z := hq .lreturn H locs ls pc hP hD hS (Or.inr (Or.inl ⟨v, rfl, hr, rfl⟩)) hd
  rw [hr] at z
  exact z
theorem J_vret (hE : JOk V E cc own n d none enc) {r : α} (hd : jd cc pc .return_ 1 pc') (hr : enc (fin r).1 = none) (hX : (fin r).2 = X) : J V E fin (some r) pc L [] X := by
  obtain ⟨p, l, e, R, s, m, args, below, meth, c, nL, A, cn, sn, Q, res⟩ := E
  obtain ⟨hx, hb, ⟨hml, hnL⟩, hown, hts, hR, hK, hA, hSt, hq⟩ := hE
  obtain ⟨hd, rfl⟩ := hd
  intro ho H locs ls hP hD hS hl
  have hr0 : fin r = res := Option.some.inj ho
  subst hr0
  subst hX
  have z := hq .return_ H locs ls pc hP hD hS (Or.inl ⟨rfl, hr, rfl⟩) hd
  rw [hr] at z
  exact z
theorem J_ite {c : Prop} {dc : Decidable c} {o1 o2 : Option α} (h1 : c → J V E fin o1 pc L st X) (h2 : ¬ c → J V E fin o2 pc L st X) : J V E fin (@ite _ c dc o1 o2) pc L st X := by
  by_cases h : c
  · rw [if_pos h]; exact h1 h
  · rw [if_neg h]; exact h2 h
theorem J_tsAt (hE : JOk V E cc own n d ret enc) {dflt lo hi : Int} {offs : Array Int} {len : Nat} {x v : Int32} {off : Int} {tgt : Nat} (hv : x = v) (hd : jd cc pc (.tableswitch dflt lo hi offs) len pc') (h1 : ¬ v.toInt < lo) (h2 : ¬ hi < v.toInt) (ho : offs[(v.toInt - lo).toNat]? = some off) (ht : (pc : Int) + off = (tgt : Int)) (k : J V E fin o tgt L st X) : J V E fin o pc L (.int x :: st) X := J_tsIn hE hd (by rw [hv]; exact h1) (by rw [hv]; exact h2) (by rw [hv]; exact ho) ht k
theorem J_lsAt (hE : JOk V E cc own n d ret enc) {dflt : Int} {ps : Array (Int × Int)} {len : Nat} {x v : Int32} {off : Int} {tgt : Nat} (hv : x = v) (hd : jd cc pc (.lookupswitch dflt ps) len pc') (hp : (ps.toList.zip (ps.toList.drop 1)).all (fun (a, next) => a.1 < next.1) = true) (hof : Op.lookupswitch.offset ps.toList dflt v.toInt = off) (ht : (pc : Int) + off = (tgt : Int)) (k : J V E fin o tgt L st X) : J V E fin o pc L (.int x :: st) X := J_lsw hE hd hp (by rw [hv]; exact hof) ht k
/-- a name for a value or a state: the pure program names it too -/
theorem J_letS {f : σ → Option α} {e : σ} (k : ∀ x, J V E fin (f x) pc L st x) : J V E fin (lt e f) pc L st e := k e
theorem J_leti {f : Int32 → Option α} {e : Int32} (k : ∀ x, J V E fin (f x) pc L (.int x :: st) X) : J V E fin (lt e f) pc L (.int e :: st) X := k e
theorem J_letl {f : Int64 → Option α} {e : Int64} (k : ∀ x, J V E fin (f x) pc L (.long x :: st) X) : J V E fin (lt e f) pc L (.long e :: st) X := k e
theorem J_iincL (hE : JOk V E cc own n d ret enc) {i j : Nat} {z : Int} {x v : Int32} {Lf : Int32 → List (Nat × Value)} {f : Int32 → Option α} (hd : jd cc pc (.iinc i z) 3 pc') (hk : L[j]? = some (i, .int x)) (hv : x + Int32.ofInt z = v) (hn : i < n) (hL : ∀ v : Int32, (i, Value.int v) :: L.filter (fun q => !(q.1 == i) && !(q.1 + 1 == i && q.2.category == 2)) = Lf v) (k : ∀ v : Int32, J V E fin (f v) pc' (Lf v) st X) : J V E fin (lt v f) pc L st X := J_iinc hE hd hk hv hn (hL v) (k v)
theorem J_jn {β : Type} {body : (β → Option α) → Option α} {kk : β → Option α} {m : Nat} {Lf : β → List (Nat × Value)} {sf : β → List Value} {Xf : β → σ} (h1 : ∀ v, J V E fin (kk v) m (Lf v) (sf v) (Xf v)) (h2 : (∀ v, J V E fin (kk v) m (Lf v) (sf v) (Xf v)) → J V E fin (body kk) pc L st X) : J V E fin (jn body kk) pc L st X := h2 h1
end JR
