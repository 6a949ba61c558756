/-! Views: where the pure state lies in the heap; rules for fields, arrays, calls. -/
abbrev M2 : Type := Nat → Nat → Int32
/-- out of bounds: no answer -/
def bnd {α : Type} (i : Int32) (n : Nat) (o : Option α) : Option α := if i < 0 ∨ n ≤ i.toNatClampNeg then none else o
/-- a world seen through a part of the state -/
def jj_sub {σ τ : Type} (V : JV σ) (e : τ → σ) : JV τ := (V.1, V.2.1, V.2.2.1, fun t => V.2.2.2.1 (e t), V.2.2.2.2.1, V.2.2.2.2.2)
def jO {σ : Type} (V : JV σ) (X : σ) (a : Nat) (r : vw_C) (fs : List Value) : Prop := ∃ q ci : Nat, V.2.1[ci]? = some r ∧ (V.2.2.2.1 X)[q]? = some (a, .inr (ci, fs))
def jA {σ : Type} (V : JV σ) (X : σ) (a n : Nat) (ty : FieldType) (f : Nat → Int32) : Prop := ∃ (q t : Nat) (cA : ClassId), V.2.2.1[t]? = some (cA, ty) ∧ (V.2.2.2.1 X)[q]? = some (a, .inl (cA, n, .inl f))
def jQ {σ : Type} (V : JV σ) (X : σ) (a n : Nat) (C : String) (f : Nat → Option Nat) : Prop := ∃ (q t : Nat) (cA : ClassId), V.2.2.1[t]? = some (cA, .object C) ∧ (V.2.2.2.1 X)[q]? = some (a, .inl (cA, n, .inr (.inr (.inr (.inr f)))))
/-- an object and its arrays, at o and a k, hold the part get X; put writes it. sc: its numbers; ar: its arrays, with length and type -/
def vOb {σ : Type} (V : JV σ) (get : σ → M2) (put : σ → M2 → σ) (o : Nat) (a : Nat → Nat) (r : vw_C) (fs : (Nat → Nat) → M2 → List Value) (sc : List Nat) (ar : List (Nat × Nat × FieldType)) : Prop :=
  (∃ q ci : Nat, V.2.1[ci]? = some r ∧ ∀ X : σ, (V.2.2.2.1 X)[q]? = some (o, .inr (ci, fs a (get X))) ∧ ∀ k ∈ sc, ∀ v : Int32, (V.2.2.2.1 X).set q (o, .inr (ci, (fs a (get X)).set k (.int v))) = V.2.2.2.1 (put X (va_up (get X) k (fun _ => v)))) ∧
  ∀ x ∈ ar, ∃ (q t : Nat) (cA : ClassId), V.2.2.1[t]? = some (cA, x.2.2) ∧ ∀ X : σ, (V.2.2.2.1 X)[q]? = some (a x.1, .inl (cA, x.2.1, .inl (get X x.1))) ∧ ∀ f : Nat → Int32, (V.2.2.2.1 X).set q (a x.1, .inl (cA, x.2.1, .inl f)) = V.2.2.2.1 (put X (va_up (get X) x.1 f))
/-- the same, only to be read: it holds N whatever X is -/
def rOb {σ : Type} (V : JV σ) (o : Nat) (a : Nat → Nat) (r : vw_C) (fs : (Nat → Nat) → M2 → List Value) (ar : List (Nat × Nat × FieldType)) (N : M2) : Prop :=
  (∃ q ci : Nat, V.2.1[ci]? = some r ∧ ∀ X : σ, (V.2.2.2.1 X)[q]? = some (o, .inr (ci, fs a N))) ∧
  ∀ x ∈ ar, ∃ (q t : Nat) (cA : ClassId), V.2.2.1[t]? = some (cA, x.2.2) ∧ ∀ X : σ, (V.2.2.2.1 X)[q]? = some (a x.1, .inl (cA, x.2.1, .inl (N x.1)))
theorem jw_native : (Cond.native arraycopyName : Cond) ∈ jj_tb := jj_m (List.mem_of_getElem? (i := 443) (by decide +kernel)) rfl
theorem jw_nstat : (Cond.static arraycopyName : Cond) ∈ jj_tb := jj_m (List.mem_of_getElem? (i := 442) (by decide +kernel)) rfl
theorem jw_nini : (Cond.initialized "java/lang/System" : Cond) ∈ jj_tb := jj_m (List.mem_of_getElem? (i := 74) (by decide +kernel)) rfl
theorem jw_math : (Cond.initialized "java/lang/Math" : Cond) ∈ jj_tb := jj_m (List.mem_of_getElem? (i := 75) (by decide +kernel)) rfl
theorem jw_minS : (Cond.static Lib.Math.min.name : Cond) ∈ jj_tb := jj_m (List.mem_of_getElem? (i := 529) (by decide +kernel)) rfl
theorem jw_maxS : (Cond.static Lib.Math.max.name : Cond) ∈ jj_tb := jj_m (List.mem_of_getElem? (i := 503) (by decide +kernel)) rfl
theorem jw_minC : (Cond.code Lib.Math.min.name Lib.Math.min.code 2 (some .int) : Cond) ∈ jj_tb := jj_m (List.mem_of_getElem? (i := 530) (by decide +kernel)) rfl
theorem jw_maxC : (Cond.code Lib.Math.max.name Lib.Math.max.code 2 (some .int) : Cond) ∈ jj_tb := jj_m (List.mem_of_getElem? (i := 504) (by decide +kernel)) rfl
section VW
variable {σ τ : Type} {V : JV σ} {get : σ → M2} {put : σ → M2 → σ} {o : Nat} {a : Nat → Nat} {r : vw_C} {fs : (Nat → Nat) → M2 → List Value} {sc : List Nat} {ar : List (Nat × Nat × FieldType)} {N : M2}
theorem vOb.ob (h : vOb V get put o a r fs sc ar) (X : σ) : jO V X o r (fs a (get X)) := by
  obtain ⟨⟨q, ci, h1, h2⟩, -⟩ := h
  exact ⟨q, ci, h1, (h2 X).1⟩
theorem vOb.arr (h : vOb V get put o a r fs sc ar) (k : Nat) {n : Nat} {ty : FieldType} (hk : (k, n, ty) ∈ ar) (X : σ) : jA V X (a k) n ty (get X k) := by
  obtain ⟨q, t, cA, h1, h2⟩ := h.2 _ hk
  exact ⟨q, t, cA, h1, (h2 X).1⟩
theorem rOb.ob (h : rOb V o a r fs ar N) (X : σ) : jO V X o r (fs a N) := by
  obtain ⟨⟨q, ci, h1, h2⟩, -⟩ := h
  exact ⟨q, ci, h1, h2 X⟩
theorem rOb.arr (h : rOb V o a r fs ar N) (k : Nat) {n : Nat} {ty : FieldType} (hk : (k, n, ty) ∈ ar) (X : σ) : jA V X (a k) n ty (N k) := by
  obtain ⟨q, t, cA, h1, h2⟩ := h.2 _ hk
  exact ⟨q, t, cA, h1, h2 X⟩
/-- a view through a part of the state -/
theorem vOb.sub {e : τ → σ} {get' : τ → M2} {put' : τ → M2 → τ} (h : vOb V get put o a r fs sc ar) (hg : ∀ t, get (e t) = get' t) (hp : ∀ t S, put (e t) S = e (put' t S)) : vOb (jj_sub V e) get' put' o a r fs sc ar := by
  obtain ⟨⟨q, ci, h1, h2⟩, h3⟩ := h
  refine ⟨⟨q, ci, h1, fun t => ⟨?_, fun k hk v => ?_⟩⟩, fun x hx => ?_⟩
  · rw [← hg t]; exact (h2 (e t)).1
  · have z := (h2 (e t)).2 k hk v
    rw [hp, hg] at z
    exact z
  · obtain ⟨q, t0, cA, g1, g2⟩ := h3 x hx
    refine ⟨q, t0, cA, g1, fun t => ⟨?_, fun f => ?_⟩⟩
    · rw [← hg t]; exact (g2 (e t)).1
    · have z := (g2 (e t)).2 f
      rw [hp, hg] at z
      exact z
theorem vOb.read {e : τ → σ} (h : vOb V get put o a r fs sc ar) (hg : ∀ t, get (e t) = N) : rOb (jj_sub V e) o a r fs ar N := by
  obtain ⟨⟨q, ci, h1, h2⟩, h3⟩ := h
  refine ⟨⟨q, ci, h1, fun t => ?_⟩, fun x hx => ?_⟩
  · rw [← hg t]; exact (h2 (e t)).1
  · obtain ⟨q, t0, cA, g1, g2⟩ := h3 x hx
    exact ⟨q, t0, cA, g1, fun t => by rw [← hg t]; exact (g2 (e t)).1⟩
theorem rOb.sub {e : τ → σ} (h : rOb V o a r fs ar N) : rOb (jj_sub V e) o a r fs ar N := by
  obtain ⟨⟨q, ci, h1, h2⟩, h3⟩ := h
  refine ⟨⟨q, ci, h1, fun t => h2 (e t)⟩, fun x hx => ?_⟩
  obtain ⟨q, t0, cA, g1, g2⟩ := h3 x hx
  exact ⟨q, t0, cA, g1, fun t => g2 (e t)⟩
end VW
/-- a class's words, its fields' types, its names apart -/
def jcl (r : vw_C) (ty : Nat → FieldType) : Prop := (∀ w ∈ u_ws r.1 r.2.1 r.2.2, w ∈ jj_tb) ∧ (∀ k, k < r.2.2 → parseFieldDescriptor (r.2.1 k).2.2.1 = some (ty k)) ∧ ∀ a, a < r.2.2 → ∀ b, b < r.2.2 → a ≠ b → (r.2.1 a).2.1 ≠ (r.2.1 b).2.1
/-- a method's words -/
def jmS (y : MethodName) (cc : ByteArray) (n : Nat) (ret : Option FieldType) (k : Nat) : Prop := Cond.code y cc n ret ∈ jj_tb ∧ Cond.initialized y.cls ∈ jj_tb ∧ (y.cls ≠ "java/lang/invoke/MethodHandle" ∧ y.cls ≠ "java/lang/invoke/VarHandle") ∧ (parseMethodDescriptor y.desc).map (fun d => d.parameters.length) = some k
def jmV (y : MethodName) (cc : ByteArray) (n : Nat) (ret : Option FieldType) (k : Nat) : Prop := jmS y cc n ret k ∧ Cond.instanceMethod y ∈ jj_tb ∧ Cond.selects y.cls y y ∈ jj_tb
def jj_i (r : Int32) : Option Value := some (.int r)
def jj_l (r : Int64) : Option Value := some (.long r)
def jj_v (_ : Unit) : Option Value := none
theorem JC.lift {σ τ ρ : Type} {l : Launch} {V : JV σ} {e : τ → σ} {y : MethodName} {cc : ByteArray} {n : Nat} {ret : Option FieldType} {enc : ρ → Option Value} {d : Nat} {av : List Value} {t : τ} {o : Option (ρ × τ)} (h : JC l (jj_sub V e) y cc n ret enc d av t o) : JC l V y cc n ret enc d av (e t) (o.map (fun q => (q.1, e q.2))) := by
  intro res ho sz
  cases o with
  | none => cases ho
  | some q =>
    cases ho
    exact h q rfl sz
section JV
variable {σ ρ : Type} {V : JV σ} {E : JE σ ρ} {cc : ByteArray} {own : String} {n d : Nat} {ret : Option FieldType} {enc : ρ → Option Value} {α : Type} {fin : α → ρ × σ} {o : Option α} {pc pc' : Nat} {L L' : List (Nat × Value)} {st : List Value} {X : σ}
theorem J_get (hE : JOk V E cc own n d ret enc) {a : Nat} {C : String} {T : u_T} {N ix : Nat} {ty : Nat → FieldType} {fs : List Value} {v : Value} (hO : jO V X a (C, T, N) fs) (hc : jcl (C, T, N) ty) (k : Nat) (hk : k < N) (hl : Cond.fieldLink own ix (T k).1 (T k).2.1 (T k).2.2.1 ∈ jj_tb) (hv : fs[k]? = some v) (hd : jd cc pc (.getfield ix) 3 pc') (kk : J V E fin o pc' L (v :: st) X) : J V E fin o pc L (.ref a :: st) X := by
  obtain ⟨p, l, e, R, s, m, args, below, meth, c, nL, A, cn, sn, Q, res⟩ := E
  obtain ⟨hx, hb, ⟨hml, hnL⟩, hown, hts, hR, hK, hA, hSt, hq⟩ := hE
  obtain ⟨hd, rfl⟩ := hd
  obtain ⟨q0, ci, h1, h2⟩ := hO
  intro ho H locs ls hP hD hS hl'
  exact va_get hx hb hts hc.1 hown hK hP q0 h2 h1 k hk (hts _ hl) (fun _ h => h) hv hd (kk ho H locs ls hP hD hS hl')
theorem J_put (hE : JOk V E cc own n d ret enc) {get : σ → M2} {put : σ → M2 → σ} {b : Nat} {a : Nat → Nat} {C : String} {T : u_T} {N ix : Nat} {fs : (Nat → Nat) → M2 → List Value} {sc : List Nat} {ar : List (Nat × Nat × FieldType)} {ty : Nat → FieldType} {v : Int32} (hO : vOb V get put b a (C, T, N) fs sc ar) (hc : jcl (C, T, N) ty) (k : Nat) (hk : k < N) (hs : k ∈ sc) (hl : Cond.fieldLink own ix (T k).1 (T k).2.1 (T k).2.2.1 ∈ jj_tb) (hfin : (T k).2.2.2 = false) (hn : narrow (ty k) (.int v) = .int v) (hfit : fits (ty k) (.int v) = true) (hlen : k < (fs a (get X)).length) (hd : jd cc pc (.putfield ix) 3 pc') (kk : J V E fin o pc' L st (put X (va_up (get X) k (fun _ => v)))) : J V E fin o pc L (.int v :: .ref b :: st) X := by
  obtain ⟨p, l, e, R, s, m, args, below, meth, c, nL, A, cn, sn, Q, res⟩ := E
  obtain ⟨hx, hb, ⟨hml, hnL⟩, hown, hts, hR, hK, hA, hSt, hq⟩ := hE
  obtain ⟨hd, rfl⟩ := hd
  obtain ⟨⟨q0, ci, h1, h2⟩, -⟩ := hO
  intro ho H locs ls hP hD hS hl'
  refine va_put hx hb hts hc.1 ty hc.2.1 hc.2.2 hown hK hP hD hS q0 (h2 X).1 h1 k hk (hts _ hl) (fun _ h => h) hfin (hc.2.1 k hk) hn hfit hlen hd (fun H1 locs1 hP1 hD1 hS1 => ?_)
  rw [(h2 X).2 k hs v] at hP1 hD1
  exact kk ho H1 locs1 ls hP1 hD1 hS1 hl'
theorem J_ald (hE : JOk V E cc own n d ret enc) {a N : Nat} {f : Nat → Int32} {i : Int32} (hAr : jA V X a N .int f) (hd : jd cc pc .iaload 1 pc') (kk : J V E fin o pc' L (.int (f i.toNatClampNeg) :: st) X) : J V E fin (bnd i N o) pc L (.int i :: .ref a :: st) X := by
  obtain ⟨p, l, e, R, s, m, args, below, meth, c, nL, A, cn, sn, Q, res⟩ := E
  obtain ⟨hx, hb, ⟨hml, hnL⟩, hown, hts, hR, hK, hA, hSt, hq⟩ := hE
  obtain ⟨hd, rfl⟩ := hd
  obtain ⟨q0, t, cA, h1, h2⟩ := hAr
  intro ho H locs ls hP hD hS hl'
  unfold bnd at ho
  by_cases h : i < 0 ∨ N ≤ i.toNatClampNeg
  · rw [if_pos h] at ho; exact absurd ho (by simp)
  · rw [if_neg h] at ho
    exact va_iald hx hb hK hP q0 t h2 h1 h hd (kk ho H locs ls hP hD hS hl')
theorem J_zald (hE : JOk V E cc own n d ret enc) {a N : Nat} {f : Nat → Int32} {i : Int32} (hAr : jA V X a N .boolean f) (hd : jd cc pc .baload 1 pc') (kk : J V E fin o pc' L (.int (f i.toNatClampNeg) :: st) X) : J V E fin (bnd i N o) pc L (.int i :: .ref a :: st) X := by
  obtain ⟨p, l, e, R, s, m, args, below, meth, c, nL, A, cn, sn, Q, res⟩ := E
  obtain ⟨hx, hb, ⟨hml, hnL⟩, hown, hts, hR, hK, hA, hSt, hq⟩ := hE
  obtain ⟨hd, rfl⟩ := hd
  obtain ⟨q0, t, cA, h1, h2⟩ := hAr
  intro ho H locs ls hP hD hS hl'
  unfold bnd at ho
  by_cases h : i < 0 ∨ N ≤ i.toNatClampNeg
  · rw [if_pos h] at ho; exact absurd ho (by simp)
  · rw [if_neg h] at ho
    exact va_zald hx hb hK hP q0 t h2 h1 h hd (kk ho H locs ls hP hD hS hl')
theorem J_qld (hE : JOk V E cc own n d ret enc) {a N : Nat} {C : String} {f : Nat → Option Nat} {i : Int32} (hAr : jQ V X a N C f) (hd : jd cc pc .aaload 1 pc') (kk : ¬ (i < 0 ∨ N ≤ i.toNatClampNeg) → J V E fin o pc' L (va_rf (f i.toNatClampNeg) :: st) X) : J V E fin (bnd i N o) pc L (.int i :: .ref a :: st) X := by
  obtain ⟨p, l, e, R, s, m, args, below, meth, c, nL, A, cn, sn, Q, res⟩ := E
  obtain ⟨hx, hb, ⟨hml, hnL⟩, hown, hts, hR, hK, hA, hSt, hq⟩ := hE
  obtain ⟨hd, rfl⟩ := hd
  obtain ⟨q0, t, cA, h1, h2⟩ := hAr
  intro ho H locs ls hP hD hS hl'
  unfold bnd at ho
  by_cases h : i < 0 ∨ N ≤ i.toNatClampNeg
  · rw [if_pos h] at ho; exact absurd ho (by simp)
  · rw [if_neg h] at ho
    exact va_aldq hx hb hK hP q0 t h2 h1 h hd (kk h ho H locs ls hP hD hS hl')
theorem J_ast (hE : JOk V E cc own n d ret enc) {get : σ → M2} {put : σ → M2 → σ} {b : Nat} {a : Nat → Nat} {r : vw_C} {fs : (Nat → Nat) → M2 → List Value} {sc : List Nat} {ar : List (Nat × Nat × FieldType)} {N : Nat} {i v : Int32} (hO : vOb V get put b a r fs sc ar) (k : Nat) (hk : (k, N, .int) ∈ ar) (hd : jd cc pc .iastore 1 pc') (kk : J V E fin o pc' L st (put X (va_up (get X) k (upd (get X k) i.toNatClampNeg v)))) : J V E fin (bnd i N o) pc L (.int v :: .int i :: .ref (a k) :: st) X := by
  obtain ⟨p, l, e, R, s, m, args, below, meth, c, nL, A, cn, sn, Q, res⟩ := E
  obtain ⟨hx, hb, ⟨hml, hnL⟩, hown, hts, hR, hK, hA, hSt, hq⟩ := hE
  obtain ⟨hd, rfl⟩ := hd
  obtain ⟨q0, t, cA, h1, h2⟩ := hO.2 _ hk
  intro ho H locs ls hP hD hS hl'
  unfold bnd at ho
  by_cases h : i < 0 ∨ N ≤ i.toNatClampNeg
  · rw [if_pos h] at ho; exact absurd ho (by simp)
  · rw [if_neg h] at ho
    refine va_iast hx hb hK hP hD hS q0 t (h2 X).1 h1 h hd (fun H1 locs1 hP1 hD1 hS1 => ?_)
    rw [(h2 X).2] at hP1 hD1
    exact kk ho H1 locs1 ls hP1 hD1 hS1 hl'
theorem J_zast (hE : JOk V E cc own n d ret enc) {get : σ → M2} {put : σ → M2 → σ} {b : Nat} {a : Nat → Nat} {r : vw_C} {fs : (Nat → Nat) → M2 → List Value} {sc : List Nat} {ar : List (Nat × Nat × FieldType)} {N : Nat} {i v : Int32} (hO : vOb V get put b a r fs sc ar) (k : Nat) (hk : (k, N, .boolean) ∈ ar) (hz : vp_nar .boolean v = v) (hd : jd cc pc .bastore 1 pc') (kk : J V E fin o pc' L st (put X (va_up (get X) k (upd (get X k) i.toNatClampNeg v)))) : J V E fin (bnd i N o) pc L (.int v :: .int i :: .ref (a k) :: st) X := by
  obtain ⟨p, l, e, R, s, m, args, below, meth, c, nL, A, cn, sn, Q, res⟩ := E
  obtain ⟨hx, hb, ⟨hml, hnL⟩, hown, hts, hR, hK, hA, hSt, hq⟩ := hE
  obtain ⟨hd, rfl⟩ := hd
  obtain ⟨q0, t, cA, h1, h2⟩ := hO.2 _ hk
  intro ho H locs ls hP hD hS hl'
  unfold bnd at ho
  by_cases h : i < 0 ∨ N ≤ i.toNatClampNeg
  · rw [if_pos h] at ho; exact absurd ho (by simp)
  · rw [if_neg h] at ho
    refine va_zast hx hb hK hP hD hS q0 t (h2 X).1 h1 h hd (fun H1 locs1 hP1 hD1 hS1 => ?_)
    rw [hz, (h2 X).2] at hP1 hD1
    exact kk ho H1 locs1 ls hP1 hD1 hS1 hl'
/-- System.arraycopy from place 0 to place 0 -/
theorem J_copy (hE : JOk V E cc own n d ret enc) {get : σ → M2} {put : σ → M2 → σ} {b a0 ix : Nat} {a : Nat → Nat} {r : vw_C} {fs : (Nat → Nat) → M2 → List Value} {sc : List Nat} {ar : List (Nat × Nat × FieldType)} {N : Nat} {f : Nat → Int32} {z : Int32} (hO : vOb V get put b a r fs sc ar) (k : Nat) (hk : (k, N, .int) ∈ ar) (hAr : jA V X a0 N .int f) (hz : z.toNatClampNeg = N) (hz0 : ¬ z < 0) (hl : Cond.methodLink own ix arraycopyName ∈ jj_tb) (hs : (st.map fun v => v.category).sum + 30 ≤ 60 * d) (hd1 : 1 ≤ d) (hd : jd cc pc (.invokestatic ix) 3 pc') (kk : J V E fin o pc' L st (put X (va_up (get X) k (va_cpy f (get X k) 0 0 N)))) : J V E fin o pc L (.int z :: .int 0 :: .ref (a k) :: .int 0 :: .ref a0 :: st) X := by
  obtain ⟨p, l, e, R, s, m, args, below, meth, c, nL, A, cn, sn, Q, res⟩ := E
  obtain ⟨hx, hb, ⟨hml, hnL⟩, hown, hts, hR, hK, hA, hSt, hq⟩ := hE
  obtain ⟨hd, rfl⟩ := hd
  obtain ⟨q0, t0, c0, g1, g2⟩ := hAr
  obtain ⟨q1, t1, c1, h1, h2⟩ := hO.2 _ hk
  intro ho H locs ls hP hD hS hl'
  refine va_copyi hx hb (by rw [hml, ← hnL]; exact hl'.1.symm) hown (hts _ hl) (hts _ jw_native) (hts _ jw_nstat) (hts _ jw_nini) hK hP hD hS q0 q1 t0 t1 g2 (h2 X).1 g1 h1 rfl (by decide) (by decide) hz0 (by rw [hz]; exact Nat.le_of_eq (Nat.zero_add _)) (by rw [hz]; exact Nat.le_of_eq (Nat.zero_add _)) (fun _ _ => rfl) (Nat.le_trans hd1 hR.1) (Nat.le_trans (Nat.le_trans (Nat.add_le_add_left (by decide +kernel) _) hs) hR.2.1) hd (fun H1 locs1 hP1 hD1 hS1 => ?_)
  rw [hz, (h2 X).2] at hP1 hD1
  exact kk ho H1 locs1 ls hP1 hD1 hS1 hl'
theorem J_min (hE : JOk V E cc own n d ret enc) {ix : Nat} {x y : Int32} (hl : Cond.methodLink own ix Lib.Math.min.name ∈ jj_tb) (hs : (st.map fun v => v.category).sum + 13 ≤ 60 * d) (hd1 : 1 ≤ d) (hd : jd cc pc (.invokestatic ix) 3 pc') (kk : J V E fin o pc' L (.int (if y < x then y else x) :: st) X) : J V E fin o pc L (.int y :: .int x :: st) X := by
  obtain ⟨p, l, e, R, s, m, args, below, meth, c, nL, A, cn, sn, Q, res⟩ := E
  obtain ⟨hx, hb, ⟨hml, hnL⟩, hown, hts, hR, hK, hA, hSt, hq⟩ := hE
  obtain ⟨hd, rfl⟩ := hd
  intro ho H locs ls hP hD hS hl'
  exact va_mmin hx hb (by rw [hml, ← hnL]; exact hl'.1.symm) hown (hts _ hl) (hts _ jw_minS) (hts _ jw_math) (hts _ jw_minC) (Nat.le_trans hd1 hR.1) (Nat.le_trans hs hR.2.1) hR.2.2.1 hR.2.2.2 hd (kk ho H locs ls hP hD hS hl')
theorem J_max (hE : JOk V E cc own n d ret enc) {ix : Nat} {x y : Int32} (hl : Cond.methodLink own ix Lib.Math.max.name ∈ jj_tb) (hs : (st.map fun v => v.category).sum + 13 ≤ 60 * d) (hd1 : 1 ≤ d) (hd : jd cc pc (.invokestatic ix) 3 pc') (kk : J V E fin o pc' L (.int (if x < y then y else x) :: st) X) : J V E fin o pc L (.int y :: .int x :: st) X := by
  obtain ⟨p, l, e, R, s, m, args, below, meth, c, nL, A, cn, sn, Q, res⟩ := E
  obtain ⟨hx, hb, ⟨hml, hnL⟩, hown, hts, hR, hK, hA, hSt, hq⟩ := hE
  obtain ⟨hd, rfl⟩ := hd
  intro ho H locs ls hP hD hS hl'
  exact va_mmax hx hb (by rw [hml, ← hnL]; exact hl'.1.symm) hown (hts _ hl) (hts _ jw_maxS) (hts _ jw_math) (hts _ jw_maxC) (Nat.le_trans hd1 hR.1) (Nat.le_trans hs hR.2.1) hR.2.2.1 hR.2.2.2 hd (kk ho H locs ls hP hD hS hl')
end JV
section CL
variable {σ ρ ρ' α : Type} {fin : α → ρ × σ} {V : JV σ} {E : JE σ ρ} {cc : ByteArray} {own : String} {n d : Nat} {ret : Option FieldType} {enc : ρ → Option Value} {pc pc' : Nat} {L L' : List (Nat × Value)} {st : List Value} {X : σ}
theorem jj_blind {Pq : State → Prop} {av : List Value} (h : ∀ (a : Array Value) (U : State) (g : JFrame) (mk : MethodId), Pq U → Pq (U.calling g mk a)) : FrameBlind (va_Pc av Pq) := fun a U g mk q => ⟨q.1, h a U g mk q.2⟩
theorem jj_St.to {K Z : Nat → Nat} {A B : Nat → Prop} {s U : State} {H : Heap} {locs : List Loc} (h : jj_St K Z A s s.heap) (hS : va_S A s.heap H locs) (hAB : ∀ q, B q → A q) (hW : s.WarmedH U.vm) (hU : U.heap = H) : jj_St K Z B U U.heap := by
  rw [hU]
  exact ⟨((h.1.kept hS.2.1).narrow hAB).moved hW.alike, fun i hi => (h.2.1 i hi).warm hW, fun q hq => (h.2.2.1 q hq).warmM hW, ((h.2.2.2.1.kept hS.2.1).narrow hAB).moved hW.alike, ((h.2.2.2.2.kept hS.2.1).narrow hAB).moved hW.alike⟩
theorem jj_St.calling {K Z : Nat → Nat} {A : Nat → Prop} {U : State} {H : Heap} {g : JFrame} {mk : MethodId} {a : Array Value} (h : jj_St K Z A U H) : jj_St K Z A (U.calling g mk a) H :=
  ⟨h.1.moved (Vm.Alike.refl U.vm), fun i hi => (h.2.1 i hi).same rfl, fun q hq => (h.2.2.1 q hq).same rfl rfl, h.2.2.2.1.moved (Vm.Alike.refl U.vm), h.2.2.2.2.moved (Vm.Alike.refl U.vm)⟩
/-- what a callee's start asks, at a caller's state -/
theorem jj_pre {K Z : Nat → Nat} {D : va_G} {cl : List vw_C} {tys : List (ClassId × FieldType)} {ws : va_W} {A : Nat → Prop} {s : State} {H : Heap} {locs : List Loc} {av : List Value} (hK : va_K D cl tys s) (hSt : jj_St K Z A s s.heap) (hA : ∀ q : Nat, s.heap.size ≤ q → A q) (hP : va_P D cl ws H) (hD : va_D A ws) (hS : va_S A s.heap H locs) :
    PreS s H (va_Pc av (fun U => U.heap.size = H.size ∧ va_P D cl ws U.heap ∧ va_K D cl tys U ∧ va_D (fun _ => True) ws ∧ jj_St K Z (va_A ws H.size) U U.heap)) av := by
  refine ⟨jj_blind (fun a U g mk q => ?_), fun U hU hW => ⟨rfl, by rw [hU], by rw [hU]; exact hP, va_K.moved hW.alike hK, hD.weaken (fun _ _ _ _ => trivial), hSt.to hS (fun q h => ?_) hW hU⟩⟩
  · obtain ⟨q1, q2, q3, q4, q5⟩ := q
    exact ⟨q1, q2, va_K.moved (u := U) (U := U.calling g mk a) (Vm.Alike.refl U.vm) q3, q4, q5.calling⟩
  · rcases h with ⟨k, e, h⟩ | h
    · exact hD.2 k _ h
    · exact hA q (Nat.le_trans hS.1 h)
theorem jj_back {p : Program} {l : Launch} {e : Env} {R : Room} {s : State} {m : MethodId} {args : Array Value} {below : List Frame} {meth : Method} {c : Code} {H : Heap} {locs : List Loc} {Q : State → Prop} {ls : Array Slot} {rest st0 : List Value} {A A1 : Nat → Prop} {v0 : Option Value} {cn sn : Nat} {D : va_G} {cl : List vw_C} {tys : List (ClassId × FieldType)} {ws : va_W} {free : Addr → Prop}
    (hr : va_Run p l e R s m args below meth c H locs cn sn 0 0 (F0 m pc ls st0) rest (fun st oc t => (oc = .returned v0 ∧ va_P D cl ws t.heap ∧ va_K D cl tys t ∧ va_D A1 ws) ∧ va_F A1 st t) free) (hS : va_S A s.heap H locs) (hA : ∀ q, A1 q → A q) (hf : ∀ q, free q → A q)
    (kk : ∀ (H1 : Heap) (locs1 : List Loc), va_P D cl ws H1 → va_D A ws → va_S A s.heap H1 locs1 → W p l e R s m args below meth c H1 locs1 cn sn Q (F0 m (pc + 3) ls (v0.toList ++ rest))) : W p l e R s m args below meth c H locs cn sn Q (F0 m pc ls st0) := by
  intro T hT X
  obtain ⟨v, st₀, t, T', Lc, h0, X', hL, e1, e2, ⟨⟨hv, hp, hk, hd⟩, hz, hkk⟩, stp⟩ := hr T hT X
  cases hv
  rw [h0] at hz hkk
  obtain ⟨t2, a1, b1⟩ := kk T'.heap (locs ++ Lc) (by rw [e1]; exact hp) (hd.weaken (fun _ q _ h => hA q.1 h))
    ⟨Nat.le_trans hS.1 (by rw [e1]; exact hz), fun q h1 h2 => by rw [e1, hkk q (Nat.lt_of_lt_of_le h1 hS.1) (fun z => h2 (hA q z))]; exact hS.2.1 q h1 h2, fun q hq => by
      rcases List.mem_append.mp hq with h | h
      · exact hS.2.2 q h
      · exact hf _ (hL q h)⟩ T' rfl X'
  exact ⟨t2, stp t2 a1, b1⟩
theorem jj_goodV {own : String} {ix : Nat} {y : MethodName} {cc : ByteArray} {n k : Nat} {ret : Option FieldType} (hm : jmV y cc n ret k) (hl : Cond.methodLink own ix y ∈ jj_tb) : GoodIn jj_tb (wsV own ix y.cls y (.code y cc n ret :: jj_tb)) := by
  obtain ⟨⟨m1, m2, -⟩, m3, m4⟩ := hm
  refine jj_g1 (fun w hw => ?_)
  simp only [wsV, List.cons_append, List.nil_append, List.mem_cons] at hw
  rcases hw with rfl | rfl | rfl | rfl | rfl | h
  · exact hl
  · exact m3
  · exact m4
  · exact m2
  · exact m1
  · exact h
theorem jj_goodS {own : String} {ix : Nat} {y : MethodName} {cc : ByteArray} {n k : Nat} {ret : Option FieldType} (hm : jmS y cc n ret k) (hst : Cond.static y ∈ jj_tb) (hl : Cond.methodLink own ix y ∈ jj_tb) : GoodIn jj_tb (va_wsS own ix y (.code y cc n ret :: jj_tb)) := by
  obtain ⟨m1, m2, -⟩ := hm
  refine jj_g1 (fun w hw => ?_)
  simp only [va_wsS, List.cons_append, List.nil_append, List.mem_cons] at hw
  rcases hw with rfl | rfl | rfl | rfl | h
  · exact hl
  · exact hst
  · exact m2
  · exact m1
  · exact h
theorem jj_good0 {y : MethodName} {cc : ByteArray} {n k : Nat} {ret : Option FieldType} (hm : jmS y cc n ret k) : GoodIn jj_tb (.code y cc n ret :: jj_tb) := jj_g1 (fun w hw => by
  rcases List.mem_cons.mp hw with rfl | h
  · exact hm.1
  · exact h)
theorem jj_room {d d' n' : Nat} {R : Room} (h : d' + 1 ≤ d) (h2 : n' ≤ 41) (hR : d ≤ R.frames ∧ 60 * d ≤ R.locals) : (jj_R d').frames + 1 ≤ R.frames ∧ 8 + (n' + 11) + (jj_R d').locals ≤ R.locals := ⟨Nat.le_trans h hR.1, by show 8 + (n' + 11) + 60 * d' ≤ R.locals; have := hR.2; omega⟩
theorem J_invV (hE : JOk V E cc own n d ret enc) {y : MethodName} {cc' : ByteArray} {n' d' k ix b : Nat} {ret' : Option FieldType} {enc' : ρ' → Option Value} {As : List Value} {β : Type} {fin1 : β → ρ' × σ} {o1 : Option β} {K : β → Option α} {T : u_T} {N : Nat} {fs : List Value} {stk : List Value}
    (hC : JC E.2.1 V y cc' n' ret' enc' d' (.ref b :: As) X (o1.map fin1)) (hO : jO V X b (y.cls, T, N) fs) (hm : jmV y cc' n' ret' k) (hk : As.length = k) (hl : Cond.methodLink own ix y ∈ jj_tb) (hdd : d' + 1 ≤ d) (hn' : n' ≤ 41) (hst : stk = As.reverse ++ .ref b :: st) (hcat : (st.map fun v => v.category).sum ≤ 8) (hd : jd cc pc (.invokevirtual ix) 3 pc')
    (kk : ∀ q : β, o1 = some q → J V E fin (K q) pc' L ((enc' (fin1 q).1).toList ++ st) (fin1 q).2) : J V E fin (o1.bind K) pc L stk X := by
  obtain ⟨p, l, e, R, s, m, args, below, meth, c, nL, A, cn, sn, Q, res⟩ := E
  obtain ⟨hx, hb, ⟨hml, hnL⟩, hown, hts, hR, hK, hA, hSt, hq⟩ := hE
  obtain ⟨hd, rfl⟩ := hd
  obtain ⟨q0, ci, g1, g2⟩ := hO
  subst hst
  intro ho H locs ls hP hD hS hl'
  cases hq1 : o1 with
  | none => rw [hq1] at ho; exact absurd ho (by simp)
  | some q =>
    rw [hq1] at ho
    have hpre := jj_pre (av := Value.ref b :: As) hK hSt hA hP hD hS
    have hfr : ∀ x, va_A (V.2.2.2.1 X) H.size x → A x := fun x h => by
      rcases h with ⟨k, e, h⟩ | h
      · exact hD.2 k _ h
      · exact hA x (Nat.le_trans hS.1 h)
    refine jj_back (va_runV (nL := nL) (As := As) (rest := st) ⟨hx, hb, by rw [hml, hnL], hown, hts⟩ (hC (fin1 q) (by rw [hq1]; rfl) H.size) (cwV k hts (jj_goodV hm hl) rfl rfl rfl ⟨rfl, hm.1.2.2.1.1, hm.1.2.2.1.2, hm.1.2.2.2⟩ (jj_room hdd hn' ⟨hR.1, hR.2.1⟩)) ⟨hpre.1, va_recv hK hP g1 g2, hpre.2⟩ rfl hk hl'.1 rfl (lv_room (pc := pc) (ls := ls) (rest := As.reverse ++ .ref b :: st) (m := m) hcat) hd ⟨hR.2.2.1, hR.2.2.2⟩) hS hfr hfr (fun H1 locs1 hP1 hD1 hS1 => ?_)
    exact kk q hq1 ho H1 locs1 ls hP1 hD1 hS1 hl'
theorem J_invS (hE : JOk V E cc own n d ret enc) {y : MethodName} {cc' : ByteArray} {n' d' k ix : Nat} {ret' : Option FieldType} {enc' : ρ' → Option Value} {As : List Value} {β : Type} {fin1 : β → ρ' × σ} {o1 : Option β} {K : β → Option α} {stk : List Value}
    (hC : JC E.2.1 V y cc' n' ret' enc' d' As X (o1.map fin1)) (hm : jmS y cc' n' ret' k) (hsta : Cond.static y ∈ jj_tb) (hk : As.length = k) (hl : Cond.methodLink own ix y ∈ jj_tb) (hdd : d' + 1 ≤ d) (hn' : n' ≤ 41) (hst : stk = As.reverse ++ st) (hcat : (st.map fun v => v.category).sum ≤ 8) (hd : jd cc pc (.invokestatic ix) 3 pc')
    (kk : ∀ q : β, o1 = some q → J V E fin (K q) pc' L ((enc' (fin1 q).1).toList ++ st) (fin1 q).2) : J V E fin (o1.bind K) pc L stk X := by
  obtain ⟨p, l, e, R, s, m, args, below, meth, c, nL, A, cn, sn, Q, res⟩ := E
  obtain ⟨hx, hb, ⟨hml, hnL⟩, hown, hts, hR, hK, hA, hSt, hq⟩ := hE
  obtain ⟨hd, rfl⟩ := hd
  subst hst
  intro ho H locs ls hP hD hS hl'
  cases hq1 : o1 with
  | none => rw [hq1] at ho; exact absurd ho (by simp)
  | some q =>
    rw [hq1] at ho
    have hpre := jj_pre (av := As) hK hSt hA hP hD hS
    have hfr : ∀ x, va_A (V.2.2.2.1 X) H.size x → A x := fun x h => by
      rcases h with ⟨k, e, h⟩ | h
      · exact hD.2 k _ h
      · exact hA x (Nat.le_trans hS.1 h)
    refine jj_back (va_runS (nL := nL) (As := As) (rest := st) ⟨hx, hb, by rw [hml, hnL], hown, hts⟩ (hC (fin1 q) (by rw [hq1]; rfl) H.size) (va_cwS k hts (jj_goodS hm hsta hl) rfl rfl rfl ⟨hm.2.2.1.1, hm.2.2.1.2, hm.2.2.2⟩ (jj_room hdd hn' ⟨hR.1, hR.2.1⟩)) hpre rfl hk hl'.1 rfl (lv_room (pc := pc) (ls := ls) (rest := As.reverse ++ st) (m := m) hcat) hd ⟨hR.2.2.1, hR.2.2.2⟩) hS hfr hfr (fun H1 locs1 hP1 hD1 hS1 => ?_)
    exact kk q hq1 ho H1 locs1 ls hP1 hD1 hS1 hl'
theorem J_invN (hE : JOk V E cc own n d ret enc) {y : MethodName} {host : String} {cc' : ByteArray} {n' d' k ix : Nat} {ret' : Option FieldType} {enc' : ρ' → Option Value} {As : List Value} {β : Type} {fin1 : β → ρ' × σ} {o1 : Option β} {K : β → Option α} {stk : List Value}
    (hC : JC E.2.1 V y cc' n' ret' enc' d' As X (o1.map fin1)) (hm : jmS y cc' n' ret' k) (hsta : Cond.static y ∈ jj_tb) (hk : As.length = k) (hl : (own, ix, y, host) ∈ jj_nest) (hdd : d' + 1 ≤ d) (hn' : n' ≤ 41) (hst : stk = As.reverse ++ st) (hcat : (st.map fun v => v.category).sum ≤ 8) (hd : jd cc pc (.invokestatic ix) 3 pc')
    (kk : ∀ q : β, o1 = some q → J V E fin (K q) pc' L ((enc' (fin1 q).1).toList ++ st) (fin1 q).2) : J V E fin (o1.bind K) pc L stk X := by
  obtain ⟨p, l, e, R, s, m, args, below, meth, c, nL, A, cn, sn, Q, res⟩ := E
  obtain ⟨hx, hb, ⟨hml, hnL⟩, hown, hts, hR, hK, hA, hSt, hq⟩ := hE
  obtain ⟨hd, rfl⟩ := hd
  subst hst
  intro ho H locs ls hP hD hS hl'
  cases hq1 : o1 with
  | none => rw [hq1] at ho; exact absurd ho (by simp)
  | some q =>
    rw [hq1] at ho
    have hpre := jj_pre (av := As) hK hSt hA hP hD hS
    have hfr : ∀ x, va_A (V.2.2.2.1 X) H.size x → A x := fun x h => by
      rcases h with ⟨k, e, h⟩ | h
      · exact hD.2 k _ h
      · exact hA x (Nat.le_trans hS.1 h)
    refine jj_back (va_runSN (nL := nL) (host := host) (As := As) (rest := st) ⟨hx, hb, by rw [hml, hnL], hown, hts⟩ (hC (fin1 q) (by rw [hq1]; rfl) H.size) ⟨va_cnB k hts (jj_good0 hm) rfl rfl rfl (hSt.2.2.1 _ hl) (hts _ hm.2.1) ⟨hm.2.2.1.1, hm.2.2.1.2, hm.2.2.2⟩ (jj_room hdd hn' ⟨hR.1, hR.2.1⟩), hts _ hsta, trivial⟩ hpre rfl hk hl'.1 rfl (lv_room (pc := pc) (ls := ls) (rest := As.reverse ++ st) (m := m) hcat) hd ⟨hR.2.2.1, hR.2.2.2⟩) hS hfr hfr (fun H1 locs1 hP1 hD1 hS1 => ?_)
    exact kk q hq1 ho H1 locs1 ls hP1 hD1 hS1 hl'
end CL
section LF
variable {σ τ ρ ρ' α : Type} {l : Launch} {V : JV σ} {e : τ → σ} {y : MethodName} {cc : ByteArray} {n : Nat} {ret : Option FieldType} {enc : ρ → Option Value} {d : Nat} {av : List Value} {t : τ} {X : σ}
theorem JC.lift_r {o : Option ρ} (h : JC l (jj_sub V e) y cc n ret enc d av t (o.map (fun r => (r, t)))) (he : e t = X) : JC l V y cc n ret enc d av X (o.map (fun r => (r, X))) := by
  subst he
  have z := h.lift
  rw [Option.map_map] at z
  exact z
theorem JC.lift_w {o : Option (ρ × τ)} (h : JC l (jj_sub V e) y cc n ret enc d av t (o.map (fun q => (q.1, q.2)))) (he : e t = X) : JC l V y cc n ret enc d av X (o.map (fun q => (q.1, e q.2))) := by
  subst he
  have z := h.lift
  rw [Option.map_map] at z
  exact z
theorem JC.lift_v {enc : Unit → Option Value} {o : Option τ} (h : JC l (jj_sub V e) y cc n ret enc d av t (o.map (fun q => ((), q)))) (he : e t = X) : JC l V y cc n ret enc d av X (o.map (fun q => ((), e q))) := by
  subst he
  have z := h.lift
  rw [Option.map_map] at z
  exact z
theorem JC_none {α : Type} {fin : α → ρ × σ} : JC l V y cc n ret enc d av X (Option.map fin none) := fun res ho => absurd ho (by simp)
end LF
theorem va_up_up {α : Type} (f : Nat → α) (k : Nat) (v w : α) : va_up (va_up f k v) k w = va_up f k w := by
  funext j
  simp only [va_up]
  split <;> rfl
theorem va_up_eta {α : Type} (f : Nat → α) (k : Nat) : va_up f k (f k) = f := by
  funext j
  simp only [va_up]
  split
  · rename_i h; rw [h]
  · rfl
theorem va_up_comm {α : Type} (f : Nat → α) {j k : Nat} (h : j ≠ k) (v w : α) : va_up (va_up f j v) k w = va_up (va_up f k w) j v := by
  funext i
  simp only [va_up]
  by_cases h1 : i = k
  · subst h1; simp [Ne.symm h]
  · simp [h1]
theorem va_up_eta2 {α : Type} (f : Nat → α) (j k : Nat) : va_up (va_up f j (f j)) k (f k) = f := by rw [va_up_eta, va_up_eta]
def zb {α : Type} (v : Int32) (o : Option α) : Option α := if v = 0 ∨ v = 1 then o else none
section J2
variable {σ ρ α : Type} {fin : α → ρ × σ} {V : JV σ} {E : JE σ ρ} {cc : ByteArray} {own : String} {n d : Nat} {ret : Option FieldType} {enc : ρ → Option Value} {o : Option α} {pc pc' : Nat} {L L' : List (Nat × Value)} {st : List Value} {X : σ}
theorem J_zb {v : Int32} (k : v = 0 ∨ v = 1 → J V E fin o pc L st X) : J V E fin (zb v o) pc L st X := by
  unfold zb
  exact J_ite k (fun _ => J_none)
theorem J_ldcS (hE : JOk V E cc RX3 n d ret enc) {ix : Nat} (hd : jd cc pc (.ldc ix) 2 pc') {k : Nat} (hk : k < 8) (hix : jj_six.getD k 0 = ix) (kk : J V E fin o pc' L (.ref (V.2.2.2.2.1 k) :: st) X) : J V E fin o pc L st X := by
  obtain ⟨p, l, e, R, s, m, args, below, meth, c, nL, A, cn, sn, Q, res⟩ := E
  obtain ⟨hx, hb, ⟨hml, hnL⟩, hown, hts, hR, hK, hA, hSt, hq⟩ := hE
  obtain ⟨hd, rfl⟩ := hd
  subst hix
  intro ho H locs ls hP hD hS hl
  exact va_ldcS hx hb hown (hSt.2.1 k hk) hd (kk ho H locs ls hP hD hS hl)
/-- a call on a String constant -/
theorem J_invK (hE : JOk V E cc own n d ret enc) {y : MethodName} {cc' : ByteArray} {n' d' k ka ix : Nat} {ret' : Option FieldType} {As : List Value} {o1 : Option Int32} {K : Int32 → Option α} {stk : List Value}
    (hC : JC E.2.1 V y cc' n' ret' jj_i d' (.ref (V.2.2.2.2.1 k) :: As) X (o1.map (fun r => (r, X)))) (hk8 : k < 8) (hm : jmV y cc' n' ret' ka) (hyc : y.cls = "java/lang/String") (hk : As.length = ka) (hl : Cond.methodLink own ix y ∈ jj_tb) (hdd : d' + 1 ≤ d) (hn' : n' ≤ 41) (hst : stk = As.reverse ++ .ref (V.2.2.2.2.1 k) :: st) (hcat : (st.map fun v => v.category).sum ≤ 8) (hd : jd cc pc (.invokevirtual ix) 3 pc')
    (kk : ∀ q : Int32, J V E fin (K q) pc' L (.int q :: st) X) : J V E fin (o1.bind K) pc L stk X := by
  obtain ⟨p, l, e, R, s, m, args, below, meth, c, nL, A, cn, sn, Q, res⟩ := E
  obtain ⟨hx, hb, ⟨hml, hnL⟩, hown, hts, hR, hK, hA, hSt, hq⟩ := hE
  obtain ⟨hd, rfl⟩ := hd
  subst hst
  intro ho H locs ls hP hD hS hl'
  cases hq1 : o1 with
  | none => rw [hq1] at ho; exact absurd ho (by simp)
  | some q =>
    rw [hq1] at ho
    have hpre := jj_pre (av := Value.ref (V.2.2.2.2.1 k) :: As) hK hSt hA hP hD hS
    have hfr : ∀ x, va_A (V.2.2.2.1 X) H.size x → A x := fun x h => by
      rcases h with ⟨k, e, h⟩ | h
      · exact hD.2 k _ h
      · exact hA x (Nat.le_trans hS.1 h)
    have hrv := vk_recv hSt.1 hk8 hS
    rw [← hyc] at hrv
    refine jj_back (va_runV (nL := nL) (As := As) (rest := st) ⟨hx, hb, by rw [hml, hnL], hown, hts⟩ (hC (q, X) (by rw [hq1]; rfl) H.size) (cwV ka hts (jj_goodV hm hl) rfl rfl rfl ⟨rfl, hm.1.2.2.1.1, hm.1.2.2.1.2, hm.1.2.2.2⟩ (jj_room hdd hn' ⟨hR.1, hR.2.1⟩)) ⟨hpre.1, hrv, hpre.2⟩ rfl hk hl'.1 rfl (lv_room (pc := pc) (ls := ls) (rest := As.reverse ++ .ref (V.2.2.2.2.1 k) :: st) (m := m) hcat) hd ⟨hR.2.2.1, hR.2.2.2⟩) hS hfr hfr (fun H1 locs1 hP1 hD1 hS1 => ?_)
    exact kk q ho H1 locs1 ls hP1 hD1 hS1 hl'
end J2
section J3
variable {σ1 σ2 ρ α : Type} {fin : α → ρ × (σ1 × σ2)} {V : JV (σ1 × σ2)} {E : JE (σ1 × σ2) ρ} {pc : Nat} {L : List (Nat × Value)} {st : List Value}
theorem J_let1 {f : σ1 → Option α} {e : σ1} {S : σ2} (k : ∀ x, J V E fin (f x) pc L st (x, S)) : J V E fin (lt e f) pc L st (e, S) := k e
theorem J_let2 {f : σ2 → Option α} {e : σ2} {T : σ1} (k : ∀ x, J V E fin (f x) pc L st (T, x)) : J V E fin (lt e f) pc L st (T, e) := k e
theorem J_letP {f : σ1 → σ2 → Option α} {q : σ1 × σ2} (k : ∀ x y, J V E fin (f x y) pc L st (x, y)) : J V E fin (lt q.1 (fun x => lt q.2 (fun y => f x y))) pc L st q := k q.1 q.2
end J3
section CK
variable {σ ρ α : Type} {fin : α → ρ × σ} {V : JV σ} {E : JE σ ρ} {cc : ByteArray} {own : String} {n d : Nat} {ret : Option FieldType} {enc : ρ → Option Value} {pc pc' : Nat} {L : List (Nat × Value)} {st : List Value} {X : σ}
theorem J_invVri (hE : JOk V E cc own n d ret enc) {y : MethodName} {cc' : ByteArray} {n' d' k ix : Nat} {ret' : Option FieldType} {T : u_T} {N : Nat} {fs : List Value} {b : Nat} {As : List Value} {o1 : Option Int32} {K : Int32 → Option α} {stk : List Value} (hC : JC E.2.1 V y cc' n' ret' jj_i d' (.ref b :: As) X (o1.map (fun r => (r, X)))) (hO : jO V X b (y.cls, T, N) fs) (hm : jmV y cc' n' ret' k) (hk : As.length = k) (hl : Cond.methodLink own ix y ∈ jj_tb) (hdd : d' + 1 ≤ d) (hn' : n' ≤ 41) (hst : stk = As.reverse ++ .ref b :: st) (hcat : (st.map fun v => v.category).sum ≤ 8) (hd : jd cc pc (.invokevirtual ix) 3 pc') (kk : ∀ q : Int32, J V E fin (K q) pc' L (.int q :: st) X) : J V E fin (o1.bind K) pc L stk X := J_invV hE hC hO hm hk hl hdd hn' hst hcat hd (fun q _ => kk q)
theorem J_invVrl (hE : JOk V E cc own n d ret enc) {y : MethodName} {cc' : ByteArray} {n' d' k ix : Nat} {ret' : Option FieldType} {T : u_T} {N : Nat} {fs : List Value} {b : Nat} {As : List Value} {o1 : Option Int64} {K : Int64 → Option α} {stk : List Value} (hC : JC E.2.1 V y cc' n' ret' jj_l d' (.ref b :: As) X (o1.map (fun r => (r, X)))) (hO : jO V X b (y.cls, T, N) fs) (hm : jmV y cc' n' ret' k) (hk : As.length = k) (hl : Cond.methodLink own ix y ∈ jj_tb) (hdd : d' + 1 ≤ d) (hn' : n' ≤ 41) (hst : stk = As.reverse ++ .ref b :: st) (hcat : (st.map fun v => v.category).sum ≤ 8) (hd : jd cc pc (.invokevirtual ix) 3 pc') (kk : ∀ q : Int64, J V E fin (K q) pc' L (.long q :: st) X) : J V E fin (o1.bind K) pc L stk X := J_invV hE hC hO hm hk hl hdd hn' hst hcat hd (fun q _ => kk q)
theorem J_invVwi (hE : JOk V E cc own n d ret enc) {y : MethodName} {cc' : ByteArray} {n' d' k ix : Nat} {ret' : Option FieldType} {T : u_T} {N : Nat} {fs : List Value} {b : Nat} {As : List Value} {τ : Type} {e : τ → σ} {o1 : Option (Int32 × τ)} {K : (Int32 × τ) → Option α} {stk : List Value} (hC : JC E.2.1 V y cc' n' ret' jj_i d' (.ref b :: As) X (o1.map (fun q => (q.1, e q.2)))) (hO : jO V X b (y.cls, T, N) fs) (hm : jmV y cc' n' ret' k) (hk : As.length = k) (hl : Cond.methodLink own ix y ∈ jj_tb) (hdd : d' + 1 ≤ d) (hn' : n' ≤ 41) (hst : stk = As.reverse ++ .ref b :: st) (hcat : (st.map fun v => v.category).sum ≤ 8) (hd : jd cc pc (.invokevirtual ix) 3 pc') (kk : ∀ q : (Int32 × τ), J V E fin (K q) pc' L (.int q.1 :: st) (e q.2)) : J V E fin (o1.bind K) pc L stk X := J_invV hE hC hO hm hk hl hdd hn' hst hcat hd (fun q _ => kk q)
theorem J_invVwv (hE : JOk V E cc own n d ret enc) {y : MethodName} {cc' : ByteArray} {n' d' k ix : Nat} {ret' : Option FieldType} {T : u_T} {N : Nat} {fs : List Value} {b : Nat} {As : List Value} {τ : Type} {e : τ → σ} {o1 : Option τ} {K : τ → Option α} {stk : List Value} (hC : JC E.2.1 V y cc' n' ret' jj_v d' (.ref b :: As) X (o1.map (fun q => ((), e q)))) (hO : jO V X b (y.cls, T, N) fs) (hm : jmV y cc' n' ret' k) (hk : As.length = k) (hl : Cond.methodLink own ix y ∈ jj_tb) (hdd : d' + 1 ≤ d) (hn' : n' ≤ 41) (hst : stk = As.reverse ++ .ref b :: st) (hcat : (st.map fun v => v.category).sum ≤ 8) (hd : jd cc pc (.invokevirtual ix) 3 pc') (kk : ∀ q : τ, J V E fin (K q) pc' L (st) (e q)) : J V E fin (o1.bind K) pc L stk X := J_invV hE hC hO hm hk hl hdd hn' hst hcat hd (fun q _ => kk q)
theorem J_invVwl (hE : JOk V E cc own n d ret enc) {y : MethodName} {cc' : ByteArray} {n' d' k ix : Nat} {ret' : Option FieldType} {T : u_T} {N : Nat} {fs : List Value} {b : Nat} {As : List Value} {τ : Type} {e : τ → σ} {o1 : Option (Int64 × τ)} {K : (Int64 × τ) → Option α} {stk : List Value} (hC : JC E.2.1 V y cc' n' ret' jj_l d' (.ref b :: As) X (o1.map (fun q => (q.1, e q.2)))) (hO : jO V X b (y.cls, T, N) fs) (hm : jmV y cc' n' ret' k) (hk : As.length = k) (hl : Cond.methodLink own ix y ∈ jj_tb) (hdd : d' + 1 ≤ d) (hn' : n' ≤ 41) (hst : stk = As.reverse ++ .ref b :: st) (hcat : (st.map fun v => v.category).sum ≤ 8) (hd : jd cc pc (.invokevirtual ix) 3 pc') (kk : ∀ q : (Int64 × τ), J V E fin (K q) pc' L (.long q.1 :: st) (e q.2)) : J V E fin (o1.bind K) pc L stk X := J_invV hE hC hO hm hk hl hdd hn' hst hcat hd (fun q _ => kk q)
theorem J_invSri (hE : JOk V E cc own n d ret enc) {y : MethodName} {cc' : ByteArray} {n' d' k ix : Nat} {ret' : Option FieldType} {As : List Value} {o1 : Option Int32} {K : Int32 → Option α} {stk : List Value} (hC : JC E.2.1 V y cc' n' ret' jj_i d' As X (o1.map (fun r => (r, X)))) (hm : jmS y cc' n' ret' k) (hsta : Cond.static y ∈ jj_tb) (hk : As.length = k) (hl : Cond.methodLink own ix y ∈ jj_tb) (hdd : d' + 1 ≤ d) (hn' : n' ≤ 41) (hst : stk = As.reverse ++ st) (hcat : (st.map fun v => v.category).sum ≤ 8) (hd : jd cc pc (.invokestatic ix) 3 pc') (kk : ∀ q : Int32, J V E fin (K q) pc' L (.int q :: st) X) : J V E fin (o1.bind K) pc L stk X := J_invS hE hC hm hsta hk hl hdd hn' hst hcat hd (fun q _ => kk q)
theorem J_invSrl (hE : JOk V E cc own n d ret enc) {y : MethodName} {cc' : ByteArray} {n' d' k ix : Nat} {ret' : Option FieldType} {As : List Value} {o1 : Option Int64} {K : Int64 → Option α} {stk : List Value} (hC : JC E.2.1 V y cc' n' ret' jj_l d' As X (o1.map (fun r => (r, X)))) (hm : jmS y cc' n' ret' k) (hsta : Cond.static y ∈ jj_tb) (hk : As.length = k) (hl : Cond.methodLink own ix y ∈ jj_tb) (hdd : d' + 1 ≤ d) (hn' : n' ≤ 41) (hst : stk = As.reverse ++ st) (hcat : (st.map fun v => v.category).sum ≤ 8) (hd : jd cc pc (.invokestatic ix) 3 pc') (kk : ∀ q : Int64, J V E fin (K q) pc' L (.long q :: st) X) : J V E fin (o1.bind K) pc L stk X := J_invS hE hC hm hsta hk hl hdd hn' hst hcat hd (fun q _ => kk q)
theorem J_invSwi (hE : JOk V E cc own n d ret enc) {y : MethodName} {cc' : ByteArray} {n' d' k ix : Nat} {ret' : Option FieldType} {As : List Value} {τ : Type} {e : τ → σ} {o1 : Option (Int32 × τ)} {K : (Int32 × τ) → Option α} {stk : List Value} (hC : JC E.2.1 V y cc' n' ret' jj_i d' As X (o1.map (fun q => (q.1, e q.2)))) (hm : jmS y cc' n' ret' k) (hsta : Cond.static y ∈ jj_tb) (hk : As.length = k) (hl : Cond.methodLink own ix y ∈ jj_tb) (hdd : d' + 1 ≤ d) (hn' : n' ≤ 41) (hst : stk = As.reverse ++ st) (hcat : (st.map fun v => v.category).sum ≤ 8) (hd : jd cc pc (.invokestatic ix) 3 pc') (kk : ∀ q : (Int32 × τ), J V E fin (K q) pc' L (.int q.1 :: st) (e q.2)) : J V E fin (o1.bind K) pc L stk X := J_invS hE hC hm hsta hk hl hdd hn' hst hcat hd (fun q _ => kk q)
theorem J_invSwv (hE : JOk V E cc own n d ret enc) {y : MethodName} {cc' : ByteArray} {n' d' k ix : Nat} {ret' : Option FieldType} {As : List Value} {τ : Type} {e : τ → σ} {o1 : Option τ} {K : τ → Option α} {stk : List Value} (hC : JC E.2.1 V y cc' n' ret' jj_v d' As X (o1.map (fun q => ((), e q)))) (hm : jmS y cc' n' ret' k) (hsta : Cond.static y ∈ jj_tb) (hk : As.length = k) (hl : Cond.methodLink own ix y ∈ jj_tb) (hdd : d' + 1 ≤ d) (hn' : n' ≤ 41) (hst : stk = As.reverse ++ st) (hcat : (st.map fun v => v.category).sum ≤ 8) (hd : jd cc pc (.invokestatic ix) 3 pc') (kk : ∀ q : τ, J V E fin (K q) pc' L (st) (e q)) : J V E fin (o1.bind K) pc L stk X := J_invS hE hC hm hsta hk hl hdd hn' hst hcat hd (fun q _ => kk q)
theorem J_invSwl (hE : JOk V E cc own n d ret enc) {y : MethodName} {cc' : ByteArray} {n' d' k ix : Nat} {ret' : Option FieldType} {As : List Value} {τ : Type} {e : τ → σ} {o1 : Option (Int64 × τ)} {K : (Int64 × τ) → Option α} {stk : List Value} (hC : JC E.2.1 V y cc' n' ret' jj_l d' As X (o1.map (fun q => (q.1, e q.2)))) (hm : jmS y cc' n' ret' k) (hsta : Cond.static y ∈ jj_tb) (hk : As.length = k) (hl : Cond.methodLink own ix y ∈ jj_tb) (hdd : d' + 1 ≤ d) (hn' : n' ≤ 41) (hst : stk = As.reverse ++ st) (hcat : (st.map fun v => v.category).sum ≤ 8) (hd : jd cc pc (.invokestatic ix) 3 pc') (kk : ∀ q : (Int64 × τ), J V E fin (K q) pc' L (.long q.1 :: st) (e q.2)) : J V E fin (o1.bind K) pc L stk X := J_invS hE hC hm hsta hk hl hdd hn' hst hcat hd (fun q _ => kk q)
theorem J_invNri (hE : JOk V E cc own n d ret enc) {y : MethodName} {host : String} {cc' : ByteArray} {n' d' k ix : Nat} {ret' : Option FieldType} {As : List Value} {o1 : Option Int32} {K : Int32 → Option α} {stk : List Value} (hC : JC E.2.1 V y cc' n' ret' jj_i d' As X (o1.map (fun r => (r, X)))) (hm : jmS y cc' n' ret' k) (hsta : Cond.static y ∈ jj_tb) (hk : As.length = k) (hl : (own, ix, y, host) ∈ jj_nest) (hdd : d' + 1 ≤ d) (hn' : n' ≤ 41) (hst : stk = As.reverse ++ st) (hcat : (st.map fun v => v.category).sum ≤ 8) (hd : jd cc pc (.invokestatic ix) 3 pc') (kk : ∀ q : Int32, J V E fin (K q) pc' L (.int q :: st) X) : J V E fin (o1.bind K) pc L stk X := J_invN hE hC hm hsta hk hl hdd hn' hst hcat hd (fun q _ => kk q)
theorem J_invNrl (hE : JOk V E cc own n d ret enc) {y : MethodName} {host : String} {cc' : ByteArray} {n' d' k ix : Nat} {ret' : Option FieldType} {As : List Value} {o1 : Option Int64} {K : Int64 → Option α} {stk : List Value} (hC : JC E.2.1 V y cc' n' ret' jj_l d' As X (o1.map (fun r => (r, X)))) (hm : jmS y cc' n' ret' k) (hsta : Cond.static y ∈ jj_tb) (hk : As.length = k) (hl : (own, ix, y, host) ∈ jj_nest) (hdd : d' + 1 ≤ d) (hn' : n' ≤ 41) (hst : stk = As.reverse ++ st) (hcat : (st.map fun v => v.category).sum ≤ 8) (hd : jd cc pc (.invokestatic ix) 3 pc') (kk : ∀ q : Int64, J V E fin (K q) pc' L (.long q :: st) X) : J V E fin (o1.bind K) pc L stk X := J_invN hE hC hm hsta hk hl hdd hn' hst hcat hd (fun q _ => kk q)
theorem J_invNwi (hE : JOk V E cc own n d ret enc) {y : MethodName} {host : String} {cc' : ByteArray} {n' d' k ix : Nat} {ret' : Option FieldType} {As : List Value} {τ : Type} {e : τ → σ} {o1 : Option (Int32 × τ)} {K : (Int32 × τ) → Option α} {stk : List Value} (hC : JC E.2.1 V y cc' n' ret' jj_i d' As X (o1.map (fun q => (q.1, e q.2)))) (hm : jmS y cc' n' ret' k) (hsta : Cond.static y ∈ jj_tb) (hk : As.length = k) (hl : (own, ix, y, host) ∈ jj_nest) (hdd : d' + 1 ≤ d) (hn' : n' ≤ 41) (hst : stk = As.reverse ++ st) (hcat : (st.map fun v => v.category).sum ≤ 8) (hd : jd cc pc (.invokestatic ix) 3 pc') (kk : ∀ q : (Int32 × τ), J V E fin (K q) pc' L (.int q.1 :: st) (e q.2)) : J V E fin (o1.bind K) pc L stk X := J_invN hE hC hm hsta hk hl hdd hn' hst hcat hd (fun q _ => kk q)
theorem J_invNwv (hE : JOk V E cc own n d ret enc) {y : MethodName} {host : String} {cc' : ByteArray} {n' d' k ix : Nat} {ret' : Option FieldType} {As : List Value} {τ : Type} {e : τ → σ} {o1 : Option τ} {K : τ → Option α} {stk : List Value} (hC : JC E.2.1 V y cc' n' ret' jj_v d' As X (o1.map (fun q => ((), e q)))) (hm : jmS y cc' n' ret' k) (hsta : Cond.static y ∈ jj_tb) (hk : As.length = k) (hl : (own, ix, y, host) ∈ jj_nest) (hdd : d' + 1 ≤ d) (hn' : n' ≤ 41) (hst : stk = As.reverse ++ st) (hcat : (st.map fun v => v.category).sum ≤ 8) (hd : jd cc pc (.invokestatic ix) 3 pc') (kk : ∀ q : τ, J V E fin (K q) pc' L (st) (e q)) : J V E fin (o1.bind K) pc L stk X := J_invN hE hC hm hsta hk hl hdd hn' hst hcat hd (fun q _ => kk q)
theorem J_invNwl (hE : JOk V E cc own n d ret enc) {y : MethodName} {host : String} {cc' : ByteArray} {n' d' k ix : Nat} {ret' : Option FieldType} {As : List Value} {τ : Type} {e : τ → σ} {o1 : Option (Int64 × τ)} {K : (Int64 × τ) → Option α} {stk : List Value} (hC : JC E.2.1 V y cc' n' ret' jj_l d' As X (o1.map (fun q => (q.1, e q.2)))) (hm : jmS y cc' n' ret' k) (hsta : Cond.static y ∈ jj_tb) (hk : As.length = k) (hl : (own, ix, y, host) ∈ jj_nest) (hdd : d' + 1 ≤ d) (hn' : n' ≤ 41) (hst : stk = As.reverse ++ st) (hcat : (st.map fun v => v.category).sum ≤ 8) (hd : jd cc pc (.invokestatic ix) 3 pc') (kk : ∀ q : (Int64 × τ), J V E fin (K q) pc' L (.long q.1 :: st) (e q.2)) : J V E fin (o1.bind K) pc L stk X := J_invN hE hC hm hsta hk hl hdd hn' hst hcat hd (fun q _ => kk q)
end CK
