/-! ===== a run with one σ ===== -/
abbrev Cuy : Type := Nat → Option (List Bool × (List (Option sv) → List sv → List sc → Prop))
def wpcy (lv : List (Option sv)) (st : List sv) (w : List sc) (B : Prop) : Option (List Bool × (List (Option sv) → List sv → List sc → Prop)) → Prop
  | some (m, P) => P (msk m lv) st w
  | none => B
def wpy (pr : Pg) (nL : Nat) (fld : Ft) (cst : Nat → Option Int32) (cstL : Nat → Option Int64) (call : Cl) (cut : Cuy) : Nat → Kt
  | 0, _, _, _, _ => False
  | n + 1, pc, lv, st, w => wpcy lv st w (oP (pr pc) fun i nx tg li => stpi nL 9 fld cst cstL call (fun _ _ => False) (wpy pr nL fld cst cstL call cut n) i nx tg li pc lv st w) (cut pc)
theorem wpy_sound {p : Program} {l : Launch} {e : Env} {R : Room} {s : State} {m : MethodId} {args : Array Value} {below : List Frame} {meth : Method} {c : Code} {D : va_G} {σ : Nat → Nat} {cA : Nat → ClassId} {A : Nat → Prop} {H0 : Heap} {nL cl sl : Nat} {Q : State → Prop} {cc : ByteArray} {pr : Pg} {fld : Ft} {cst : Nat → Option Int32} {cstL : Nat → Option Int64} {call : Cl} {rt : Option FieldType} {own : String} {cut : Cuy}
    (hpr : ∀ pc q, pr pc = some q → xdec cc pc = some q) (X : Cx p s m args meth c D cA cc nL rt own) (hf : fdo own fld) (hc : cdo own cst cstL)
    (hcall : ∀ pc st w kk, call pc st w kk → ∀ lv, (∀ st' w', kk st' w' → Zy p l e R s m args below meth c D σ cA A H0 nL cl sl Q (pc + 3) lv st' w') → Zy p l e R s m args below meth c D σ cA A H0 nL cl sl Q pc lv st w)
    (hcut : ∀ pc mm P, cut pc = some (mm, P) → ∀ lv st w, P lv st w → Zy p l e R s m args below meth c D σ cA A H0 nL cl sl Q pc lv st w) :
    ∀ (n pc : Nat) (lv : List (Option sv)) (st : List sv) (w : List sc), wpy pr nL fld cst cstL call cut n pc lv st w → Zy p l e R s m args below meth c D σ cA A H0 nL cl sl Q pc lv st w
  | 0, _, _, _, _, h => h.elim
  | n + 1, pc, lv, st, w, h => by
    unfold wpy at h
    cases hcp : cut pc with
    | none =>
      rw [hcp] at h
      obtain ⟨i, nx, tg, li, hd, h⟩ := oP_e (show oP _ _ from h)
      exact stpy_sound X hf hc (fun pc lv st w q => wpy_sound hpr X hf hc hcall hcut n pc lv st w q) hcall (hpr _ _ hd) h
    | some q =>
      obtain ⟨mm, P⟩ := q
      rw [hcp] at h
      have h9 := hcut _ _ _ hcp _ _ _ h
      exact fun H locs ls hP hD hS hl => h9 H locs ls hP hD hS (lvh_sub hl (tl_sub (lk_msk mm lv)))
/-! ===== contracts of methods that may throw ===== -/
def XP (A : Nat → Prop) (U : State) : Prop := XT A U U.heap ∧ XS U ∧ XB U ∧ XN U
def XG (D : va_G) (σ : Nat → Nat) (cA : Nat → ClassId) (A : Nat → Prop) (KX : String → List sc → Prop) : String → State → State → Prop := fun E st t => ∃ w', KX E w' ∧ va_P D vwCl (tw σ cA 0 w') t.heap ∧ va_D A (tw σ cA 0 w') ∧ va_F A st t
abbrev Fx : Type := List sv → List sc → (Option sv → List sc → Prop) → (String → List sc → Prop) → Prop
def CtX (y : MethodName) (cc : ByteArray) (nL : Nat) (rt : Option FieldType) (d : Nat) (F : Fx) : Prop :=
  ∀ (l : Launch) (D : va_G) (σ : Nat → Nat) (cA : Nat → ClassId) (sz : Nat) (as : List sv) (w : List sc) (K : Option sv → List sc → Prop) (KX : String → List sc → Prop), l.stackTraces = false → F as w K KX →
    vx_Met l y (.code y cc nL rt :: uW) (rmN d 1 6) (va_Pc (as.map (tv σ)) (fun U => wPre D σ cA sz w U ∧ XP (va_A (tw σ cA 0 w) sz) U)) (Qg D σ cA (va_A (tw σ cA 0 w) sz) K) (XG D σ cA (va_A (tw σ cA 0 w) sz) KX) 1 6 (va_A (tw σ cA 0 w) sz)
theorem metX {y : MethodName} {cc : ByteArray} {nL d : Nat} {rt : Option FieldType} {as : List sv} {w : List sc} {K : Option sv → List sc → Prop} {KX : String → List sc → Prop} {l : Launch} {D : va_G} {σ : Nat → Nat} {cA : Nat → ClassId} {sz : Nat} (hy : plainName y.cls = true) (hlen : slen as ≤ nL)
    (body : ∀ (p : Program) (e : Env) (s : State) (m : MethodId) (below : List Frame) (meth : Method) (c : Code) (A : Nat → Prop), Cx p s m (as.map (tv σ)).toArray meth c D cA cc nL rt y.cls → NW s → XP A s → (∀ x ∈ c.exceptionTable.toList, False) → (∀ q, s.heap.size ≤ q → A q) → Zy p l e (rmN d 1 6) s m (as.map (tv σ)).toArray below meth c D σ cA A s.heap nL 0 0 (vx_MQ below (Qg D σ cA A K) (XG D σ cA A KX) (as.map (tv σ)).toArray s 1 6 A) 0 (enL as) [] w) :
    vx_Met l y (.code y cc nL rt :: uW) (rmN d 1 6) (va_Pc (as.map (tv σ)) (fun U => wPre D σ cA sz w U ∧ XP (va_A (tw σ cA 0 w) sz) U)) (Qg D σ cA (va_A (tw σ cA 0 w) sz) K) (XG D σ cA (va_A (tw σ cA 0 w) sz) KX) 1 6 (va_A (tw σ cA 0 w) sz) := by
  refine vx_ofW (cc := cc) (maxL := nL) (ret := rt) hy rfl ?_
  intro p e s m args below meth c s₁ B hml hemp hv
  obtain ⟨rfl, ⟨hsz, hP, hK, hD0, hnws⟩, hex⟩ := hv
  have hts0 := atoms_spec (ws := .code y cc nL rt :: uW) B.pre
  have hown : s.vm.findClass y.cls = some m.cls := findClass_of_methodNamed B.named
  subst hsz
  have hD := hD0.self (sz := s.heap.size)
  generalize hAe : va_A (tw σ cA 0 w) s.heap.size = A at hD hex ⊢
  have hA : ∀ q : Nat, s.heap.size ≤ q → A q := fun q h => by rw [← hAe]; exact Or.inr h
  have hS : va_S A s.heap s.heap [] := va_S.rf
  have X : Cx p s m (as.map (tv σ)).toArray meth c D cA cc nL rt y.cls := ⟨B.exec, B.bytes, hml, hown, fun w hw => hts0 w (List.mem_cons_of_mem _ hw), hK, B.notSynchronized, B.returns⟩
  have hl := lv_entry (as.map (tv σ)) (n := nL) (by rw [slen_ok]; exact hlen)
  rw [lg_entry_eq]
  generalize (lg_sl (as.map (tv σ)) ++ List.replicate (nL - (lg_sl (as.map (tv σ))).length) Slot.unset).toArray = ls at hl ⊢
  exact body p e s m below meth c A X hnws hex hemp hA s.heap [] ls hP hD hS (lvh_sub hl (enL_ok σ as 0))
