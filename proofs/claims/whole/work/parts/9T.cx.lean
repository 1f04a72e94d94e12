/-! ===== contracts of methods that may throw ===== -/
def XP (U : State) : Prop := XT (fun q => U.heap.size ≤ q) U U.heap ∧ XS U ∧ XB U
def XG (D : va_G) (σ : Nat → Nat) (cA : Nat → ClassId) (A : Nat → Prop) (KX : String → List sc → Prop) : String → State → State → Prop := fun E st t => ∃ w', KX E w' ∧ va_P D vwCl (tw σ cA 0 w') t.heap ∧ va_D A (tw σ cA 0 w') ∧ va_F A st t
abbrev Fx : Type := List sv → List sc → (Option sv → List sc → Prop) → (String → List sc → Prop) → Prop
def CtX (y : MethodName) (cc : ByteArray) (nL : Nat) (rt : Option FieldType) (d : Nat) (F : Fx) : Prop :=
  ∀ (l : Launch) (D : va_G) (σ : Nat → Nat) (cA : Nat → ClassId) (sz : Nat) (as : List sv) (w : List sc) (K : Option sv → List sc → Prop) (KX : String → List sc → Prop), l.stackTraces = false → F as w K KX →
    vx_Met l y (.code y cc nL rt :: uW) (rmN d 1 6) (va_Pc (as.map (tv σ)) (fun U => wPre D σ cA sz w U ∧ XP U)) (Qg D σ cA (va_A (tw σ cA 0 w) sz) K) (XG D σ cA (va_A (tw σ cA 0 w) sz) KX) 1 6 (va_A (tw σ cA 0 w) sz)
theorem metX {y : MethodName} {cc : ByteArray} {nL d : Nat} {rt : Option FieldType} {as : List sv} {w : List sc} {K : Option sv → List sc → Prop} {KX : String → List sc → Prop} {l : Launch} {D : va_G} {σ : Nat → Nat} {cA : Nat → ClassId} {sz : Nat} (hy : plainName y.cls = true) (hlen : slen as ≤ nL)
    (body : ∀ (p : Program) (e : Env) (s : State) (m : MethodId) (below : List Frame) (meth : Method) (c : Code) (A : Nat → Prop), Cx p s m (as.map (tv σ)).toArray meth c D cA cc nL rt y.cls → NW s → XP s → (∀ x ∈ c.exceptionTable.toList, False) → (∀ q, s.heap.size ≤ q → A q) → ZY p l e (rmN d 1 6) s m (as.map (tv σ)).toArray below meth c D σ 0 cA A s.heap nL (vx_MQ below (Qg D σ cA A K) (XG D σ cA A KX) (as.map (tv σ)).toArray s 1 6 A) 0 (enL as) [] w 0 0) :
    vx_Met l y (.code y cc nL rt :: uW) (rmN d 1 6) (va_Pc (as.map (tv σ)) (fun U => wPre D σ cA sz w U ∧ XP U)) (Qg D σ cA (va_A (tw σ cA 0 w) sz) K) (XG D σ cA (va_A (tw σ cA 0 w) sz) KX) 1 6 (va_A (tw σ cA 0 w) sz) := by
  refine vx_ofW (cc := cc) (maxL := nL) (ret := rt) hy rfl ?_
  intro p e s m args below meth c s₁ B hml hemp hv
  obtain ⟨rfl, ⟨hsz, hP, hK, hD0, hnws⟩, hex⟩ := hv
  have hts0 := atoms_spec (ws := .code y cc nL rt :: uW) B.pre
  have hown : s.vm.findClass y.cls = some m.cls := findClass_of_methodNamed B.named
  subst hsz
  have hD := hD0.self (sz := s.heap.size)
  generalize hAe : va_A (tw σ cA 0 w) s.heap.size = A at hD ⊢
  have hA : ∀ q : Nat, s.heap.size ≤ q → A q := fun q h => by rw [← hAe]; exact Or.inr h
  have hS : va_S A s.heap s.heap [] := va_S.rf
  have X : Cx p s m (as.map (tv σ)).toArray meth c D cA cc nL rt y.cls := ⟨B.exec, B.bytes, hml, hown, fun w hw => hts0 w (List.mem_cons_of_mem _ hw), hK, B.notSynchronized, B.returns⟩
  have hl := lv_entry (as.map (tv σ)) (n := nL) (by rw [slen_ok]; exact hlen)
  rw [lg_entry_eq]
  generalize (lg_sl (as.map (tv σ)) ++ List.replicate (nL - (lg_sl (as.map (tv σ))).length) Slot.unset).toArray = ls at hl ⊢
  exact body p e s m below meth c A X hnws hex hemp hA σ (fun _ _ => rfl) s.heap [] ls hP hD hS (lvh_sub hl (enL_ok σ as 0))
