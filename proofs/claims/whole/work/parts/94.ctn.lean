/-! ===== methods that make cells: cuts, contracts, calls ===== -/
abbrev CtZ : Type := Nat → Option (List Bool × (Nat → List (Option sv) → List sv → List sc → Nat → Nat → Prop))
def cutlz (n : Nat) : Option (List Bool × (Nat → List (Option sv) → List sv → List sc → Nat → Nat → Prop)) → Option (List Bool × (List (Option sv) → List sv → List sc → Nat → Nat → Prop))
  | some (m, P) => some (m, fun lv st w cl sl => ∃ n', n' < n ∧ P n' lv st w cl sl)
  | none => none
def cutsz : Option (List Bool × (Nat → List (Option sv) → List sv → List sc → Nat → Nat → Prop)) → Option (List Bool × (List (Option sv) → List sv → List sc → Nat → Nat → Prop))
  | some (m, P) => some (m, fun lv st w cl sl => ∃ n', P n' lv st w cl sl)
  | none => none
def NXl : List (String × Nat × MethodName × String) := [(RX5, 32, yX3_init, "ServesWhatOneDreamt"), (RX5, 35, yX2_init, "ServesWhatOneDreamt")]
def EX (U : State) : Prop := (∀ q ∈ NXl, va_Nw (.methodLinkNest q.1 q.2.1 q.2.2.1 q.2.2.2) U) ∧ va_AO RX3 U
def rmN (d mc ms : Nat) : Room := { frames := d, cells := mc, slots := ms, locals := 100 * d }
def QN (D : va_G) (σ : Nat → Nat) (cA : Nat → ClassId) (n0 : Nat) (A : Nat → Prop) (K : Option sv → List sc → Prop) : Array Value → State → Outcome → State → Prop := fun _ st oc t =>
  (∃ (w' : List sc) (τ : Nat → Nat), (∀ i, i < n0 → τ i = σ i) ∧ oc = .returned none ∧ K none w' ∧ va_P D vwCl (tw τ cA 0 w') t.heap ∧ va_D A (tw τ cA 0 w')) ∧ va_F A st t
def CtN (y : MethodName) (cc : ByteArray) (nL d mc ms : Nat) (F : Fn) : Prop :=
  ∀ (l : Launch) (D : va_G) (σ : Nat → Nat) (cA : Nat → ClassId) (sz : Nat) (as : List sv) (w : List sc) (K : Option sv → List sc → Prop), F as w K →
    Met l y (.code y cc nL none :: uW) (rmN d mc ms) (va_Pc (as.map (tv σ)) (fun U => wPre D σ cA sz w U ∧ EX U)) (QN D σ cA w.length (va_A (tw σ cA 0 w) sz) K) mc ms (va_A (tw σ cA 0 w) sz)
def SiteZ (cc : ByteArray) (nL : Nat) (rt : Option FieldType) (own : String) (R : Room) (n0 pc : Nat) (f : List (Option sv) → List sv → List sc → Nat → Nat → (List sv → List sc → Nat → Nat → Prop) → Prop) : Prop :=
  ∀ (p : Program) (l : Launch) (e : Env) (s : State) (m : MethodId) (args : Array Value) (below : List Frame) (meth : Method) (c : Code) (D : va_G) (σ0 : Nat → Nat) (cA : Nat → ClassId) (A : Nat → Prop) (Q : State → Prop),
    Cx p s m args meth c D cA cc nL rt own → NW s → EX s → (∀ q, s.heap.size ≤ q → A q) → ∀ lv st w cl sl kk, f lv st w cl sl kk → (∀ st' w' cl' sl', kk st' w' cl' sl' → ZY p l e R s m args below meth c D σ0 n0 cA A s.heap nL Q (pc + 3) lv st' w' cl' sl') → ZY p l e R s m args below meth c D σ0 n0 cA A s.heap nL Q pc lv st w cl sl
abbrev Tz : Type := List (Nat × (List (Option sv) → List sv → List sc → Nat → Nat → (List sv → List sc → Nat → Nat → Prop) → Prop))
def ctabz : Tz → Clz
  | [], _, _, _, _, _, _, _ => False
  | (q, f) :: t, pc, lv, st, w, cl, sl, kk => if pc = q then f lv st w cl sl kk else ctabz t pc lv st w cl sl kk
def CallZ (cc : ByteArray) (nL : Nat) (rt : Option FieldType) (own : String) (R : Room) (n0 : Nat) (t : Tz) : Prop := ∀ q ∈ t, SiteZ cc nL rt own R n0 q.1 q.2
theorem CallZ_nil {cc : ByteArray} {nL : Nat} {rt : Option FieldType} {own : String} {R : Room} {n0 : Nat} : CallZ cc nL rt own R n0 [] := fun _ h => by cases h
theorem CallZ_cons {cc : ByteArray} {nL : Nat} {rt : Option FieldType} {own : String} {R : Room} {n0 pc : Nat} {f : List (Option sv) → List sv → List sc → Nat → Nat → (List sv → List sc → Nat → Nat → Prop) → Prop} {t : Tz} (h : SiteZ cc nL rt own R n0 pc f) (ht : CallZ cc nL rt own R n0 t) : CallZ cc nL rt own R n0 ((pc, f) :: t) := by
  intro q hq
  rcases List.mem_cons.mp hq with rfl | hq
  · exact h
  · exact ht q hq
theorem ctabz_use {cc : ByteArray} {nL : Nat} {rt : Option FieldType} {own : String} {R : Room} {n0 : Nat} : ∀ {t : Tz} {pc : Nat} {lv : List (Option sv)} {st : List sv} {w : List sc} {cl sl : Nat} {kk : List sv → List sc → Nat → Nat → Prop}, CallZ cc nL rt own R n0 t → ctabz t pc lv st w cl sl kk → ∃ f, SiteZ cc nL rt own R n0 pc f ∧ f lv st w cl sl kk
  | [], _, _, _, _, _, _, _, _, h => h.elim
  | (q, f) :: t, pc, lv, st, w, cl, sl, kk, ht, h => by
    unfold ctabz at h
    by_cases e : pc = q
    · rw [if_pos e] at h
      exact ⟨f, by rw [e]; exact ht (q, f) List.mem_cons_self, h⟩
    · rw [if_neg e] at h
      exact ctabz_use (fun z hz => ht z (List.mem_cons_of_mem _ hz)) h
theorem ar_I : Cond.arrayClass .int ∈ uW := all_tbl (l := [Cond.arrayClass .int]) (by decide +kernel) _ List.mem_cons_self
theorem ar_L : Cond.arrayClass .long ∈ uW := all_tbl (l := [Cond.arrayClass .long]) (by decide +kernel) _ List.mem_cons_self
theorem ar_Z : Cond.arrayClass .boolean ∈ uW := all_tbl (l := [Cond.arrayClass .boolean]) (by decide +kernel) _ List.mem_cons_self
section WPZ
variable {p : Program} {l : Launch} {e : Env} {R : Room} {s : State} {m : MethodId} {args : Array Value} {below : List Frame} {meth : Method} {c : Code} {D : va_G} {σ0 : Nat → Nat} {cA : Nat → ClassId} {A : Nat → Prop} {H0 : Heap} {nL n0 : Nat} {Q : State → Prop}
theorem wpz_sound {cc : ByteArray} {pr : Pg} {fin an : Option Nat} {nw : Nwt} {fld : Ft} {cst : Nat → Option Int32} {cstL : Nat → Option Int64} {call : Clz} {scr : Option (Nat × (Nat → Int32))} {rt : Option FieldType} {own : String} {cut : Cut}
    (hpr : ∀ pc q, pr pc = some q → xdec cc pc = some q) (X : Cx p s m args meth c D cA cc nL rt own) (hf : fdo own fld) (hc : cdo own cst cstL) (hnw : nwo own nw) (hfin : ∀ cf, fin = some cf → meth.name = "<init>" ∧ fdf own cf fld) (hA : ∀ q, H0.size ≤ q → A q) (hscr : ∀ L xs, scr = some (L, xs) → va_X (σ0 1000) L xs s H0 ∧ σ0 1000 < H0.size ∧ ¬ A (σ0 1000)) (han : ∀ i, an = some i → Cond.classLink own i RX3 ∈ uW ∧ va_AO RX3 s)
    (hcall : ∀ pc lv st w cl sl kk, call pc lv st w cl sl kk → (∀ st' w' cl' sl', kk st' w' cl' sl' → ZY p l e R s m args below meth c D σ0 n0 cA A H0 nL Q (pc + 3) lv st' w' cl' sl') → ZY p l e R s m args below meth c D σ0 n0 cA A H0 nL Q pc lv st w cl sl)
    (hcut : ∀ pc mm P, cut pc = some (mm, P) → ∀ lv st w cl sl, P lv st w cl sl → ZY p l e R s m args below meth c D σ0 n0 cA A H0 nL Q pc lv st w cl sl) :
    ∀ (n pc : Nat) (lv : List (Option sv)) (st : List sv) (w : List sc) (cl sl : Nat), wpz pr nL fin an n0 R.cells R.slots nw fld cst cstL call scr cut n pc lv st w cl sl → ZY p l e R s m args below meth c D σ0 n0 cA A H0 nL Q pc lv st w cl sl
  | 0, _, _, _, _, _, _, h => h.elim
  | n + 1, pc, lv, st, w, cl, sl, h => by
    unfold wpz at h
    cases hcp : cut pc with
    | none =>
      rw [hcp] at h
      obtain ⟨i, nx, tg, li, hd, h⟩ := oP_e (show oP _ _ from h)
      exact stpz_sound X hf hc hnw hfin hA hscr han ar_I ar_L ar_Z (fun pc lv st w cl sl q => wpz_sound hpr X hf hc hnw hfin hA hscr han hcall hcut n pc lv st w cl sl q) hcall (hpr _ _ hd) h
    | some q =>
      obtain ⟨mm, P⟩ := q
      rw [hcp] at h
      exact ZY_mask mm (hcut _ _ _ hcp _ _ _ _ _ h)
theorem cutz_sound {cc : ByteArray} {pr : Pg} {fin an : Option Nat} {nw : Nwt} {fld : Ft} {cst : Nat → Option Int32} {cstL : Nat → Option Int64} {call : Clz} {scr : Option (Nat × (Nat → Int32))} {rt : Option FieldType} {own : String} {cs : CtZ} {fuel : Nat}
    (hpr : ∀ pc q, pr pc = some q → xdec cc pc = some q) (X : Cx p s m args meth c D cA cc nL rt own) (hf : fdo own fld) (hc : cdo own cst cstL) (hnw : nwo own nw) (hfin : ∀ cf, fin = some cf → meth.name = "<init>" ∧ fdf own cf fld) (hA : ∀ q, H0.size ≤ q → A q) (hscr : ∀ L xs, scr = some (L, xs) → va_X (σ0 1000) L xs s H0 ∧ σ0 1000 < H0.size ∧ ¬ A (σ0 1000)) (han : ∀ i, an = some i → Cond.classLink own i RX3 ∈ uW ∧ va_AO RX3 s)
    (hcall : ∀ pc lv st w cl sl kk, call pc lv st w cl sl kk → (∀ st' w' cl' sl', kk st' w' cl' sl' → ZY p l e R s m args below meth c D σ0 n0 cA A H0 nL Q (pc + 3) lv st' w' cl' sl') → ZY p l e R s m args below meth c D σ0 n0 cA A H0 nL Q pc lv st w cl sl)
    (hinv : ∀ pc mm P, cs pc = some (mm, P) → ∀ n lv st w cl sl, P n lv st w cl sl → (ZY p l e R s m args below meth c D σ0 n0 cA A H0 nL Q pc lv st w cl sl) ∨ oP (pr pc) fun i nx tg li => stpz nL fin an n0 R.cells R.slots nw fld cst cstL call scr (wpz pr nL fin an n0 R.cells R.slots nw fld cst cstL call scr (fun q => cutlz n (cs q)) fuel) i nx tg li pc lv st w cl sl) :
    ∀ (n pc : Nat) (mm : List Bool) (P : Nat → List (Option sv) → List sv → List sc → Nat → Nat → Prop), cs pc = some (mm, P) → ∀ lv st w cl sl, P n lv st w cl sl → ZY p l e R s m args below meth c D σ0 n0 cA A H0 nL Q pc lv st w cl sl := by
  intro n
  induction n using Nat.strongRecOn with
  | ind n ih =>
    intro pc mm P hcp lv st w cl sl hp
    rcases hinv pc mm P hcp n lv st w cl sl hp with hz | hz
    · exact hz
    obtain ⟨i, nx, tg, li, hd, h⟩ := oP_e hz
    refine stpz_sound X hf hc hnw hfin hA hscr han ar_I ar_L ar_Z (fun pc lv st w cl sl q => wpz_sound hpr X hf hc hnw hfin hA hscr han hcall ?_ fuel pc lv st w cl sl q) hcall (hpr _ _ hd) h
    intro pc' mm' P' hc' lv' st' w' cl' sl' hp'
    have hc2 : cutlz n (cs pc') = some (mm', P') := hc'
    cases h3 : cs pc' with
    | none => rw [h3] at hc2; cases hc2
    | some q =>
      obtain ⟨m2, P2⟩ := q
      rw [h3] at hc2
      cases hc2
      obtain ⟨n', hn', hp'⟩ := hp'
      exact ih n' hn' pc' _ P2 h3 lv' st' w' cl' sl' hp'
end WPZ
theorem lkB_s {α : Type} {L : List (Nat × α)} {pc : Nat} {v : α} (h : lkB L pc = some v) : ∃ q ∈ L, q.1 = pc ∧ q.2 = v := lkB_e (P := fun i v => ∃ q ∈ L, q.1 = i ∧ q.2 = v) (fun q hq => ⟨q, hq, rfl, rfl⟩) h
/-- a constructor's contract, its return at rpc -/
theorem metN {y : MethodName} {cc : ByteArray} {pr : Pg} {nL d mc ms cf : Nat} {an : Option Nat} {fld : Ft} {cst : Nat → Option Int32} {cstL : Nat → Option Int64} {nw : Nwt} {ct : Tz} {as : List sv} {w : List sc} {K : Option sv → List sc → Prop} (rpc : Nat) (L : List (Nat × (List Bool × (Nat → List (Option sv) → List sv → List sc → Nat → Nat → Prop))))
    (hrd : decode cc rpc = .ok (.return_, 1)) (hL : lkB L rpc = some ([], fun _ _ st w cl sl => st = [] ∧ cl ≤ mc ∧ sl ≤ ms ∧ K none w)) (hpr : ∀ pc q, pr pc = some q → xdec cc pc = some q) (hy : plainName y.cls = true) (hyn : y.name = "<init>") (hf : fdo y.cls fld) (hc : cdo y.cls cst cstL) (hnw : nwo y.cls nw) (hfd : fdf y.cls cf fld) (han : ∀ i, an = some i → Cond.classLink y.cls i RX3 ∈ uW) (hct : CallZ cc nL none y.cls (rmN d mc ms) w.length ct) (hlen : slen as ≤ nL)
    (hinv : ∀ q ∈ L, q.1 = rpc ∨ ∀ n lv st w' cl sl, q.2.2 n lv st w' cl sl → oP (pr q.1) fun i nx tg li => stpz nL (some cf) an w.length mc ms nw fld cst cstL (ctabz ct) none (wpz pr nL (some cf) an w.length mc ms nw fld cst cstL (ctabz ct) none (fun z => cutlz n (lkB L z)) 400) i nx tg li q.1 lv st w' cl sl)
    (hst : wpz pr nL (some cf) an w.length mc ms nw fld cst cstL (ctabz ct) none (fun z => cutsz (lkB L z)) 400 0 (enL as) [] w 0 0)
    (l : Launch) (D : va_G) (σ : Nat → Nat) (cA : Nat → ClassId) (sz : Nat) :
    Met l y (.code y cc nL none :: uW) (rmN d mc ms) (va_Pc (as.map (tv σ)) (fun U => wPre D σ cA sz w U ∧ EX U)) (QN D σ cA w.length (va_A (tw σ cA 0 w) sz) K) mc ms (va_A (tw σ cA 0 w) sz) := by
  refine Met.ofW (cc := cc) (maxL := nL) (ret := none) hy rfl ?_
  intro p e s m args below meth c s₁ B hml hv
  obtain ⟨rfl, ⟨hsz, hP, hK, hD0, hnws⟩, hex⟩ := hv
  have hts0 := atoms_spec (ws := .code y cc nL none :: uW) B.pre
  have hown : s.vm.findClass y.cls = some m.cls := findClass_of_methodNamed B.named
  have hin : meth.name = "<init>" := (name_of_methodNamed B.named B.method).1.trans hyn
  subst hsz
  have hD := hD0.self (sz := s.heap.size)
  generalize hAe : va_A (tw σ cA 0 w) s.heap.size = A at hD ⊢
  have hA : ∀ q : Nat, s.heap.size ≤ q → A q := fun q h => by rw [← hAe]; exact Or.inr h
  have hS : va_S A s.heap s.heap [] := va_S.rf
  have X : Cx p s m (as.map (tv σ)).toArray meth c D cA cc nL none y.cls := ⟨B.exec, B.bytes, hml, hown, fun w hw => hts0 w (List.mem_cons_of_mem _ hw), hK, B.notSynchronized, B.returns⟩
  have hcall : ∀ pc lv st w' cl sl kk, ctabz ct pc lv st w' cl sl kk → (∀ st' w2 cl' sl', kk st' w2 cl' sl' → ZY p l e (rmN d mc ms) s m (as.map (tv σ)).toArray below meth c D σ w.length cA A s.heap nL (MQ below (QN D σ cA w.length A K) (as.map (tv σ)).toArray s mc ms A) (pc + 3) lv st' w2 cl' sl') → ZY p l e (rmN d mc ms) s m (as.map (tv σ)).toArray below meth c D σ w.length cA A s.heap nL (MQ below (QN D σ cA w.length A K) (as.map (tv σ)).toArray s mc ms A) pc lv st w' cl sl := by
    intro pc lv st w' cl sl kk h hk
    obtain ⟨f, hs, hf⟩ := ctabz_use hct h
    exact hs p l e s m _ below meth c D σ cA A _ X hnws hex hA lv st w' cl sl kk hf hk
  have hretz : ∀ lv st w' cl sl, (st = [] ∧ cl ≤ mc ∧ sl ≤ ms ∧ K none w') → ZY p l e (rmN d mc ms) s m (as.map (tv σ)).toArray below meth c D σ w.length cA A s.heap nL (MQ below (QN D σ cA w.length A K) (as.map (tv σ)).toArray s mc ms A) rpc lv st w' cl sl := by
    rintro lv st w' cl sl ⟨rfl, h1, h2, h3⟩ τ hτ H locs ls hP' hD' hS' hl'
    refine W.widen h1 h2 ?_
    exact W.vret B.exec B.bytes B.returns (fun t ht _ => ⟨⟨w', τ, fun i hi => hτ i (Or.inl hi), rfl, h3, by rw [ht]; exact hP', hD'⟩, hS'.F ht⟩) hS'.2.2 hrd B.notSynchronized
  have hfin : ∀ c2, some cf = some c2 → meth.name = "<init>" ∧ fdf y.cls c2 fld := fun c2 h => by cases h; exact ⟨hin, hfd⟩
  have hl := lv_entry (as.map (tv σ)) (n := nL) (by rw [slen_ok]; exact hlen)
  rw [lg_entry_eq]
  generalize (lg_sl (as.map (tv σ)) ++ List.replicate (nL - (lg_sl (as.map (tv σ))).length) Slot.unset).toArray = ls at hl ⊢
  have hz := wpz_sound (p := p) (l := l) (e := e) (R := rmN d mc ms) (below := below) (σ0 := σ) (n0 := w.length) (A := A) (H0 := s.heap) (Q := MQ below (QN D σ cA w.length A K) (as.map (tv σ)).toArray s mc ms A) hpr X hf hc hnw hfin hA (scr := none) (fun _ _ h => by cases h) (fun i hi => ⟨han i hi, hex.2⟩) hcall (cut := fun q => cutsz (lkB L q)) (by
    intro pc mm P hcp lv st w' cl sl hp
    cases h3 : lkB L pc with
    | none => simp [h3, cutsz] at hcp
    | some q =>
      obtain ⟨m2, P2⟩ := q
      simp only [h3, cutsz, Option.some.injEq, Prod.mk.injEq] at hcp
      obtain ⟨rfl, rfl⟩ := hcp
      obtain ⟨n, hp⟩ := hp
      refine cutz_sound (scr := none) (fuel := 400) (cs := lkB L) hpr X hf hc hnw hfin hA (fun _ _ h => by cases h) (fun i hi => ⟨han i hi, hex.2⟩) hcall ?_ n pc m2 P2 h3 lv st w' cl sl hp
      intro pc3 m3 P3 h4 n3 lv3 st3 w3 cl3 sl3 hp3
      obtain ⟨q, hq, e1, e2⟩ := lkB_s h4
      rcases hinv q hq with z | z
      · left
        have e3 : pc3 = rpc := e1.symm.trans z
        rw [e3] at h4
        rw [hL] at h4
        cases h4
        rw [e3]
        exact hretz _ _ _ _ _ hp3
      · right
        have := z n3 lv3 st3 w3 cl3 sl3 (by rw [e2]; exact hp3)
        rw [e1] at this
        exact this) 400 0 (enL as) [] w 0 0 hst
  exact hz σ (ag.rf _ _) s.heap [] ls hP hD hS (lvh_sub hl (enL_ok σ as 0))
