/-! ===== methods: cuts with a measure, contracts, calls ===== -/
abbrev Fn : Type := List sv → List sc → (Option sv → List sc → Prop) → Prop
abbrev Cts : Type := Nat → Option (List Bool × (Nat → List (Option sv) → List sv → List sc → Prop))
def cutl (n : Nat) : Option (List Bool × (Nat → List (Option sv) → List sv → List sc → Prop)) → Option (List Bool × (List (Option sv) → List sv → List sc → Prop))
  | some (m, P) => some (m, fun lv st w => ∃ n', n' < n ∧ P n' lv st w)
  | none => none
def cuts : Option (List Bool × (Nat → List (Option sv) → List sv → List sc → Prop)) → Option (List Bool × (List (Option sv) → List sv → List sc → Prop))
  | some (m, P) => some (m, fun lv st w => ∃ n', P n' lv st w)
  | none => none
def noc : Cts := fun _ => none
def rmd (d : Nat) : Room := { frames := d, cells := 0, slots := 0, locals := 100 * d }
def NWl : List (String × Nat × MethodName × String) := [(RX0, 58, ⟨"ServesWhatOneDreamt", "within", "(III)Z"⟩, "ServesWhatOneDreamt"), (RX1, 11, ⟨"ServesWhatOneDreamt", "within", "(III)Z"⟩, "ServesWhatOneDreamt"), (RX3, 19, ⟨"ServesWhatOneDreamt", "within", "(III)Z"⟩, "ServesWhatOneDreamt"), (RX4, 25, ⟨"ServesWhatOneDreamt", "isDigit", "(I)Z"⟩, "ServesWhatOneDreamt"), (RX4, 83, ⟨"ServesWhatOneDreamt", "within", "(III)Z"⟩, "ServesWhatOneDreamt")]
def NW (U : State) : Prop := ∀ q ∈ NWl, va_Nw (.methodLinkNest q.1 q.2.1 q.2.2.1 q.2.2.2) U
def wPre (D : va_G) (σ : Nat → Nat) (cA : Nat → ClassId) (sz : Nat) (w : List sc) (U : State) : Prop := U.heap.size = sz ∧ va_P D vwCl (tw σ cA 0 w) U.heap ∧ va_K D vwCl (tysL cA) U ∧ va_D (fun _ => True) (tw σ cA 0 w) ∧ NW U
def Qg (D : va_G) (σ : Nat → Nat) (cA : Nat → ClassId) (A : Nat → Prop) (K : Option sv → List sc → Prop) : Array Value → State → Outcome → State → Prop := fun _ st oc t =>
  (∃ (r : Option sv) (w' : List sc), oc = .returned (r.map (tv σ)) ∧ K r w' ∧ va_P D vwCl (tw σ cA 0 w') t.heap ∧ va_D A (tw σ cA 0 w')) ∧ va_F A st t
def enL : List sv → List (Option sv)
  | [] => []
  | .inl x :: r => some (.inl x) :: enL r
  | .inr (.inl x) :: r => some (.inr (.inl x)) :: none :: enL r
  | .inr (.inr x) :: r => some (.inr (.inr x)) :: enL r
def slen : List sv → Nat
  | [] => 0
  | .inl _ :: r => slen r + 1
  | .inr (.inl _) :: r => slen r + 2
  | .inr (.inr _) :: r => slen r + 1
theorem rf_cat (x : Option Nat) (σ : Nat → Nat) : (va_rf (x.map σ)).category = 1 := by cases x <;> rfl
theorem slen_ok (σ : Nat → Nat) : ∀ (as : List sv), (lg_sl (as.map (tv σ))).length = slen as
  | [] => rfl
  | .inl x :: r => by
    have := slen_ok σ r
    simp only [lg_sl, List.map_cons, List.flatMap_cons, List.length_append] at this ⊢
    rw [this]; simp [slen, tv, Value.category]; omega
  | .inr (.inl x) :: r => by
    have := slen_ok σ r
    simp only [lg_sl, List.map_cons, List.flatMap_cons, List.length_append] at this ⊢
    rw [this]; simp [slen, tv, Value.category]; omega
  | .inr (.inr x) :: r => by
    have := slen_ok σ r
    simp only [lg_sl, List.map_cons, List.flatMap_cons, List.length_append] at this ⊢
    rw [this]; simp [slen, tv, rf_cat]; omega
theorem enL_ok (σ : Nat → Nat) : ∀ (as : List sv) (k : Nat), ∀ q ∈ tl σ k (enL as), q ∈ lv_args k (as.map (tv σ))
  | [], k, q, h => by simp [enL, tl] at h
  | .inl x :: r, k, q, h => by
    simp only [enL, tl, List.mem_cons, List.map_cons, lv_args] at h ⊢
    rcases h with h | h
    · exact Or.inl h
    · refine Or.inr ?_
      have := enL_ok σ r (k + 1) q h
      simpa [tv, Value.category] using this
  | .inr (.inl x) :: r, k, q, h => by
    simp only [enL, tl, List.mem_cons, List.map_cons, lv_args] at h ⊢
    rcases h with h | h
    · exact Or.inl h
    · refine Or.inr ?_
      have := enL_ok σ r (k + 1 + 1) q h
      simpa [tv, Value.category] using this
  | .inr (.inr x) :: r, k, q, h => by
    simp only [enL, tl, List.mem_cons, List.map_cons, lv_args] at h ⊢
    rcases h with h | h
    · exact Or.inl h
    · refine Or.inr ?_
      have := enL_ok σ r (k + 1) q h
      simpa [tv, rf_cat] using this
/-- a method's contract: whatever F says -/
def Ct (y : MethodName) (cc : ByteArray) (nL : Nat) (rt : Option FieldType) (d : Nat) (F : Fn) : Prop :=
  ∀ (l : Launch) (D : va_G) (σ : Nat → Nat) (cA : Nat → ClassId) (sz : Nat) (as : List sv) (w : List sc) (K : Option sv → List sc → Prop), F as w K →
    Met l y (.code y cc nL rt :: uW) (rmd d) (va_Pc (as.map (tv σ)) (wPre D σ cA sz w)) (Qg D σ cA (va_A (tw σ cA 0 w) sz) K) 0 0 (va_A (tw σ cA 0 w) sz)
def SiteOK (cc : ByteArray) (nL : Nat) (rt : Option FieldType) (own : String) (d pc : Nat) (f : List sv → List sc → (List sv → List sc → Prop) → Prop) : Prop :=
  ∀ (p : Program) (l : Launch) (e : Env) (s : State) (m : MethodId) (args : Array Value) (below : List Frame) (meth : Method) (c : Code) (D : va_G) (σ : Nat → Nat) (cA : Nat → ClassId) (A : Nat → Prop) (Q : State → Prop),
    Cx p s m args meth c D cA cc nL rt own → NW s → (∀ q, s.heap.size ≤ q → A q) → ∀ st w kk, f st w kk → ∀ lv, (∀ st' w', kk st' w' → Zx p l e (rmd d) s m args below meth c D σ cA A s.heap nL Q (pc + 3) lv st' w') → Zx p l e (rmd d) s m args below meth c D σ cA A s.heap nL Q pc lv st w
def ctab : List (Nat × (List sv → List sc → (List sv → List sc → Prop) → Prop)) → Cl
  | [], _, _, _, _ => False
  | (q, f) :: t, pc, st, w, kk => if pc = q then f st w kk else ctab t pc st w kk
def CallOK (cc : ByteArray) (nL : Nat) (rt : Option FieldType) (own : String) (d : Nat) (t : List (Nat × (List sv → List sc → (List sv → List sc → Prop) → Prop))) : Prop := ∀ q ∈ t, SiteOK cc nL rt own d q.1 q.2
theorem CallOK_nil {cc : ByteArray} {nL : Nat} {rt : Option FieldType} {own : String} {d : Nat} : CallOK cc nL rt own d [] := fun _ h => by cases h
theorem CallOK_cons {cc : ByteArray} {nL : Nat} {rt : Option FieldType} {own : String} {d pc : Nat} {f : List sv → List sc → (List sv → List sc → Prop) → Prop} {t : List (Nat × (List sv → List sc → (List sv → List sc → Prop) → Prop))} (h : SiteOK cc nL rt own d pc f) (ht : CallOK cc nL rt own d t) : CallOK cc nL rt own d ((pc, f) :: t) := by
  intro q hq
  rcases List.mem_cons.mp hq with rfl | hq
  · exact h
  · exact ht q hq
theorem ctab_use {cc : ByteArray} {nL : Nat} {rt : Option FieldType} {own : String} {d : Nat} : ∀ {t : List (Nat × (List sv → List sc → (List sv → List sc → Prop) → Prop))} {pc : Nat} {st : List sv} {w : List sc} {kk : List sv → List sc → Prop}, CallOK cc nL rt own d t → ctab t pc st w kk → ∃ f, SiteOK cc nL rt own d pc f ∧ f st w kk
  | [], _, _, _, _, _, h => h.elim
  | (q, f) :: t, pc, st, w, kk, ht, h => by
    unfold ctab at h
    by_cases e : pc = q
    · rw [if_pos e] at h
      exact ⟨f, by rw [e]; exact ht (q, f) List.mem_cons_self, h⟩
    · rw [if_neg e] at h
      exact ctab_use (fun z hz => ht z (List.mem_cons_of_mem _ hz)) h
section WPS
variable {p : Program} {l : Launch} {e : Env} {R : Room} {s : State} {m : MethodId} {args : Array Value} {below : List Frame} {meth : Method} {c : Code} {D : va_G} {σ : Nat → Nat} {cA : Nat → ClassId} {A : Nat → Prop} {H0 : Heap} {nL : Nat}
theorem wp_sound {cc : ByteArray} {pr : Pg} {rk : Nat} {fld : Ft} {cst : Nat → Option Int32} {cstL : Nat → Option Int64} {call : Cl} {ret : Option sv → List sc → Prop} {rt : Option FieldType} {own : String} {Qc : Array Value → State → Outcome → State → Prop} {free : Addr → Prop} {cut : Ct0}
    (hpr : ∀ pc q, pr pc = some q → xdec cc pc = some q) (X : Cx p s m args meth c D cA cc nL rt own) (hf : fdo own fld) (hc : cdo own cst cstL) (hrt : rto rk rt)
    (hcall : ∀ pc st w kk, call pc st w kk → ∀ lv, (∀ st' w', kk st' w' → Zx p l e R s m args below meth c D σ cA A H0 nL (MQ below Qc args s 0 0 free) (pc + 3) lv st' w') → Zx p l e R s m args below meth c D σ cA A H0 nL (MQ below Qc args s 0 0 free) pc lv st w)
    (hret : ∀ r w, ret r w → ∀ H locs, va_P D vwCl (tw σ cA 0 w) H → va_D A (tw σ cA 0 w) → va_S A H0 H locs → (∀ t : State, t.heap = H → s.WarmedH t.vm → Qc args s (.returned (r.map (tv σ))) t) ∧ ∀ q ∈ locs, free q.base)
    (hcut : ∀ pc mm P, cut pc = some (mm, P) → ∀ lv st w, P lv st w → Zx p l e R s m args below meth c D σ cA A H0 nL (MQ below Qc args s 0 0 free) pc lv st w) :
    ∀ (n pc : Nat) (lv : List (Option sv)) (st : List sv) (w : List sc), wp pr nL rk fld cst cstL call ret cut n pc lv st w → Zx p l e R s m args below meth c D σ cA A H0 nL (MQ below Qc args s 0 0 free) pc lv st w
  | 0, _, _, _, _, h => h.elim
  | n + 1, pc, lv, st, w, h => by
    unfold wp at h
    cases hcp : cut pc with
    | none =>
      rw [hcp] at h
      obtain ⟨i, nx, tg, li, hd, h⟩ := oP_e (show oP _ _ from h)
      exact stpi_sound X hf hc hrt (fun pc lv st w q => wp_sound hpr X hf hc hrt hcall hret hcut n pc lv st w q) hcall hret (hpr _ _ hd) h
    | some q =>
      obtain ⟨mm, P⟩ := q
      rw [hcp] at h
      exact Zx_mask mm (hcut _ _ _ hcp _ _ _ h)
theorem cuts_sound {cc : ByteArray} {pr : Pg} {rk : Nat} {fld : Ft} {cst : Nat → Option Int32} {cstL : Nat → Option Int64} {call : Cl} {ret : Option sv → List sc → Prop} {rt : Option FieldType} {own : String} {Qc : Array Value → State → Outcome → State → Prop} {free : Addr → Prop} {cs : Cts} {fuel : Nat}
    (hpr : ∀ pc q, pr pc = some q → xdec cc pc = some q) (X : Cx p s m args meth c D cA cc nL rt own) (hf : fdo own fld) (hc : cdo own cst cstL) (hrt : rto rk rt)
    (hcall : ∀ pc st w kk, call pc st w kk → ∀ lv, (∀ st' w', kk st' w' → Zx p l e R s m args below meth c D σ cA A H0 nL (MQ below Qc args s 0 0 free) (pc + 3) lv st' w') → Zx p l e R s m args below meth c D σ cA A H0 nL (MQ below Qc args s 0 0 free) pc lv st w)
    (hret : ∀ r w, ret r w → ∀ H locs, va_P D vwCl (tw σ cA 0 w) H → va_D A (tw σ cA 0 w) → va_S A H0 H locs → (∀ t : State, t.heap = H → s.WarmedH t.vm → Qc args s (.returned (r.map (tv σ))) t) ∧ ∀ q ∈ locs, free q.base)
    (hinv : ∀ pc mm P, cs pc = some (mm, P) → ∀ n lv st w, P n lv st w → stp pr nL rk fld cst cstL call ret (wp pr nL rk fld cst cstL call ret (fun q => cutl n (cs q)) fuel) pc lv st w) :
    ∀ (n pc : Nat) (mm : List Bool) (P : Nat → List (Option sv) → List sv → List sc → Prop), cs pc = some (mm, P) → ∀ lv st w, P n lv st w → Zx p l e R s m args below meth c D σ cA A H0 nL (MQ below Qc args s 0 0 free) pc lv st w := by
  intro n
  induction n using Nat.strongRecOn with
  | ind n ih =>
    intro pc mm P hcp lv st w hp
    obtain ⟨i, nx, tg, li, hd, h⟩ := oP_e (show oP _ _ from hinv pc mm P hcp n lv st w hp)
    refine stpi_sound X hf hc hrt (fun pc lv st w q => wp_sound hpr X hf hc hrt hcall hret ?_ fuel pc lv st w q) hcall hret (hpr _ _ hd) h
    intro pc' mm' P' hc' lv' st' w' hp'
    have hc2 : cutl n (cs pc') = some (mm', P') := hc'
    cases h3 : cs pc' with
    | none => rw [h3] at hc2; cases hc2
    | some q =>
      obtain ⟨m2, P2⟩ := q
      rw [h3] at hc2
      cases hc2
      obtain ⟨n', hn', hp'⟩ := hp'
      exact ih n' hn' pc' _ P2 h3 lv' st' w' hp'
end WPS
theorem met_of {y : MethodName} {cc : ByteArray} {pr : Pg} {nL rk d fuel : Nat} {rt : Option FieldType} {fld : Ft} {cst : Nat → Option Int32} {cstL : Nat → Option Int64} {ct : List (Nat × (List sv → List sc → (List sv → List sc → Prop) → Prop))} {as : List sv} {w : List sc} {K : Option sv → List sc → Prop} (cs : Cts)
    (hpr : ∀ pc q, pr pc = some q → xdec cc pc = some q) (hy : plainName y.cls = true) (hf : fdo y.cls fld) (hc : cdo y.cls cst cstL) (hrt : rto rk rt) (hct : CallOK cc nL rt y.cls d ct) (hlen : slen as ≤ nL)
    (hinv : ∀ pc mm P, cs pc = some (mm, P) → ∀ n lv st w, P n lv st w → stp pr nL rk fld cst cstL (ctab ct) K (wp pr nL rk fld cst cstL (ctab ct) K (fun q => cutl n (cs q)) fuel) pc lv st w)
    (hst : wp pr nL rk fld cst cstL (ctab ct) K (fun q => cuts (cs q)) fuel 0 (enL as) [] w)
    (l : Launch) (D : va_G) (σ : Nat → Nat) (cA : Nat → ClassId) (sz : Nat) :
    Met l y (.code y cc nL rt :: uW) (rmd d) (va_Pc (as.map (tv σ)) (wPre D σ cA sz w)) (Qg D σ cA (va_A (tw σ cA 0 w) sz) K) 0 0 (va_A (tw σ cA 0 w) sz) := by
  refine Met.ofW (cc := cc) (maxL := nL) (ret := rt) hy rfl ?_
  intro p e s m args below meth c s₁ B hml hv
  obtain ⟨rfl, hsz, hP, hK, hD0, hnw⟩ := hv
  have hts0 := atoms_spec (ws := .code y cc nL rt :: uW) B.pre
  have hown : s.vm.findClass y.cls = some m.cls := findClass_of_methodNamed B.named
  subst hsz
  have hD := hD0.self (sz := s.heap.size)
  generalize hAe : va_A (tw σ cA 0 w) s.heap.size = A at hD ⊢
  have hA : ∀ q : Nat, s.heap.size ≤ q → A q := fun q h => by rw [← hAe]; exact Or.inr h
  have hS : va_S A s.heap s.heap [] := va_S.rf
  have X : Cx p s m (as.map (tv σ)).toArray meth c D cA cc nL rt y.cls := ⟨B.exec, B.bytes, hml, hown, fun w hw => hts0 w (List.mem_cons_of_mem _ hw), hK, B.notSynchronized, B.returns⟩
  have hcall : ∀ pc st w kk, ctab ct pc st w kk → ∀ lv, (∀ st' w', kk st' w' → Zx p l e (rmd d) s m (as.map (tv σ)).toArray below meth c D σ cA A s.heap nL (MQ below (Qg D σ cA A K) (as.map (tv σ)).toArray s 0 0 A) (pc + 3) lv st' w') → Zx p l e (rmd d) s m (as.map (tv σ)).toArray below meth c D σ cA A s.heap nL (MQ below (Qg D σ cA A K) (as.map (tv σ)).toArray s 0 0 A) pc lv st w := by
    intro pc st w kk h lv hk
    obtain ⟨f, hs, hf⟩ := ctab_use hct h
    exact hs p l e s m _ below meth c D σ cA A _ X hnw hA st w kk hf lv hk
  have hret : ∀ r w, K r w → ∀ H locs, va_P D vwCl (tw σ cA 0 w) H → va_D A (tw σ cA 0 w) → va_S A s.heap H locs → (∀ t : State, t.heap = H → s.WarmedH t.vm → Qg D σ cA A K (as.map (tv σ)).toArray s (.returned (r.map (tv σ))) t) ∧ ∀ q ∈ locs, A q.base := by
    intro r w' hK' H locs hP' hD' hS'
    exact ⟨fun t ht _ => ⟨⟨r, w', rfl, hK', by rw [ht]; exact hP', hD'⟩, hS'.F ht⟩, hS'.2.2⟩
  have hl := lv_entry (as.map (tv σ)) (n := nL) (by rw [slen_ok]; exact hlen)
  rw [lg_entry_eq]
  generalize (lg_sl (as.map (tv σ)) ++ List.replicate (nL - (lg_sl (as.map (tv σ))).length) Slot.unset).toArray = ls at hl ⊢
  have hz := wp_sound (p := p) (l := l) (e := e) (R := rmd d) (below := below) (σ := σ) (A := A) (H0 := s.heap) (Qc := Qg D σ cA A K) (free := A) hpr X hf hc hrt hcall hret (cut := fun q => cuts (cs q)) (by
    intro pc mm P hcp lv st w hp
    cases h3 : cs pc with
    | none => simp [h3, cuts] at hcp
    | some q =>
      obtain ⟨m2, P2⟩ := q
      simp only [h3, cuts, Option.some.injEq, Prod.mk.injEq] at hcp
      obtain ⟨rfl, rfl⟩ := hcp
      obtain ⟨n, hp⟩ := hp
      exact cuts_sound hpr X hf hc hrt hcall hret hinv n pc m2 P2 h3 lv st w hp) fuel 0 (enL as) [] w hst
  exact hz s.heap [] ls hP hD hS (lvh_sub hl (enL_ok σ as 0))
