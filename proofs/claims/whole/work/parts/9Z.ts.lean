/-! ===== methods with handlers ===== -/
def CtH (y : MethodName) (cc : ByteArray) (nL : Nat) (rt : Option FieldType) (hh : List (Nat × Nat × Nat × Nat)) (d : Nat) (F : Fn) : Prop :=
  ∀ (l : Launch) (D : va_G) (σ : Nat → Nat) (cA : Nat → ClassId) (sz : Nat) (as : List sv) (w : List sc) (K : Option sv → List sc → Prop), l.stackTraces = false → F as w K →
    vx_Met l y (.codeWith y cc nL rt hh :: uW) (rmN d 1 6) (va_Pc (as.map (tv σ)) (fun U => wPre D σ cA sz w U ∧ XP (va_A (tw σ cA 0 w) sz) U)) (Qg D σ cA (va_A (tw σ cA 0 w) sz) K) (fun _ _ _ => False) 1 6 (va_A (tw σ cA 0 w) sz)
theorem metH {y : MethodName} {cc : ByteArray} {nL d : Nat} {rt : Option FieldType} {hh : List (Nat × Nat × Nat × Nat)} {as : List sv} {w : List sc} {K : Option sv → List sc → Prop} {l : Launch} {D : va_G} {σ : Nat → Nat} {cA : Nat → ClassId} {sz : Nat} (hy : plainName y.cls = true) (hlen : slen as ≤ nL)
    (body : ∀ (p : Program) (e : Env) (s : State) (m : MethodId) (below : List Frame) (meth : Method) (c : Code) (A : Nat → Prop), Cx p s m (as.map (tv σ)).toArray meth c D cA cc nL rt y.cls → NW s → XP A s → c.exceptionTable.toList = tableOf hh → (∀ q, s.heap.size ≤ q → A q) → Zy p l e (rmN d 1 6) s m (as.map (tv σ)).toArray below meth c D σ cA A s.heap nL 0 0 (vx_MQ below (Qg D σ cA A K) (fun _ _ _ => False) (as.map (tv σ)).toArray s 1 6 A) 0 (enL as) [] w) :
    vx_Met l y (.codeWith y cc nL rt hh :: uW) (rmN d 1 6) (va_Pc (as.map (tv σ)) (fun U => wPre D σ cA sz w U ∧ XP (va_A (tw σ cA 0 w) sz) U)) (Qg D σ cA (va_A (tw σ cA 0 w) sz) K) (fun _ _ _ => False) 1 6 (va_A (tw σ cA 0 w) sz) := by
  refine vx_ofWH (cc := cc) (maxL := nL) (ret := rt) (hh := hh) hy rfl ?_
  intro p e s m args below meth c s₁ B hml hv
  obtain ⟨rfl, ⟨hsz, hP, hK, hD0, hnws⟩, hex⟩ := hv
  have hts0 := atoms_spec (ws := .codeWith y cc nL rt hh :: uW) B.pre
  have htab := vx_table (x := y) B (hts0 _ List.mem_cons_self)
  have hown : s.vm.findClass y.cls = some m.cls := findClass_of_methodNamed B.named
  subst hsz
  have hD := hD0.self (sz := s.heap.size)
  generalize hAe : va_A (tw σ cA 0 w) s.heap.size = A at hD hex ⊢
  have hA : ∀ q : Nat, s.heap.size ≤ q → A q := fun q h => by rw [← hAe]; exact Or.inr h
  have hS : va_S A s.heap s.heap [] := va_S.rf
  have X : Cx p s m (as.map (tv σ)).toArray meth c D cA cc nL rt y.cls := ⟨B.exec, B.bytes, hml, hown, fun w hw => hts0 w (List.mem_cons_of_mem _ hw), hK, B.notSynchronized, B.returns⟩
  have hl := lv_entry (as.map (tv σ)) (n := nL) (by rw [slen_ok]; exact hlen)
  rw [lg_entry_eq]
  generalize (lg_sl (as.map (tv σ)) ++ List.replicate (nL - (lg_sl (as.map (tv σ))).length) Slot.unset).toArray = ls at hl ⊢
  exact body p e s m below meth c A X hnws hex htab hA s.heap [] ls hP hD hS (lvh_sub hl (enL_ok σ as 0))
/-- the ends of a method that answers an int -/
def cuR (K : Option sv → List sc → Prop) (zs : List Nat) : Cuy := fun z => cond (List.elem z zs) (some ([], fun _ st w => ∃ x, st = [sI x] ∧ K (some (sI x)) w)) none
section CUR
variable {p : Program} {l : Launch} {e : Env} {R : Room} {s : State} {m : MethodId} {args : Array Value} {below : List Frame} {meth : Method} {c : Code} {D : va_G} {σ : Nat → Nat} {cA : Nat → ClassId} {A : Nat → Prop} {nL : Nat}
theorem cuR_ok {cc : ByteArray} {own : String} {XC : String → State → State → Prop} {K : Option sv → List sc → Prop} {zs : List Nat} {cl sl : Nat} (X : Cx p s m args meth c D cA cc nL (some .int) own) (hz : ∀ z ∈ zs, decode cc z = .ok (.ireturn, 1)) (h1 : cl ≤ 1) (h2 : sl ≤ 6) : ∀ pc mm P, cuR K zs pc = some (mm, P) → ∀ lv st w, P lv st w → Zy p l e R s m args below meth c D σ cA A s.heap nL cl sl (vx_MQ below (Qg D σ cA A K) XC args s 1 6 A) pc lv st w := by
  intro pc mm P h
  unfold cuR at h
  cases e1 : List.elem pc zs with
  | false => rw [e1] at h; cases h
  | true =>
    rw [e1] at h; cases h
    rintro lv st w ⟨x, rfl, hk⟩
    exact zretI X h1 h2 (hz pc (List.mem_of_elem_eq_true e1)) hk
end CUR
/-! ===== toss of the class ===== -/
noncomputable def tsV (k f : Int32) : Int32 := if k = 1 ∨ k = 4 ∨ k = 6 ∨ f = 0 then -15 else if k = 2 ∨ k = 5 then 100 + f else if k = 7 then 200 + costK k f else f
theorem to_0 {u : ShS} {d : Int32} (h : reF u d 1 = 0) : toR u d = tsV (uK u) (uF u) := by unfold toR; rw [if_pos h]; unfold tsV; rfl
theorem ts_n {k f : Int32} (h : fxN k f) : tsV k f = -15 := by
  unfold tsV; rw [if_pos (by rcases h with h | h | h | h <;> simp [h])]
theorem ts_0 {k f : Int32} (h : ¬ fxN k f) : ¬ (k = 1 ∨ k = 4 ∨ k = 6 ∨ f = 0) := fun z => h (by rcases z with z | z | z | z <;> simp [fxN, z])
theorem ts_1 {k f : Int32} (h : ¬ fxN k f) (h1 : k = 2 ∨ k = 5) : tsV k f = 100 + f := by unfold tsV; rw [if_neg (ts_0 h), if_pos h1]
theorem ts_2 {k f : Int32} (h : ¬ fxN k f) (h1 : ¬ (k = 2 ∨ k = 5)) (h2 : k = 7) : tsV k f = 200 + costK k f := by unfold tsV; rw [if_neg (ts_0 h), if_neg h1, if_pos h2]
theorem ts_3 {k f : Int32} (h : ¬ fxN k f) (h1 : ¬ (k = 2 ∨ k = 5)) (h2 : ¬ k = 7) : tsV k f = f := by unfold tsV; rw [if_neg (ts_0 h), if_neg h1, if_neg h2]
def hhT : List (Nat × Nat × Nat × Nat) := [(33, 39, 42, 274), (33, 39, 50, 306), (33, 39, 63, 284)]
def F_X5_toss : Fn := fun as w K => ∃ (r2 r4 r5 : sv) (hi : Int32) (s m : InnS) (f : Nat → Option Nat) (u : ShS) (d : Int32), as = [sR 0, sI d] ∧ w = xS r2 r4 r5 hi s m f u ∧ (0 ≤ d ∧ d ≤ 7 → f (ix d) = some 16 ∧ SH u) ∧ K (some (sI (toR u d))) w
def ctb_X5_toss : List (Nat × (List sv → List sc → (List sv → List sc → Prop) → Prop)) := [(2, cS (some 3) 2 F_X5_kindRefusal), (58, cS none 2 F_X1_price)]
def lv34 (k f : Int32) : List (Option sv) := [none, none, none, some (sI k), some (sI f)]
def cuT (K : Option sv → List sc → Prop) : Cuy := fun z => cond (Nat.beq z 36) (some ([false, false, false, true, true], fun lv st w => ∃ k f, lv = lv34 k f ∧ st = [sI f, sI k] ∧ (rng 10 f ∧ rng 8 k) ∧ K (some (sI (tsV k f))) w)) (cuR K [11] z)
def reT : List Nat := [49, 62, 67, 70]
theorem reT_ok : ∀ z ∈ reT, decode cX5_toss z = .ok (.ireturn, 1) := List.forall_mem_cons.mpr ⟨by decide +kernel, List.forall_mem_cons.mpr ⟨by decide +kernel, List.forall_mem_cons.mpr ⟨by decide +kernel, List.forall_mem_cons.mpr ⟨by decide +kernel, fun _ h => nomatch h⟩⟩⟩⟩
section TOSS
variable {p : Program} {l : Launch} {e : Env} {s : State} {m : MethodId} {args : Array Value} {below : List Frame} {meth : Method} {c : Code} {D : va_G} {σ : Nat → Nat} {cA : Nat → ClassId} {A : Nat → Prop}
theorem toss_call {Q : State → Prop} {cl sl : Nat} (X : Cx p s m args meth c D cA cX5_toss 6 (some .int) RX5) (hnw : NW s) (hA : ∀ q, s.heap.size ≤ q → A q) (h1 : cl ≤ 1) (h2 : sl ≤ 6) : ∀ pc st w kk, ctab ctb_X5_toss pc st w kk → ∀ lv, (∀ st' w', kk st' w' → Zy p l e (rmN 8 1 6) s m args below meth c D σ cA A s.heap 6 cl sl Q (pc + 3) lv st' w') → Zy p l e (rmN 8 1 6) s m args below meth c D σ cA A s.heap 6 cl sl Q pc lv st w := by
  intro pc st w kk h lv hk
  obtain ⟨g, hg, h⟩ := ctab_in h
  rcases List.mem_cons.mp hg with hg | hg
  · cases hg
    exact sitY_s hA (run_VC X hnw (pX5_toss_ok 2 _ rfl) ct_X5_kindRefusal kX5_kindRefusal lRX5_116 ⟨by decide, by decide⟩) h1 h2 h hk
  rcases List.mem_cons.mp hg with hg | hg
  · cases hg
    exact sitY_s hA (run_SC X hnw (pX5_toss_ok 58 _ rfl) ct_X1_price kX1_price lRX5_300 ⟨by decide, by decide⟩) h1 h2 h hk
  · cases hg
/-- from the call of fail to the end -/
theorem toss_36 {K : Option sv → List sc → Prop} {XC : String → State → State → Prop} {k f : Int32} {w : List sc} (hl : l.stackTraces = false) (X : Cx p s m args meth c D cA cX5_toss 6 (some .int) RX5) (hnw : NW s) (hXP : XP A s) (htab : c.exceptionTable.toList = tableOf hhT) (hA : ∀ q, s.heap.size ≤ q → A q) (hf : rng 10 f) (hk8 : rng 8 k) (hK : K (some (sI (tsV k f))) w) :
    Zy p l e (rmN 8 1 6) s m args below meth c D σ cA A s.heap 6 0 0 (vx_MQ below (Qg D σ cA A K) XC args s 1 6 A) 36 (lv34 k f) [sI f, sI k] w := by
  have hgo : ∀ (n pc : Nat) (lv : List (Option sv)), wpy (lkB pX5_toss) 6 (lkB flX5) (lkB csX5) (lkB clX5) (ctab ctb_X5_toss) (cuR K reT) n pc lv [] w → Zy p l e (rmN 8 1 6) s m args below meth c D σ cA A s.heap 6 1 6 (vx_MQ below (Qg D σ cA A K) XC args s 1 6 A) pc lv [] w := fun n pc lv h =>
    wpy_sound pX5_toss_ok X fdX5 cdX5 (toss_call X hnw hA (Nat.le_refl _) (Nat.le_refl _)) (cuR_ok X reT_ok (Nat.le_refl _) (Nat.le_refl _)) n pc lv [] w h
  refine site_X (as := [sI k, sI f]) (rest := []) (kk := fun r w' => (r = none ∧ w' = w) ∧ fxN k f) (kx := fun E w' => (E = fxE k ∧ w' = w) ∧ ¬ fxN k f) hA (run_SX hl X hnw hXP hA (pX5_toss_ok 36 _ rfl) ct_X1_fail kX1_fail lRX5_303 ⟨by decide, by decide⟩) ⟨[], rfl, k, f, rfl, fun h => ⟨⟨rfl, rfl⟩, h⟩, fun h => ⟨⟨rfl, rfl⟩, h⟩⟩ rfl (Nat.zero_le _) (Nat.le_refl _) (Nat.le_refl _) ?_ ?_
  · rintro r w' ⟨⟨rfl, rfl⟩, hn⟩
    refine hgo 20 39 _ ?_
    conv => whnf
    exact ⟨_, rfl, kI hK (ts_n hn)⟩
  · rintro E w' ⟨⟨rfl, rfl⟩, hn⟩
    by_cases h1 : k = 2 ∨ k = 5
    · have e1 : fxE k = nIAE := by unfold fxE; rw [if_pos h1]
      rw [e1]
      refine z_catch (name := nIAE) (n := 5) (hp := 42) X [] ⟨33, 39, 42, 274⟩ _ htab (fun z h => nomatch h) rfl (by decide) (uw1 (by decide +kernel)) (XB_use hXP.2.2.1 _ (List.mem_of_getElem? (i := 3) rfl)) rfl (by decide +kernel) (by decide) (hgo 20 44 _ ?_)
      conv => whnf
      exact ⟨_, rfl, kI hK (ts_1 hn h1)⟩
    by_cases h2 : k = 7
    · have e1 : fxE k = nUOE := by unfold fxE; rw [if_neg h1, if_pos h2]
      rw [e1]
      refine z_catch (name := nUOE) (n := 5) (hp := 50) X [⟨33, 39, 42, 274⟩] ⟨33, 39, 50, 306⟩ _ htab (fun z h => by rcases List.mem_cons.mp h with rfl | h; exact Or.inr ⟨by decide, nIAE, X.2.2.2.2.1 _ (uw1 (by decide +kernel)), hXP.2.2.2.1.2⟩; cases h) rfl (by decide) (uw1 (by decide +kernel)) (XB_use hXP.2.2.1 _ (List.mem_of_getElem? (i := 5) rfl)) rfl (by decide +kernel) (by decide) (hgo 20 52 _ ?_)
      conv => whnf
      refine ⟨⟨hf, hk8⟩, ?_⟩
      conv => whnf
      exact ⟨_, rfl, kI hK (ts_2 hn h1 h2)⟩
    · have e1 : fxE k = nISE := by unfold fxE; rw [if_neg h1, if_neg h2]
      rw [e1]
      refine z_catch (name := nISE) (n := 5) (hp := 63) X [⟨33, 39, 42, 274⟩, ⟨33, 39, 50, 306⟩] ⟨33, 39, 63, 284⟩ _ htab (fun z h => by rcases List.mem_cons.mp h with rfl | h; exact Or.inr ⟨by decide, nIAE, X.2.2.2.2.1 _ (uw1 (by decide +kernel)), hXP.2.2.2.1.1⟩; rcases List.mem_cons.mp h with rfl | h; exact Or.inr ⟨by decide, nUOE, X.2.2.2.2.1 _ (uw1 (by decide +kernel)), hXP.2.2.2.2.1.2⟩; cases h) rfl (by decide) (uw1 (by decide +kernel)) (XB_use hXP.2.2.1 _ (List.mem_of_getElem? (i := 4) rfl)) rfl (by decide +kernel) (by decide) (hgo 20 65 _ ?_)
      conv => whnf
      exact ⟨_, rfl, kI hK (ts_3 hn h1 h2)⟩
end TOSS
theorem ct_X5_toss : CtH yX5_toss cX5_toss 6 (some .int) hhT 8 F_X5_toss := by
  intro l D σ cA sz as w K hl h
  obtain ⟨r2, r4, r5, hi, s0, m0, f, u, d, rfl, rfl, hf, hK⟩ := h
  refine metH (by decide +kernel) (Nat.le_of_ble_eq_true rfl) ?_
  intro p e s m below meth c A X hnw hXP htab hA
  refine wpy_sound (pr := lkB pX5_toss) (fld := lkB flX5) (cst := lkB csX5) (cstL := lkB clX5) (call := ctab ctb_X5_toss) (cut := cuT K) pX5_toss_ok X fdX5 cdX5 (toss_call X hnw hA (Nat.zero_le _) (Nat.zero_le _)) ?_ 60 0 _ _ _ ?_
  · intro pc mm P hcp
    unfold cuT at hcp
    cases e1 : Nat.beq pc 36 with
    | true =>
      rw [e1] at hcp; cases hcp
      have := Nat.eq_of_beq_eq_true e1
      subst this
      rintro lv st w' ⟨k, fi, rfl, rfl, ⟨h1, h2⟩, hk⟩
      exact toss_36 hl X hnw hXP htab hA h1 h2 hk
    | false =>
      rw [e1] at hcp
      exact cuR_ok (zs := [11]) X (List.forall_mem_cons.mpr ⟨by decide +kernel, fun _ h => nomatch h⟩) (Nat.zero_le _) (Nat.zero_le _) pc mm P hcp
  · conv => whnf
    refine ⟨r2, r4, r5, hi, s0, m0, f, u, d, rfl, rfl, fun z => (hf z).1, ?_⟩
    conv => whnf
    refine ⟨fun hc => ?_, fun hc => ?_⟩
    · obtain ⟨hd, h1⟩ := re_0 hc
      obtain ⟨k1, k2⟩ := (hf hd).2.2.1 h1
      conv => whnf
      refine ⟨sh_in hd, ?_⟩
      rw [(hf hd).1]
      conv => whnf
      refine ⟨sh_in hd, ?_⟩
      rw [(hf hd).1]
      conv => whnf
      exact ⟨_, _, rfl, rfl, ⟨k2, k1⟩, kI hK (to_0 hc)⟩
    · conv => whnf
      exact ⟨_, rfl, kI hK (by unfold toR; rw [if_neg hc])⟩
