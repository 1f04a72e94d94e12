/-! ===== the law's own element ===== -/
def hhE : List (Nat × Nat × Nat × Nat) := [(0, 9, 12, 13), (0, 9, 16, 15)]
def F_L_element : Fn := fun as w K => ∃ (s m k : InnS) (hi : Int32) (us : Nat → ShS) (dr od py : PA) (r : InnS) (q : Pm) (t : Tm) (ou : Nat → Int64) (d i : Int32), as = [sR 0, sI d, sI i, sR 65] ∧ w = LWd s m k hi us dr od py r q t ou ∧ (∀ n, n < 8 → SH (us n)) ∧ ∀ n, n < 8 → (0 ≤ d ∧ d ≤ 7 → n = ix d) → (elT (us n) d i = 0 → K (some (sI 0)) (LWd s m k hi us dr od py r q t (vp_updL ou (Int32.toNatClampNeg 0) (uC (us n) (ix i)).toInt64))) ∧ (elT (us n) d i = 1 → K (some (sI 1)) (LWd s m k hi us dr od py r q t ou)) ∧ (elT (us n) d i = 2 → K (some (sI 2)) (LWd s m k hi us dr od py r q t ou))
def Fe (F : Fx) : Fn := fun as w K => F as w (fun r w' => (∃ v, r = some (sL v)) ∧ K r w') (fun E w' => (E = nIAE ∧ K (some (sI 1)) w') ∨ (E = nISE ∧ K (some (sI 2)) w'))
theorem el_m {as : List sv} {w : List sc} {K K' : Option sv → List sc → Prop} {KX KX' : String → List sc → Prop} (hk : ∀ r w', K r w' → K' r w') (hx : ∀ E w', KX E w' → KX' E w') (h : F_X5_element as w K KX) : F_X5_element as w K' KX' := by
  obtain ⟨r2, r4, r5, hi, s, m, f, u, d, i, h1, h2, h3, h4, h5, h6⟩ := h
  exact ⟨r2, r4, r5, hi, s, m, f, u, d, i, h1, h2, h3, fun z => hk _ _ (h4 z), fun z => hx _ _ (h5 z), fun z => hx _ _ (h6 z)⟩
theorem cEX_el {as : List sv} {w : List sc} {kk : Option sv → List sc → Prop} (h : cE (some 3) (Fe F_X5_element) as w kk) : cEX (some 3) F_X5_element as w (fun r w' => (∃ v, r = some (sL v)) ∧ kk r w') (fun E w' => (E = nIAE ∧ kk (some (sI 1)) w') ∨ (E = nISE ∧ kk (some (sI 2)) w')) := by
  obtain ⟨is, hn, h⟩ := h
  obtain ⟨cs, h1, h2, h3⟩ := pick_e h
  refine ⟨is, hn, pick_i h2 h3 (rok_i h1 (fun h1 => el_m ?_ ?_ h1))⟩
  · rintro r wc ⟨⟨v, rfl⟩, hk⟩
    exact ck_i hk (fun hk => ⟨⟨v, rfl⟩, hk⟩)
  · rintro E wc (⟨rfl, hk⟩ | ⟨rfl, hk⟩)
    · exact ck_i hk (fun hk => Or.inl ⟨rfl, hk⟩)
    · exact ck_i hk (fun hk => Or.inr ⟨rfl, hk⟩)
def cuE (st0 : List sv) (w0 : List sc) : Cuy := fun z => cond (Nat.beq z 5) (some ([], fun lv st w => lv = [] ∧ st = st0 ∧ w = w0)) none
def reE : List Nat := [15, 19, 21]
theorem reE_ok : ∀ z ∈ reE, decode cL_element z = .ok (.ireturn, 1) := List.forall_mem_cons.mpr ⟨by decide +kernel, List.forall_mem_cons.mpr ⟨by decide +kernel, List.forall_mem_cons.mpr ⟨by decide +kernel, fun _ h => nomatch h⟩⟩⟩
def kkE (w0 : List sc) (us : Nat → ShS) (d i : Int32) : Option sv → List sc → Prop := fun r w' => w' = w0 ∧ ∃ n, n < 8 ∧ (0 ≤ d ∧ d ≤ 7 → n = ix d) ∧ ((elT (us n) d i = 0 ∧ r = some (sL (uC (us n) (ix i)).toInt64)) ∨ (elT (us n) d i = 1 ∧ r = some (sI 1)) ∨ (elT (us n) d i = 2 ∧ r = some (sI 2)))
theorem el_k {s m k : InnS} {hi : Int32} {us : Nat → ShS} {dr od py : PA} {rest : List sc} {d i : Int32} (hall : ∀ n, n < 8 → SH (us n)) : cE (some 3) (Fe F_X5_element) [sR 0, sI d, sI i] (XW s m k hi us dr od py ++ rest) (kkE (XW s m k hi us dr od py ++ rest) us d i) := by
  refine eSd ⟨fun _ => rfl, fun _ => rfl⟩ (fun n8 hn8 hn r2 r4 r5 f K hf hK1 hK2 => ⟨r2, r4, r5, hi, s, m, f, us n8, d, i, rfl, rfl, fun z => ⟨hf z, hall n8 hn8⟩, fun z => ⟨⟨_, rfl⟩, ?_⟩, fun z => Or.inl ⟨rfl, ?_⟩, fun z => Or.inr ⟨rfl, ?_⟩⟩)
  · exact hK1 _ _ _ ⟨fun _ => rfl, fun _ => rfl⟩ ⟨rfl, n8, hn8, hn, Or.inl ⟨z, rfl⟩⟩
  · exact hK1 _ _ _ ⟨fun _ => rfl, fun _ => rfl⟩ ⟨rfl, n8, hn8, hn, Or.inr (Or.inl ⟨z, rfl⟩)⟩
  · exact hK1 _ _ _ ⟨fun _ => rfl, fun _ => rfl⟩ ⟨rfl, n8, hn8, hn, Or.inr (Or.inr ⟨z, rfl⟩)⟩
theorem LW_put {s m k : InnS} {hi : Int32} {us : Nat → ShS} {dr od py : PA} {r : InnS} {q : Pm} {t : Tm} {ou o2 : Nat → Int64} : snth (LWd s m k hi us dr od py r q t ou) 65 (aL 1 o2) = LWd s m k hi us dr od py r q t o2 := rfl
theorem LW_nth {s m k : InnS} {hi : Int32} {us : Nat → ShS} {dr od py : PA} {r : InnS} {q : Pm} {t : Tm} {ou : Nat → Int64} : nth (LWd s m k hi us dr od py r q t ou) 65 = some (aL 1 ou) := rfl
theorem sI_ne {a b : Int32} (h : ¬ a = b) : ¬ (some (sI a) : Option sv) = some (sI b) := fun z => h (Sum.inl.inj (Option.some.inj z))
/-- an int isn't a long -/
theorem sI_sL {a : Int32} {b : Int64} : ¬ (some (sI a) : Option sv) = some (sL b) := fun z => by cases z
section LEL
variable {p : Program} {l : Launch} {e : Env} {s : State} {m : MethodId} {args : Array Value} {below : List Frame} {meth : Method} {c : Code} {D : va_G} {σ : Nat → Nat} {cA : Nat → ClassId} {A : Nat → Prop}
theorem Lel_5 {K : Option sv → List sc → Prop} {XC : String → State → State → Prop} {s' m' k : InnS} {hi : Int32} {us : Nat → ShS} {dr od py : PA} {r : InnS} {q : Pm} {t : Tm} {ou : Nat → Int64} {d i : Int32} (hl : l.stackTraces = false) (X : Cx p s m args meth c D cA cL_element 5 (some .int) RL) (hnw : NW s) (hXP : XP A s) (htab : c.exceptionTable.toList = tableOf hhE) (hA : ∀ q, s.heap.size ≤ q → A q) (hall : ∀ n, n < 8 → SH (us n))
    (hK : ∀ n, n < 8 → (0 ≤ d ∧ d ≤ 7 → n = ix d) → (elT (us n) d i = 0 → K (some (sI 0)) (LWd s' m' k hi us dr od py r q t (vp_updL ou (Int32.toNatClampNeg 0) (uC (us n) (ix i)).toInt64))) ∧ (elT (us n) d i = 1 → K (some (sI 1)) (LWd s' m' k hi us dr od py r q t ou)) ∧ (elT (us n) d i = 2 → K (some (sI 2)) (LWd s' m' k hi us dr od py r q t ou))) :
    Zy p l e (rmN 9 1 6) s m args below meth c D σ cA A s.heap 5 0 0 (vx_MQ below (Qg D σ cA A K) XC args s 1 6 A) 5 [] [sI i, sI d, sR 0, sI 0, sR 65] (LWd s' m' k hi us dr od py r q t ou) := by
  have hgo : ∀ (n pc : Nat) (lv : List (Option sv)) (st : List sv) (w : List sc), wpy (lkB pL_element) 5 no3 noI noL (fun _ _ _ _ => False) (cuR K reE) n pc lv st w → Zy p l e (rmN 9 1 6) s m args below meth c D σ cA A s.heap 5 1 6 (vx_MQ below (Qg D σ cA A K) XC args s 1 6 A) pc lv st w := fun n pc lv st w h =>
    wpy_sound pL_element_ok X fdo_n cdo_n (fun _ _ _ _ h => h.elim) (cuR_ok X reE_ok (Nat.le_refl _) (Nat.le_refl _)) n pc lv st w h
  refine site_X (as := [sR 0, sI d, sI i]) (rest := [sI 0, sR 65]) hA (run_VX hl X hnw hXP hA (pL_element_ok 5 _ rfl) ct_X5_element kX5_element lRL_7 ⟨by decide, by decide⟩) (cEX_el (el_k hall)) rfl (by decide) (Nat.le_refl _) (Nat.le_refl _) ?_ ?_
  · rintro r9 w' ⟨⟨v, rfl⟩, rfl, n, hn, hd, h⟩
    rcases h with ⟨h1, h2⟩ | ⟨h1, h2⟩ | ⟨h1, h2⟩
    · have h3 := (hK n hn hd).1 h1
      rw [← show v = _ from Sum.inl.inj (Sum.inr.inj (Option.some.inj h2)), ← LW_put (ou := ou)] at h3
      refine hgo 20 8 _ _ _ ?_
      show wpy _ _ _ _ _ _ _ _ _ _ _ (LWd s' m' k hi us dr od py r q t ou)
      have h4 := LW_nth (s := s') (m := m') (k := k) (hi := hi) (us := us) (dr := dr) (od := od) (py := py) (r := r) (q := q) (t := t) (ou := ou)
      generalize LWd s' m' k hi us dr od py r q t ou = w9 at h3 h4 ⊢
      conv => whnf
      rw [h4]
      conv => whnf
      refine ⟨show vp_in (nI 0) 1 from vp_in_nI (by decide) (by decide), ?_⟩
      conv => whnf
      exact ⟨_, rfl, h3⟩
    · exact absurd h2.symm sI_sL
    · exact absurd h2.symm sI_sL
  · rintro E w' (⟨rfl, rfl, n, hn, hd, h⟩ | ⟨rfl, rfl, n, hn, hd, h⟩)
    · have h3 : elT (us n) d i = 1 := by
        rcases h with ⟨h1, h2⟩ | ⟨h1, h2⟩ | ⟨h1, h2⟩
        · exact absurd h2 sI_sL
        · exact h1
        · exact absurd h2 (sI_ne (by decide))
      have h3 := (hK n hn hd).2.1 h3
      refine z_catch (name := nIAE) (n := 4) (hp := 12) X [] ⟨0, 9, 12, 13⟩ _ htab (fun z h => nomatch h) rfl (by decide) (uw1 (by decide +kernel)) (XB_use hXP.2.2.1 _ (List.mem_of_getElem? (i := 3) rfl)) rfl (by decide +kernel) (by decide) (hgo 20 14 _ _ _ ?_)
      show wpy _ _ _ _ _ _ _ _ _ _ _ (LWd s' m' k hi us dr od py r q t ou)
      generalize LWd s' m' k hi us dr od py r q t ou = w9 at h3 ⊢
      conv => whnf
      exact ⟨_, rfl, h3⟩
    · have h3 : elT (us n) d i = 2 := by
        rcases h with ⟨h1, h2⟩ | ⟨h1, h2⟩ | ⟨h1, h2⟩
        · exact absurd h2 sI_sL
        · exact absurd h2 (sI_ne (by decide))
        · exact h1
      have h3 := (hK n hn hd).2.2 h3
      refine z_catch (name := nISE) (n := 4) (hp := 16) X [⟨0, 9, 12, 13⟩] ⟨0, 9, 16, 15⟩ _ htab (fun z h => by rcases List.mem_cons.mp h with rfl | h; exact Or.inr ⟨by decide, nIAE, X.2.2.2.2.1 _ (uw1 (by decide +kernel)), hXP.2.2.2.1.1⟩; cases h) rfl (by decide) (uw1 (by decide +kernel)) (XB_use hXP.2.2.1 _ (List.mem_of_getElem? (i := 4) rfl)) rfl (by decide +kernel) (by decide) (hgo 20 18 _ _ _ ?_)
      show wpy _ _ _ _ _ _ _ _ _ _ _ (LWd s' m' k hi us dr od py r q t ou)
      generalize LWd s' m' k hi us dr od py r q t ou = w9 at h3 ⊢
      conv => whnf
      exact ⟨_, rfl, h3⟩
end LEL
theorem ct_L_element : CtH yL_element cL_element 5 (some .int) hhE 9 F_L_element := by
  intro l D σ cA sz as w K hl h
  obtain ⟨s0, m0, k, hi, us, dr, od, py, r, q, t, ou, d, i, rfl, rfl, hall, hK⟩ := h
  refine metH (by decide +kernel) (Nat.le_of_ble_eq_true rfl) ?_
  intro p e s m below meth c A X hnw hXP htab hA
  refine wpy_sound (pr := lkB pL_element) (fld := no3) (cst := noI) (cstL := noL) (call := fun _ _ _ _ => False) (cut := cuE [sI i, sI d, sR 0, sI 0, sR 65] (LWd s0 m0 k hi us dr od py r q t ou)) pL_element_ok X fdo_n cdo_n (fun _ _ _ _ h => h.elim) ?_ 20 0 _ _ _ ?_
  · intro pc mm P hcp
    unfold cuE at hcp
    cases e1 : Nat.beq pc 5 with
    | true =>
      rw [e1] at hcp; cases hcp
      have := Nat.eq_of_beq_eq_true e1
      subst this
      rintro lv st w' ⟨rfl, rfl, rfl⟩
      exact Lel_5 hl X hnw hXP htab hA hall hK
    | false => rw [e1] at hcp; cases hcp
  · generalize LWd s0 m0 k hi us dr od py r q t ou = w9
    conv => whnf
    exact ⟨rfl, rfl, rfl⟩
/-! ===== how the law calls methods with handlers ===== -/
theorem good_codeW {y : MethodName} {cc : ByteArray} {nL : Nat} {rt : Option FieldType} {hh : List (Nat × Nat × Nat × Nat)} (h : Cond.codeWith y cc nL rt hh ∈ uW) : GoodIn uW (.codeWith y cc nL rt hh :: uW) := by
  intro w hw
  rcases List.mem_cons.mp hw with rfl | hw
  · exact uW_good _ h
  · exact uW_good _ hw
section RUNH
variable {p : Program} {l : Launch} {e : Env} {R : Room} {s : State} {m : MethodId} {args : Array Value} {below : List Frame} {meth : Method} {c : Code} {D : va_G} {σ : Nat → Nat} {cA : Nat → ClassId} {A : Nat → Prop} {nL : Nat}
theorem vx_noX {H : Heap} {locs : List Loc} {cl sl mc ms : Nat} {g : JFrame} {rest : List Value} {Qa : State → Outcome → State → Prop} {free : Addr → Prop} (h : vx_Run p l e R s m args below meth c H locs cl sl mc ms g rest Qa (fun _ _ _ => False) free) : va_Run p l e R s m args below meth c H locs cl sl mc ms g rest Qa free := by
  intro T hT X
  rcases h T hT X with h | ⟨q, st₀, t, T', L, E, ce, h0, X', hL, e1, e2, hX, -⟩
  · exact h
  · exact hX.elim
theorem run_VH {cc cc' : ByteArray} {nL' d' pc idx na ci nx tg N : Nat} {T : u_T} {li : Int32} {rt rt' : Option FieldType} {hh : List (Nat × Nat × Nat × Nat)} {own : String} {y : MethodName} {F : Fn} (hl0 : l.stackTraces = false) (X : Cx p s m args meth c D cA cc nL rt own) (hnw : NW s) (hXP : XP A s) (hA : ∀ q, s.heap.size ≤ q → A q) (hd : xdec cc pc = some (.invokevirtual idx, nx, tg, li)) (hct : CtH y cc' nL' rt' hh d' F) (hcode : Cond.codeWith y cc' nL' rt' hh ∈ uW) (hst : Cond.instanceMethod y ∈ uW) (hse : Cond.selects y.cls y y ∈ uW) (hin : Cond.initialized y.cls ∈ uW) (hdd : y.cls ≠ "java/lang/invoke/MethodHandle" ∧ y.cls ≠ "java/lang/invoke/VarHandle" ∧ (parseMethodDescriptor y.desc).map (fun d => d.parameters.length) = some na) (hci : vwCl[ci]? = some (y.cls, T, N)) (hl : Cond.methodLink own idx y ∈ uW) (hnl : nL' ≤ 81) (hR : d' + 1 ≤ R.frames ∧ 100 * d' + 100 ≤ R.locals) : RunC p l e R s m args below meth c D cA A nL pc (some ci) (na + 1) 1 6 F := by
  have hdg := xd_V hd
  intro σ H locs ls as w K restV cl sl hF hlen hrok hP hD hS hls hrc hc0 hs0
  obtain ⟨hx, hb, hml, hown, hts, hK, hlocks, hr⟩ := X
  have hM := hct l D σ cA H.size as w K hl0 hF
  have hsg : ∀ sig, parseMethodDescriptor y.desc = some sig → na = sig.parameters.length := fun sig h => by
    have h2 := hdd.2.2
    rw [h] at h2
    exact (Option.some.inj h2).symm
  have cw : vx_CVW R s args own y.cls idx y cc' nL' rt' hh (.codeWith y cc' nL' rt' hh :: uW) (rmN d' 1 6) 1 6 na := ⟨⟨rfl, rfl, hR.1, by show 8 + (nL' + 11) + 100 * d' ≤ R.locals; omega, pay_in hts (good_codeW hcode), List.mem_cons_self⟩, hts _ hcode, hts _ hin, ⟨hdd.1, hdd.2.1⟩, hsg, hts _ hl, hts _ hst, hts _ hse⟩
  match as, hrok with
  | .inr (.inr (some k)) :: as', hrok =>
    obtain ⟨cj, fs, hw, hcj⟩ := cO_e hrok; obtain ⟨rfl, -⟩ := cq_e hcj
    have he := tw_nth (σ := σ) (cA := cA) (k := 0) hw
    rw [Nat.zero_add] at he
    have hst' : (((.inr (.inr (some k)) :: as' : List sv).map (tv σ)).reverse ++ restV) = (as'.map (tv σ)).reverse ++ Value.ref (σ k) :: restV := by simp [tv, va_rf]
    rw [hst']
    exact vx_noX (vx_runVX (C := y.cls) (As := as'.map (tv σ)) (rest := restV) (nL := nL) (n := na) ⟨hx, hb, hml, hown, hts⟩ hM cw ⟨XP_blind, va_recv hK hP hci he, fun U hU hW => ⟨rfl, wPre_at hK hnw hP hD U hU hW, XP_at hXP hS (A_sub hA hD hS) hU hW⟩⟩ rfl (by rw [List.length_map]; simpa using hlen) hls rfl (lv_room hrc) hdg ⟨hc0, hs0⟩)
theorem run_SH {cc cc' : ByteArray} {nL' d' pc idx na nx tg : Nat} {li : Int32} {rt rt' : Option FieldType} {hh : List (Nat × Nat × Nat × Nat)} {own : String} {y : MethodName} {F : Fn} (hl0 : l.stackTraces = false) (X : Cx p s m args meth c D cA cc nL rt own) (hnw : NW s) (hXP : XP A s) (hA : ∀ q, s.heap.size ≤ q → A q) (hd : xdec cc pc = some (.invokestatic idx, nx, tg, li)) (hct : CtH y cc' nL' rt' hh d' F) (hcode : Cond.codeWith y cc' nL' rt' hh ∈ uW) (hst : Cond.static y ∈ uW) (hin : Cond.initialized y.cls ∈ uW) (hdd : y.cls ≠ "java/lang/invoke/MethodHandle" ∧ y.cls ≠ "java/lang/invoke/VarHandle" ∧ (parseMethodDescriptor y.desc).map (fun d => d.parameters.length) = some na) (hl : Cond.methodLink own idx y ∈ uW) (hnl : nL' ≤ 81) (hR : d' + 1 ≤ R.frames ∧ 100 * d' + 100 ≤ R.locals) : RunC p l e R s m args below meth c D cA A nL pc none na 1 6 F := by
  have hdg := xd_S hd
  intro σ H locs ls as w K restV cl sl hF hlen hrok hP hD hS hls hrc hc0 hs0
  obtain ⟨hx, hb, hml, hown, hts, hK, hlocks, hr⟩ := X
  have hM := hct l D σ cA H.size as w K hl0 hF
  have hsg : ∀ sig, parseMethodDescriptor y.desc = some sig → na = sig.parameters.length := fun sig h => by
    have h2 := hdd.2.2
    rw [h] at h2
    exact (Option.some.inj h2).symm
  have cw : vx_CSW R s args own idx y cc' nL' rt' hh (.codeWith y cc' nL' rt' hh :: uW) (rmN d' 1 6) 1 6 na := ⟨⟨rfl, rfl, hR.1, by show 8 + (nL' + 11) + 100 * d' ≤ R.locals; omega, pay_in hts (good_codeW hcode), List.mem_cons_self⟩, hts _ hcode, hts _ hin, ⟨hdd.1, hdd.2.1⟩, hsg, hts _ hl, hts _ hst⟩
  exact vx_noX (vx_runSX (As := as.map (tv σ)) (rest := restV) (nL := nL) ⟨hx, hb, hml, hown, hts⟩ hM cw ⟨XP_blind, fun U hU hW => ⟨rfl, wPre_at hK hnw hP hD U hU hW, XP_at hXP hS (A_sub hA hD hS) hU hW⟩⟩ rfl (by rw [List.length_map]; exact hlen) hls rfl (lv_room hrc) hdg ⟨hc0, hs0⟩)
end RUNH
