/-! ===== element of the class: it throws ===== -/
theorem ctab_in : ∀ {t : List (Nat × (List sv → List sc → (List sv → List sc → Prop) → Prop))} {pc : Nat} {st : List sv} {w : List sc} {kk : List sv → List sc → Prop}, ctab t pc st w kk → ∃ f, (pc, f) ∈ t ∧ f st w kk
  | [], _, _, _, _, h => h.elim
  | (q, f) :: t, pc, st, w, kk, h => by
    unfold ctab at h
    by_cases e : pc = q
    · rw [if_pos e] at h
      exact ⟨f, by rw [e]; exact List.mem_cons_self, h⟩
    · rw [if_neg e] at h
      obtain ⟨g, h1, h2⟩ := ctab_in h
      exact ⟨g, List.mem_cons_of_mem _ h1, h2⟩
section SITY
variable {p : Program} {l : Launch} {e : Env} {R : Room} {s : State} {m : MethodId} {args : Array Value} {below : List Frame} {meth : Method} {c : Code} {D : va_G} {σ : Nat → Nat} {cA : Nat → ClassId} {A : Nat → Prop} {nL : Nat} {Q : State → Prop}
theorem sitY_s {pc na cl sl : Nat} {vk : Option Nat} {F : Fn} (hA : ∀ q, s.heap.size ≤ q → A q) (hR : RunC p l e R s m args below meth c D cA A nL pc vk na 0 0 F) (hc : cl ≤ R.cells) (hs : sl ≤ R.slots) {lv : List (Option sv)} {st : List sv} {w : List sc} {kk : List sv → List sc → Prop} (h : cS vk na F st w kk) (hk : ∀ st' w', kk st' w' → Zy p l e R s m args below meth c D σ cA A s.heap nL cl sl Q (pc + 3) lv st' w') : Zy p l e R s m args below meth c D σ cA A s.heap nL cl sl Q pc lv st w :=
  site_Cs (kk := fun st' w' cl' sl' => (cl' = cl ∧ sl' = sl) ∧ kk st' w') hA hR (popN_m (fun as rest h => ck_i h (fun h => ⟨⟨hc, hs⟩, rok_i h (fun h => by
    have e1 : (fun (r : Option sv) (w' : List sc) => (cl + 0 = cl ∧ sl + 0 = sl) ∧ kk (oL r ++ rest) w') = (fun r w' => kk (oL r ++ rest) w') := by
      funext r w'
      exact propext ⟨fun z => z.2, fun z => ⟨⟨rfl, rfl⟩, z⟩⟩
    show F as w (fun r w' => (cl + 0 = cl ∧ sl + 0 = sl) ∧ kk (oL r ++ rest) w')
    rw [e1]
    exact h)⟩)) h) (fun st' w' cl' sl' z => by
    obtain ⟨⟨rfl, rfl⟩, z⟩ := z
    exact hk st' w' z)
theorem sitY_q {pc na cl sl : Nat} {vk : Option Nat} {F : Fn} (is : List Nat) (hn : va_nd is = true) (hm : ∀ as w (K K' : Option sv → List sc → Prop), (∀ r w', K r w' → K' r w') → F as w K → F as w K') (hA : ∀ q, s.heap.size ≤ q → A q) (hR : RunC p l e R s m args below meth c D cA A nL pc vk na 0 0 F) (hc : cl ≤ R.cells) (hs : sl ≤ R.slots) {lv : List (Option sv)} {st : List sv} {w : List sc} {kk : List sv → List sc → Prop} (h : cQ is vk na F st w kk) (hk : ∀ st' w', kk st' w' → Zy p l e R s m args below meth c D σ cA A s.heap nL cl sl Q (pc + 3) lv st' w') : Zy p l e R s m args below meth c D σ cA A s.heap nL cl sl Q pc lv st w :=
  site_C (kk := fun st' w' cl' sl' => (cl' = cl ∧ sl' = sl) ∧ kk st' w') hA hR (popN_m (fun as rest h => ck_i h (fun h => ⟨⟨hc, hs⟩, is, hn, by
    obtain ⟨cs, h1, h2, h3⟩ := pick_e h
    refine pick_i h2 h3 (rok_i h1 (fun h1 => hm _ _ _ _ ?_ h1))
    rintro r wc ⟨rfl, hk⟩
    rw [show Nat.beq is.length (cs.map (renc is)).length = true by rw [List.length_map, h2]; exact Nat.beq_refl _, putw_same is h2 h3]
    exact ⟨⟨rfl, rfl⟩, hk⟩⟩)) h) (fun st' w' cl' sl' z => by
    obtain ⟨⟨rfl, rfl⟩, z⟩ := z
    exact hk st' w' z)
theorem zretI {cc : ByteArray} {own : String} {XC : String → State → State → Prop} {K : Option sv → List sc → Prop} {pc cl sl : Nat} {lv : List (Option sv)} {x : Int32} {w : List sc} (X : Cx p s m args meth c D cA cc nL (some .int) own) (h1 : cl ≤ 1) (h2 : sl ≤ 6) (hdg : decode cc pc = .ok (.ireturn, 1)) (hk : K (some (sI x)) w) : Zy p l e R s m args below meth c D σ cA A s.heap nL cl sl (vx_MQ below (Qg D σ cA A K) XC args s 1 6 A) pc lv [sI x] w := by
  intro H locs ls hP hD hS hlv
  exact vx_ret (W.widen h1 h2 (W.iret X.1 X.2.1 X.2.2.2.2.2.2.2 (fun t ht _ => ⟨⟨some (sI x), w, rfl, hk, by rw [ht]; exact hP, hD⟩, hS.F ht⟩) hS.2.2 hdg X.2.2.2.2.2.2.1))
theorem zretL {cc : ByteArray} {own : String} {XC : String → State → State → Prop} {K : Option sv → List sc → Prop} {pc cl sl : Nat} {lv : List (Option sv)} {x : Int64} {w : List sc} (X : Cx p s m args meth c D cA cc nL (some .long) own) (h1 : cl ≤ 1) (h2 : sl ≤ 6) (hdg : decode cc pc = .ok (.lreturn, 1)) (hk : K (some (sL x)) w) : Zy p l e R s m args below meth c D σ cA A s.heap nL cl sl (vx_MQ below (Qg D σ cA A K) XC args s 1 6 A) pc lv [sL x] w := by
  intro H locs ls hP hD hS hlv
  exact vx_ret (W.widen h1 h2 (W.lret X.1 X.2.1 X.2.2.2.2.2.2.2 (fun t ht _ => ⟨⟨some (sL x), w, rfl, hk, by rw [ht]; exact hP, hD⟩, hS.F ht⟩) hS.2.2 hdg X.2.2.2.2.2.2.1))
end SITY
theorem zthrSW {p : Program} {l : Launch} {e : Env} {s : State} {m : MethodId} {args : Array Value} {below : List Frame} {meth : Method} {c : Code} {D : va_G} {σ : Nat → Nat} {cA : Nat → ClassId} {A : Nat → Prop} {nL d pc ik is ic : Nat} {cc : ByteArray} {rt : Option FieldType} {own cls text : String} {K : Option sv → List sc → Prop} {KX : String → List sc → Prop} {lv : List (Option sv)} {w : List sc} (hd6 : 6 ≤ d) (hl : l.stackTraces = false) (X : Cx p s m args meth c D cA cc nL rt own) (hXP : XP A s) (hemp : ∀ x ∈ c.exceptionTable.toList, False) (hA : ∀ q, s.heap.size ≤ q → A q) (hstr : ∃ a, vk_R own is text a s) (hfit : Bundle.fit cls = true) (hcl : Cond.classLink own ik cls ∈ uW) (hin : Cond.initialized cls ∈ uW)
    (hw : ((vx_atS own ic cls nmX).filter goodWord).all (fun w => decide (w ∈ lw_tbl)) = true ∧ ((vx_atS own ic cls nmX).filter (fun w => !goodWord w)).all (fun w => decide (w ∈ XBl)) = true ∧ (Cond.classLink own ik cls :: Cond.initialized cls :: vx_atS own ic cls nmX).all vx_ot = true)
    (d0 : decode cc pc = .ok (.new ik, 3)) (d3 : decode cc (pc + 3) = .ok (.dup, 1)) (d4 : decode cc (pc + 4) = .ok (.ldc_w is, 3)) (d7 : decode cc (pc + 7) = .ok (.invokespecial ic, 3)) (d10 : decode cc (pc + 10) = .ok (.athrow, 1)) (hKX : KX cls w)
    : Zy p l e (rmN d 1 6) s m args below meth c D σ cA A s.heap nL 0 0 (vx_MQ below (Qg D σ cA A K) (XG D σ cA A KX) args s 1 6 A) pc lv [] w := by
  obtain ⟨hx, hb, hml, hown, hts, hK, hlocks, hr⟩ := X
  obtain ⟨a, hstr⟩ := hstr
  intro H locs ls hP hD hS hlv
  refine vx_throwSW (A := A) hx hb hl hown hfit (by decide +kernel) (hts _ hcl) (hts _ hin) hstr (xw_of hts hXP.2.2.1 hw.1 hw.2.1) (ot_all hw.2.2) hXP.1.1 hXP.1.2 hS (by rw [hml]; exact hlv.1) d0 d3 d4 d7 d10 (fun x h => (hemp x h).elim) (by show 2 + 3 < d; omega) (by show 0 + (13 * 3 + 43) ≤ 100 * d; omega) (Nat.le_refl _) (Nat.le_refl _) hlocks (fun t hv h1 h2 => ?_) hS.2.2 (Nat.le_refl _) (Nat.le_refl _)
  exact ⟨w, hKX, fun k q h => (hP k q h).kept (h2 _ (hP k q h).lt), hD, va_S.F (locs := locs) ⟨Nat.le_trans hS.1 h1, fun q g1 g2 => by rw [h2 q (Nat.lt_of_lt_of_le g1 hS.1)]; exact hS.2.1 q g1 g2, hS.2.2⟩ rfl⟩
theorem xw_4 : ((vx_atS RX5 278 nIAE nmX).filter goodWord).all (fun w => decide (w ∈ lw_tbl)) = true ∧ ((vx_atS RX5 278 nIAE nmX).filter (fun w => !goodWord w)).all (fun w => decide (w ∈ XBl)) = true ∧ (Cond.classLink RX5 274 nIAE :: Cond.initialized nIAE :: vx_atS RX5 278 nIAE nmX).all vx_ot = true := by decide +kernel
theorem xw_5 : ((vx_atS RX5 288 nISE nmX).filter goodWord).all (fun w => decide (w ∈ lw_tbl)) = true ∧ ((vx_atS RX5 288 nISE nmX).filter (fun w => !goodWord w)).all (fun w => decide (w ∈ XBl)) = true ∧ (Cond.classLink RX5 284 nISE :: Cond.initialized nISE :: vx_atS RX5 288 nISE nmX).all vx_ot = true := by decide +kernel
theorem el_1 {u : ShS} {d i : Int32} (h : ¬ (0 ≤ d ∧ d ≤ 7)) : elT u d i = 1 := by
  have e : reF u d 2 = -1 := by unfold reF; rw [if_neg h]
  unfold elT; rw [if_pos e]
theorem el_2 {u : ShS} {d i : Int32} (hd : 0 ≤ d ∧ d ≤ 7) (h2 : ¬ uO u = 2) : elT u d i = 2 := by
  by_cases h0 : uO u = 0
  · have e : reF u d 2 = -11 := by unfold reF; rw [if_pos hd, if_pos h0]
    unfold elT; rw [e, if_neg (by decide), if_pos (Or.inl (by decide))]
  · have e : reF u d 2 = -12 := by unfold reF; rw [if_pos hd, if_neg h0, if_neg h2]
    unfold elT; rw [e, if_neg (by decide), if_pos (Or.inl (by decide))]
theorem el_r {u : ShS} {d : Int32} (hd : 0 ≤ d ∧ d ≤ 7) (h2 : uO u = 2) : reF u d 2 = 0 := by
  unfold reF; rw [if_pos hd, if_neg (by rw [h2]; decide), if_pos h2]
theorem el_3 {u : ShS} {d i : Int32} (hd : 0 ≤ d ∧ d ≤ 7) (h2 : uO u = 2) (hi : ¬ (0 ≤ i ∧ i ≤ uM u - 1)) : elT u d i = 2 := by
  unfold elT; rw [el_r hd h2, if_neg (by decide), if_pos (Or.inr hi)]
theorem el_0 {u : ShS} {d i : Int32} (hd : 0 ≤ d ∧ d ≤ 7) (h2 : uO u = 2) (hi : 0 ≤ i ∧ i ≤ uM u - 1) : elT u d i = 0 := by
  unfold elT; rw [el_r hd h2, if_neg (by decide), if_neg (fun z => z.elim (fun z => absurd z (by decide)) (fun z => z hi))]
def F_X5_element : Fx := fun as w K KX => ∃ (r2 r4 r5 : sv) (hi : Int32) (s m : InnS) (f : Nat → Option Nat) (u : ShS) (d i : Int32), as = [sR 0, sI d, sI i] ∧ w = xS r2 r4 r5 hi s m f u ∧ (0 ≤ d ∧ d ≤ 7 → f (ix d) = some 16 ∧ SH u) ∧ (elT u d i = 0 → K (some (sL (uC u (ix i)).toInt64)) w) ∧ (elT u d i = 1 → KX nIAE w) ∧ (elT u d i = 2 → KX nISE w)
def ctb_X5_element : List (Nat × (List sv → List sc → (List sv → List sc → Prop) → Prop)) := [(1, cS none 1 F_X5_isShelf), (46, cQ [16, 17] (some 2) 2 F_X3_hasCell)]
def cuXe (K : Option sv → List sc → Prop) (KX : String → List sc → Prop) : Cuy := fun z => cond (Nat.beq z 7) (some ([], fun _ st w => st = [] ∧ KX nIAE w)) (cond (Nat.beq z 33) (some ([], fun _ st w => st = [] ∧ KX nISE w)) (cond (Nat.beq z 52) (some ([], fun _ st w => st = [] ∧ KX nISE w)) (cond (Nat.beq z 70) (some ([], fun _ st w => ∃ x, st = [sL x] ∧ K (some (sL x)) w)) none)))
theorem hasCell_m : ∀ as w (K K' : Option sv → List sc → Prop), (∀ r w', K r w' → K' r w') → F_X3_hasCell as w K → F_X3_hasCell as w K' := fun _ _ _ _ hh ⟨u, i, h1, h2, h⟩ => ⟨u, i, h1, h2, hh _ _ h⟩
theorem ct_X5_element : CtX yX5_element cX5_element 4 (some .long) 7 F_X5_element := by
  intro l D σ cA sz as w K KX hl h
  obtain ⟨r2, r4, r5, hi, s0, m0, f, u, d, i, rfl, rfl, hf, hK0, hK1, hK2⟩ := h
  refine metX (by decide +kernel) (Nat.le_of_ble_eq_true rfl) ?_
  intro p e s m below meth c A X hnw hXP hemp hA
  refine wpy_sound (pr := lkB pX5_element) (fld := lkB flX5) (cst := lkB csX5) (cstL := lkB clX5) (call := ctab ctb_X5_element) (cut := cuXe K KX) pX5_element_ok X fdX5 cdX5 ?_ ?_ 60 0 _ _ _ ?_
  · intro pc st w kk h lv hk
    obtain ⟨g, hg, h⟩ := ctab_in h
    rcases List.mem_cons.mp hg with hg | hg
    · cases hg
      exact sitY_s hA (run_SC X hnw (pX5_element_ok 1 _ rfl) ct_X5_isShelf kX5_isShelf lRX5_246 ⟨by decide, by decide⟩) (Nat.zero_le _) (Nat.zero_le _) h hk
    rcases List.mem_cons.mp hg with hg | hg
    · cases hg
      exact sitY_q [16, 17] (by decide) hasCell_m hA (run_VC X hnw (pX5_element_ok 46 _ rfl) ct_X3_hasCell kX3_hasCell lRX5_267 ⟨by decide, by decide⟩) (Nat.zero_le _) (Nat.zero_le _) h hk
    · cases hg
  · intro pc mm P hcp
    unfold cuXe at hcp
    cases e1 : Nat.beq pc 7 with
    | true =>
      rw [e1] at hcp; cases hcp
      have := Nat.eq_of_beq_eq_true e1
      subst this
      rintro lv st w' ⟨rfl, hk⟩
      exact zthrSW (by decide) hl X hXP hemp hA (hXP.2.1 (RX5, 276, _) (List.mem_of_getElem? (i := 3) rfl)) (by decide +kernel) (uw1 (by decide +kernel)) (uw1 (by decide +kernel)) xw_4 (by decide +kernel) (by decide +kernel) (by decide +kernel) (by decide +kernel) (by decide +kernel) hk
    | false =>
    rw [e1] at hcp
    cases e2 : Nat.beq pc 33 with
    | true =>
      rw [e2] at hcp; cases hcp
      have := Nat.eq_of_beq_eq_true e2
      subst this
      rintro lv st w' ⟨rfl, hk⟩
      exact zthrSW (by decide) hl X hXP hemp hA (hXP.2.1 (RX5, 286, _) (List.mem_of_getElem? (i := 4) rfl)) (by decide +kernel) (uw1 (by decide +kernel)) (uw1 (by decide +kernel)) xw_5 (by decide +kernel) (by decide +kernel) (by decide +kernel) (by decide +kernel) (by decide +kernel) hk
    | false =>
    rw [e2] at hcp
    cases e3 : Nat.beq pc 52 with
    | true =>
      rw [e3] at hcp; cases hcp
      have := Nat.eq_of_beq_eq_true e3
      subst this
      rintro lv st w' ⟨rfl, hk⟩
      exact zthrSW (by decide) hl X hXP hemp hA (hXP.2.1 (RX5, 289, _) (List.mem_of_getElem? (i := 5) rfl)) (by decide +kernel) (uw1 (by decide +kernel)) (uw1 (by decide +kernel)) xw_5 (by decide +kernel) (by decide +kernel) (by decide +kernel) (by decide +kernel) (by decide +kernel) hk
    | false =>
    rw [e3] at hcp
    cases e4 : Nat.beq pc 70 with
    | true =>
      rw [e4] at hcp; cases hcp
      have := Nat.eq_of_beq_eq_true e4
      subst this
      rintro lv st w' ⟨x, rfl, hk⟩
      exact zretL X (Nat.zero_le _) (Nat.zero_le _) (by decide +kernel) hk
    | false => rw [e4] at hcp; cases hcp
  · conv => whnf
    refine ⟨fun hc => ?_, fun hc => ?_⟩
    rotate_left
    · conv => whnf
      exact ⟨rfl, hK1 (el_1 (bp_0.mp hc))⟩
    have hd := bp_n hc
    conv => whnf
    refine ⟨sh_in hd, ?_⟩
    rw [(hf hd).1]
    conv => whnf
    refine ⟨fun h2 => ?_, fun h2 => ?_⟩
    rotate_left
    · conv => whnf
      exact ⟨rfl, hK2 (el_2 hd h2)⟩
    conv => whnf
    refine ⟨u, i, rfl, rfl, rfl, ?_⟩
    conv => whnf
    refine ⟨fun h1 => ?_, fun h1 => ?_⟩
    rotate_left
    · conv => whnf
      exact ⟨rfl, hK2 (el_3 hd h2 (bp_0.mp h1))⟩
    have h1 := bp_n h1
    have h := hK0 (el_0 hd h2 h1)
    obtain ⟨j, n, hj, hn, ei, -⟩ := cell_n (hf hd).2 h2 h1
    conv => whnf
    refine ⟨by rw [ei]; exact vp_in_nI (by omega) (by decide), ?_⟩
    conv => whnf
    exact ⟨_, rfl, h⟩
