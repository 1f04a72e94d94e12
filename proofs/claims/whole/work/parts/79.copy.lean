/-! ===== copy of the class: within one shelf, between two ===== -/
def cpU (ud ue : ShS) (i j n : Int32) : ShS := (uO ue, uK ue, uF ue, uS ue, uM ue, va_cpy (uC ud) (uC ue) (ix i) (ix j) (ix n))
def xS2 (r2 r4 r5 : sv) (hi : Int32) (s m : InnS) (f : Nat → Option Nat) (ud ue : ShS) : List sc := x2W r2 (sR 15) r4 r5 hi s m ++ (shX f ud ++ [oC 2 [sI (uO ue), sI (uK ue), sI (uF ue), sI (uS ue), sI (uM ue), sR 19], aI 100 (uC ue)])
def F_X5_copy1 : Fn := fun as w K => ∃ (r2 r4 r5 : sv) (hi : Int32) (s m : InnS) (f : Nat → Option Nat) (u : ShS) (d i e j n : Int32), as = [sR 0, sI d, sI i, sI e, sI j, sI n] ∧ w = xS r2 r4 r5 hi s m f u ∧ ((0 ≤ d ∧ d ≤ 7) ∧ (0 ≤ e ∧ e ≤ 7) → (f (ix d) = some 16 ∧ SH u) ∧ (f (ix e) = some 16 ∧ SH u)) ∧ (¬ cpC u u d e i j n → K (some (.inl (cpR u u d e))) w) ∧ (cpC u u d e i j n → K (some (.inl n)) (xS r2 r4 r5 hi s m f (cpU u u i j n)))
def ctb_X5_copy_1 : List (Nat × (List sv → List sc → (List sv → List sc → Prop) → Prop)) := [(1, cS none 1 F_X5_isShelf), (8, cS none 1 F_X5_isShelf), (90, cQ [16, 17] (some 2) 3 F_X3_hasCells), (102, cQ [16, 17] (some 2) 3 F_X3_hasCells), (126, cCpy)]
theorem cok_X5_copy_1 : CallOK cX5_copy 8 (some .int) RX5 3 ctb_X5_copy_1 := CallOK_cons (site_same (rnS (pX5_copy_ok 1 _ rfl) ct_X5_isShelf kX5_isShelf lRX5_246 (by decide))) (CallOK_cons (site_same (rnS (pX5_copy_ok 8 _ rfl) ct_X5_isShelf kX5_isShelf lRX5_246 (by decide))) (CallOK_cons (site_q [16, 17] (by decide) (rnV (pX5_copy_ok 90 _ rfl) ct_X3_hasCells kX3_hasCells lRX5_291 (by decide))) (CallOK_cons (site_q [16, 17] (by decide) (rnV (pX5_copy_ok 102 _ rfl) ct_X3_hasCells kX3_hasCells lRX5_291 (by decide))) (CallOK_cons (site_cpy (pX5_copy_ok 126 _ rfl) lRX5_294 (by decide)) (CallOK_nil)))))
theorem ct_X5_copy1 : Ct yX5_copy cX5_copy 8 (some .int) 3 F_X5_copy1 := by
  intro l D σ cA sz as w K h
  obtain ⟨r2, r4, r5, hi, s, m, f, u, d, i, e, j, n, rfl, rfl, hf, hno, h⟩ := h
  refine metL (pr := lkB pX5_copy) (rk := 1) (ct := ctb_X5_copy_1) (fld := lkB flX5) (cst := lkB csX5) (cstL := lkB clX5) [] pX5_copy_ok kX5_copy.2.2.2.2.2.2.2 fdX5 cdX5 rto1 cok_X5_copy_1 (Nat.le_of_ble_eq_true rfl) cut0 ?_ l D σ cA sz
  conv => whnf
  refine ⟨fun hc => ?_, fun hc1 => ?_⟩
  · have hc := bp_0.mp hc
    conv => whnf
    exact kI (hno (fun z => hc z.1.1)) (by unfold cpR; rw [if_neg (fun z => hc z.1)])
  conv => whnf
  refine ⟨fun hc2 => ?_, fun hc => ?_⟩
  rotate_left
  · have hc := bp_0.mp hc
    conv => whnf
    exact kI (hno (fun z => hc z.1.2)) (by unfold cpR; rw [if_neg (fun z => hc z.2)])
  have hd := bp_n hc1
  have he := bp_n hc2
  obtain ⟨⟨f1, s1⟩, ⟨f2, s2⟩⟩ := hf ⟨hd, he⟩
  have n11 : uO u = 0 ∨ uO u = 0 → K (some (.inl (-11))) (xS r2 r4 r5 hi s m f u) := fun z => kI (hno (fun y => z.elim (fun x => by rw [y.2.1.1] at x; exact absurd x (by decide)) (fun x => by rw [y.2.1.2.1] at x; exact absurd x (by decide)))) (by unfold cpR; rw [if_pos ⟨hd, he⟩, if_pos z])
  have n12 : ¬ (uO u = 0 ∨ uO u = 0) → ¬ (uO u = 2 ∧ uO u = 2 ∧ uS u = uS u) → K (some (.inl (-12))) (xS r2 r4 r5 hi s m f u) := fun z y => kI (hno (fun x => y x.2.1)) (by unfold cpR; rw [if_pos ⟨hd, he⟩, if_neg z, if_neg y])
  have n13 : (uO u = 2 ∧ uO u = 2 ∧ uS u = uS u) → ¬ (hcP u i n ∧ hcP u j n) → K (some (.inl (-13))) (xS r2 r4 r5 hi s m f u) := fun z y => kI (hno (fun x => y x.2.2)) (by unfold cpR; rw [if_pos ⟨hd, he⟩, if_neg (fun x => x.elim (fun x => by rw [z.1] at x; exact absurd x (by decide)) (fun x => by rw [z.2.1] at x; exact absurd x (by decide))), if_pos z])
  conv => whnf
  refine ⟨sh_in hd, ?_⟩
  rw [f1]
  conv => whnf
  refine ⟨sh_in he, ?_⟩
  rw [f2]
  conv => whnf
  refine ⟨fun h1 => ?_, fun h1 => ?_⟩
  · conv => whnf
    exact n11 (Or.inl h1)
  conv => whnf
  refine ⟨fun h2 => ?_, fun h2 => ?_⟩
  rotate_left
  · conv => whnf
    exact n11 (Or.inr h2)
  have h12 : ¬ (uO u = 0 ∨ uO u = 0) := fun z => z.elim h1 h2
  conv => whnf
  refine ⟨fun h3 => ?_, fun h3 => ?_⟩
  · conv => whnf
    exact n12 h12 (fun z => h3 z.1)
  conv => whnf
  refine ⟨fun h4 => ?_, fun h4 => ?_⟩
  · conv => whnf
    exact n12 h12 (fun z => h4 z.2.1)
  conv => whnf
  refine ⟨fun h5 => ?_, fun h5 => ?_⟩
  rotate_left
  · conv => whnf
    exact n12 h12 (fun z => h5 z.2.2)
  have h345 : uO u = 2 ∧ uO u = 2 ∧ uS u = uS u := ⟨h3, h4, h5⟩
  conv => whnf
  refine ⟨u, i, n, rfl, rfl, rfl, ?_⟩
  conv => whnf
  refine ⟨fun h6 => ?_, fun h6 => ?_⟩
  · conv => whnf
    exact n13 h345 (fun z => bp_0.mp h6 z.1)
  conv => whnf
  refine ⟨u, j, n, rfl, rfl, rfl, ?_⟩
  conv => whnf
  refine ⟨fun h7 => ?_, fun h7 => ?_⟩
  rotate_left
  · conv => whnf
    exact n13 h345 (fun z => bp_0.mp h7 z.2)
  have p1 := bp_n h6
  have p2 := bp_n h7
  have h := h ⟨⟨hd, he⟩, h345, p1, p2⟩
  have hs : ¬ i < 0 ∧ ¬ j < 0 ∧ ¬ n < 0 ∧ i.toNatClampNeg + n.toNatClampNeg ≤ 100 ∧ j.toNatClampNeg + n.toNatClampNeg ≤ 100 := by
    obtain ⟨i', n', M, e1, e2, -, hM, e4⟩ := hc_n s1 h3 p1
    obtain ⟨j', n2, M2, e5, e6, -, hM2, e8⟩ := hc_n s2 h4 p2
    refine ⟨Int32.not_lt.mpr p1.1, Int32.not_lt.mpr p2.1, Int32.not_lt.mpr p1.2.1, ?_, ?_⟩
    · rw [e1, e2, show (nI i').toNatClampNeg = i' from nI_clamp (by omega), show (nI n').toNatClampNeg = n' from nI_clamp (by omega)]
      omega
    · rw [e5, e6, show (nI j').toNatClampNeg = j' from nI_clamp (by omega), show (nI n2).toNatClampNeg = n2 from nI_clamp (by omega)]
      omega
  conv => whnf
  refine ⟨hs, ?_⟩
  conv => whnf
  exact h
def F_X5_copy2 : Fn := fun as w K => ∃ (r2 r4 r5 : sv) (hi : Int32) (s m : InnS) (f : Nat → Option Nat) (ud ue : ShS) (d i e j n : Int32), as = [sR 0, sI d, sI i, sI e, sI j, sI n] ∧ w = xS2 r2 r4 r5 hi s m f ud ue ∧ ((0 ≤ d ∧ d ≤ 7) ∧ (0 ≤ e ∧ e ≤ 7) → (f (ix d) = some 16 ∧ SH ud) ∧ (f (ix e) = some 18 ∧ SH ue)) ∧ (¬ cpC ud ue d e i j n → K (some (.inl (cpR ud ue d e))) w) ∧ (cpC ud ue d e i j n → K (some (.inl n)) (xS2 r2 r4 r5 hi s m f ud (cpU ud ue i j n)))
def ctb_X5_copy_2 : List (Nat × (List sv → List sc → (List sv → List sc → Prop) → Prop)) := [(1, cS none 1 F_X5_isShelf), (8, cS none 1 F_X5_isShelf), (90, cQ [16, 17] (some 2) 3 F_X3_hasCells), (102, cQ [18, 19] (some 2) 3 F_X3_hasCells), (126, cCpy)]
theorem cok_X5_copy_2 : CallOK cX5_copy 8 (some .int) RX5 3 ctb_X5_copy_2 := CallOK_cons (site_same (rnS (pX5_copy_ok 1 _ rfl) ct_X5_isShelf kX5_isShelf lRX5_246 (by decide))) (CallOK_cons (site_same (rnS (pX5_copy_ok 8 _ rfl) ct_X5_isShelf kX5_isShelf lRX5_246 (by decide))) (CallOK_cons (site_q [16, 17] (by decide) (rnV (pX5_copy_ok 90 _ rfl) ct_X3_hasCells kX3_hasCells lRX5_291 (by decide))) (CallOK_cons (site_q [18, 19] (by decide) (rnV (pX5_copy_ok 102 _ rfl) ct_X3_hasCells kX3_hasCells lRX5_291 (by decide))) (CallOK_cons (site_cpy (pX5_copy_ok 126 _ rfl) lRX5_294 (by decide)) (CallOK_nil)))))
theorem ct_X5_copy2 : Ct yX5_copy cX5_copy 8 (some .int) 3 F_X5_copy2 := by
  intro l D σ cA sz as w K h
  obtain ⟨r2, r4, r5, hi, s, m, f, ud, ue, d, i, e, j, n, rfl, rfl, hf, hno, h⟩ := h
  refine metL (pr := lkB pX5_copy) (rk := 1) (ct := ctb_X5_copy_2) (fld := lkB flX5) (cst := lkB csX5) (cstL := lkB clX5) [] pX5_copy_ok kX5_copy.2.2.2.2.2.2.2 fdX5 cdX5 rto1 cok_X5_copy_2 (Nat.le_of_ble_eq_true rfl) cut0 ?_ l D σ cA sz
  conv => whnf
  refine ⟨fun hc => ?_, fun hc1 => ?_⟩
  · have hc := bp_0.mp hc
    conv => whnf
    exact kI (hno (fun z => hc z.1.1)) (by unfold cpR; rw [if_neg (fun z => hc z.1)])
  conv => whnf
  refine ⟨fun hc2 => ?_, fun hc => ?_⟩
  rotate_left
  · have hc := bp_0.mp hc
    conv => whnf
    exact kI (hno (fun z => hc z.1.2)) (by unfold cpR; rw [if_neg (fun z => hc z.2)])
  have hd := bp_n hc1
  have he := bp_n hc2
  obtain ⟨⟨f1, s1⟩, ⟨f2, s2⟩⟩ := hf ⟨hd, he⟩
  have n11 : uO ud = 0 ∨ uO ue = 0 → K (some (.inl (-11))) (xS2 r2 r4 r5 hi s m f ud ue) := fun z => kI (hno (fun y => z.elim (fun x => by rw [y.2.1.1] at x; exact absurd x (by decide)) (fun x => by rw [y.2.1.2.1] at x; exact absurd x (by decide)))) (by unfold cpR; rw [if_pos ⟨hd, he⟩, if_pos z])
  have n12 : ¬ (uO ud = 0 ∨ uO ue = 0) → ¬ (uO ud = 2 ∧ uO ue = 2 ∧ uS ud = uS ue) → K (some (.inl (-12))) (xS2 r2 r4 r5 hi s m f ud ue) := fun z y => kI (hno (fun x => y x.2.1)) (by unfold cpR; rw [if_pos ⟨hd, he⟩, if_neg z, if_neg y])
  have n13 : (uO ud = 2 ∧ uO ue = 2 ∧ uS ud = uS ue) → ¬ (hcP ud i n ∧ hcP ue j n) → K (some (.inl (-13))) (xS2 r2 r4 r5 hi s m f ud ue) := fun z y => kI (hno (fun x => y x.2.2)) (by unfold cpR; rw [if_pos ⟨hd, he⟩, if_neg (fun x => x.elim (fun x => by rw [z.1] at x; exact absurd x (by decide)) (fun x => by rw [z.2.1] at x; exact absurd x (by decide))), if_pos z])
  conv => whnf
  refine ⟨sh_in hd, ?_⟩
  rw [f1]
  conv => whnf
  refine ⟨sh_in he, ?_⟩
  rw [f2]
  conv => whnf
  refine ⟨fun h1 => ?_, fun h1 => ?_⟩
  · conv => whnf
    exact n11 (Or.inl h1)
  conv => whnf
  refine ⟨fun h2 => ?_, fun h2 => ?_⟩
  rotate_left
  · conv => whnf
    exact n11 (Or.inr h2)
  have h12 : ¬ (uO ud = 0 ∨ uO ue = 0) := fun z => z.elim h1 h2
  conv => whnf
  refine ⟨fun h3 => ?_, fun h3 => ?_⟩
  · conv => whnf
    exact n12 h12 (fun z => h3 z.1)
  conv => whnf
  refine ⟨fun h4 => ?_, fun h4 => ?_⟩
  · conv => whnf
    exact n12 h12 (fun z => h4 z.2.1)
  conv => whnf
  refine ⟨fun h5 => ?_, fun h5 => ?_⟩
  rotate_left
  · conv => whnf
    exact n12 h12 (fun z => h5 z.2.2)
  have h345 : uO ud = 2 ∧ uO ue = 2 ∧ uS ud = uS ue := ⟨h3, h4, h5⟩
  conv => whnf
  refine ⟨ud, i, n, rfl, rfl, rfl, ?_⟩
  conv => whnf
  refine ⟨fun h6 => ?_, fun h6 => ?_⟩
  · conv => whnf
    exact n13 h345 (fun z => bp_0.mp h6 z.1)
  conv => whnf
  refine ⟨ue, j, n, rfl, rfl, rfl, ?_⟩
  conv => whnf
  refine ⟨fun h7 => ?_, fun h7 => ?_⟩
  rotate_left
  · conv => whnf
    exact n13 h345 (fun z => bp_0.mp h7 z.2)
  have p1 := bp_n h6
  have p2 := bp_n h7
  have h := h ⟨⟨hd, he⟩, h345, p1, p2⟩
  have hs : ¬ i < 0 ∧ ¬ j < 0 ∧ ¬ n < 0 ∧ i.toNatClampNeg + n.toNatClampNeg ≤ 100 ∧ j.toNatClampNeg + n.toNatClampNeg ≤ 100 := by
    obtain ⟨i', n', M, e1, e2, -, hM, e4⟩ := hc_n s1 h3 p1
    obtain ⟨j', n2, M2, e5, e6, -, hM2, e8⟩ := hc_n s2 h4 p2
    refine ⟨Int32.not_lt.mpr p1.1, Int32.not_lt.mpr p2.1, Int32.not_lt.mpr p1.2.1, ?_, ?_⟩
    · rw [e1, e2, show (nI i').toNatClampNeg = i' from nI_clamp (by omega), show (nI n').toNatClampNeg = n' from nI_clamp (by omega)]
      omega
    · rw [e5, e6, show (nI j').toNatClampNeg = j' from nI_clamp (by omega), show (nI n2).toNatClampNeg = n2 from nI_clamp (by omega)]
      omega
  conv => whnf
  refine ⟨hs, ?_⟩
  conv => whnf
  exact h
