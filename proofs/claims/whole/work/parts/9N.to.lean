/-! ===== what toss answers; the reference's toss ===== -/
def toR (u : ShS) (d : Int32) : Int32 := if reF u d 1 = 0 then (if uK u = 1 ∨ uK u = 4 ∨ uK u = 6 ∨ uF u = 0 then -15 else if uK u = 2 ∨ uK u = 5 then 100 + uF u else if uK u = 7 then 200 + costK (uK u) (uF u) else uF u) else reF u d 1
def F_X6_toss : Fn := fun as w K => ∃ (s : InnS) (q : Pm) (t : Tm) (u : ShS) (d : Int32), as = [sR 0, sI d] ∧ w = modW s q t ∧ TZ t ∧ (0 ≤ d ∧ d ≤ 7 → SR q (ix d) u ∧ SH u) ∧ ∀ t', TZ t' → K (some (.inl (toR u d))) (modW s q t')
def ctb_X6_toss : List (Nat × (List sv → List sc → (List sv → List sc → Prop) → Prop)) := [(7, cS (some 4) 2 F_X6_wrongKept), (15, cS (some 4) 2 F_X6_wrongKept), (84, cS none 2 F_X6_costOf)]
theorem cok_X6_toss : CallOK cX6_toss 4 (some .int) RX6 3 ctb_X6_toss := CallOK_cons (site_same (rnV (pX6_toss_ok 7 _ rfl) ct_X6_wrongKept kX6_wrongKept lRX6_223 (by decide))) (CallOK_cons (site_same (rnV (pX6_toss_ok 15 _ rfl) ct_X6_wrongKept kX6_wrongKept lRX6_223 (by decide))) (CallOK_cons (site_same (rnS (pX6_toss_ok 84 _ rfl) ct_X6_costOf kX6_costOf lRX6_318 (by decide))) (CallOK_nil)))
theorem ct_X6_toss : Ct yX6_toss cX6_toss 4 (some .int) 3 F_X6_toss := by
  intro l D σ cA sz as w K h
  obtain ⟨s, q, t, u, d, rfl, rfl, hT, hu, h⟩ := h
  have h := h (tq0 t) hT
  refine metL (pr := lkB pX6_toss) (rk := 1) (ct := ctb_X6_toss) (fld := lkB flX6) (cst := lkB csX6) (cstL := lkB clX6) [] pX6_toss_ok kX6_toss.2.2.2.2.2.2.2 fdX6 cdX6 rto1 cok_X6_toss (Nat.le_of_ble_eq_true rfl) cut0 ?_ l D σ cA sz
  conv => whnf
  refine ⟨s, q, tq0 t, u, d, rfl, rfl, hu, ?_⟩
  conv => whnf
  refine ⟨fun hc => ?_, fun hc => ?_⟩
  · have hc := re_ge hc
    obtain ⟨hd, h1⟩ := re_0 hc
    obtain ⟨z1, z2⟩ := (hu hd).1.2.1 h1
    have z1 : qK q d.toNatClampNeg = uK u := z1
    have z2 : qF q d.toNatClampNeg = uF u := z2
    have hre := hc
    clear hc
    conv => whnf
    refine ⟨sh_in hd, ?_⟩
    conv => whnf
    refine ⟨sh_in hd, ?_⟩
    repeat' ((conv => whnf); (first | refine And.intro (by first | decide | with_reducible assumption) ?_ | with_reducible refine And.intro (fun hc => ?_) (fun hc => ?_) | with_reducible refine And.intro (fun hc => ?_) ?_ | fail))
    all_goals try (conv => whnf)
    all_goals (refine kI h ?_; clear h hu; unfold toR; rw [if_pos hre]; simp_all; done)
  · conv => whnf
    refine ⟨s, q, tq0 t, u, d, rfl, rfl, hu, ?_⟩
    conv => whnf
    exact kI h (by unfold toR; rw [if_neg (re_lt hc)])
