/-! ===== years of the reference ===== -/
abbrev sdT (t : Tm) (z : Int32) : Tm := (tSy t, tMr t, tTh t, tRd t, tPl t, tBd t, tSt t, tPi t, tLo t, tTo t, tKe t, tP0 t, tTk t, tKi t, tDr t, tCe t, tGa t, z, tBt t)
def F_X6_drawBelow : Fn := fun as w K => ∃ (s : InnS) (q : Pm) (t : Tm) (b : Nat), as = [sR 0, sI (nI b)] ∧ w = modW s q t ∧ 0 < b ∧ b < 100 ∧ ∀ z v, z = sdF (tSd t) → v = drF z (nI b) → K (some (.inl v)) (modW s q (sdT t z))
def ctb_X6_drawBelow : List (Nat × (List sv → List sc → (List sv → List sc → Prop) → Prop)) := []
theorem cok_X6_drawBelow : CallOK cX6_drawBelow 2 (some .int) RX6 1 ctb_X6_drawBelow := CallOK_nil
theorem ct_X6_drawBelow : Ct yX6_drawBelow cX6_drawBelow 2 (some .int) 1 F_X6_drawBelow := by
  intro l D σ cA sz as w K h
  obtain ⟨s, q, t, b, rfl, rfl, hb0, hb, h⟩ := h
  refine metL (pr := lkB pX6_drawBelow) (rk := 1) (ct := ctb_X6_drawBelow) (fld := lkB flX6) (cst := lkB csX6) (cstL := lkB clX6) [(13, ([true, true], fun n lv st w => ∃ z, n = 0 ∧ lv = [some (sR 0), some (sI (nI b))] ∧ st = [sI z, sR 0] ∧ w = modW s q t ∧ z = tSd t * 1103515245 + 12345))] pX6_drawBelow_ok kX6_drawBelow.2.2.2.2.2.2.2 fdX6 cdX6 rto1 cok_X6_drawBelow (Nat.le_of_ble_eq_true rfl) ?_ ?_ l D σ cA sz
  · refine List.forall_mem_cons.mpr ⟨?_, cut0⟩
    rintro n lv st w ⟨z, rfl, rfl, rfl, rfl, hz⟩
    have h := h z _ hz rfl
    unfold drF at h
    conv => whnf
    refine ⟨by decide, ?_⟩
    conv => whnf
    refine ⟨nI_ne0 hb0 (by omega), ?_⟩
    conv => whnf
    exact h
  · conv => whnf
    exact ⟨0, _, rfl, rfl, rfl, rfl, rfl⟩
theorem dwF_s (c : PA) (b z : Int32) (k : Nat) : dwF c b z (k + 1) = upd (dwF c b z k) k (drF (sdN z (k + 1)) b) := rfl
theorem sdN_s (z : Int32) (k : Nat) : sdN z (k + 1) = sdF (sdN z k) := rfl
theorem yrF_2 (s : InnS) (G : Nat) (what z : Int32) (k : Nat) : (yrF s G what z (k + 1)).2 = sdN (sdN (yrF s G what z k).2 G) 10 := rfl
theorem ZB_sn {s : InnS} {a b : Int32} (h : ZB s) : ZB (snS s a b) := h
theorem iS_sn (s : InnS) (a b : Int32) : iS (snS s a b) = iS s := rfl
theorem iT_sn (s : InnS) (a b : Int32) : iT (snS s a b) = iT s := rfl
theorem GS_sn {s : InnS} {a b : Int32} (h : GS s) : GS (snS s a b) := h
theorem iN_sn (s : InnS) (a b : Int32) : iN (snS s a b) = iN s := rfl
