/-! ===== the reference: all that is carried ===== -/
def F_X6_carryAllK1 : Fn := fun as w K => ∃ (s : InnS) (q : Pm) (t : Tm) (im ke : PA) (p0 tk : Int32) (ki : Option Nat), as = [sR 0, sR 16, sI 1] ∧ w = keW s q t im ke p0 tk ki ∧ K none (keW s q t im (mx (enc s) ke 50) (nI 50) 1 (some 16))
def ctb_X6_carryAll_K1 : List (Nat × (List sv → List sc → (List sv → List sc → Prop) → Prop)) := [(21, cS (some 4) 2 F_X6_carryK1), (33, cS (some 4) 2 F_X6_carryK1), (45, cS (some 4) 2 F_X6_carryK1), (57, cS (some 4) 2 F_X6_carryK1), (69, cS (some 4) 2 F_X6_carryK1), (95, cS (some 4) 2 F_X6_carryK1), (125, cS (some 4) 2 F_X6_carryK1), (141, cS (some 4) 2 F_X6_carryK1), (157, cS (some 4) 2 F_X6_carryK1), (173, cS (some 4) 2 F_X6_carryK1), (189, cS (some 4) 2 F_X6_carryK1)]
theorem cok_X6_carryAll_K1 : CallOK cX6_carryAll 4 none RX6 2 ctb_X6_carryAll_K1 := CallOK_cons (site_same (rnV (pX6_carryAll_ok 21 _ rfl) ct_X6_carryK1 kX6_carry lRX6_208 (by decide))) (CallOK_cons (site_same (rnV (pX6_carryAll_ok 33 _ rfl) ct_X6_carryK1 kX6_carry lRX6_208 (by decide))) (CallOK_cons (site_same (rnV (pX6_carryAll_ok 45 _ rfl) ct_X6_carryK1 kX6_carry lRX6_208 (by decide))) (CallOK_cons (site_same (rnV (pX6_carryAll_ok 57 _ rfl) ct_X6_carryK1 kX6_carry lRX6_208 (by decide))) (CallOK_cons (site_same (rnV (pX6_carryAll_ok 69 _ rfl) ct_X6_carryK1 kX6_carry lRX6_208 (by decide))) (CallOK_cons (site_same (rnV (pX6_carryAll_ok 95 _ rfl) ct_X6_carryK1 kX6_carry lRX6_208 (by decide))) (CallOK_cons (site_same (rnV (pX6_carryAll_ok 125 _ rfl) ct_X6_carryK1 kX6_carry lRX6_208 (by decide))) (CallOK_cons (site_same (rnV (pX6_carryAll_ok 141 _ rfl) ct_X6_carryK1 kX6_carry lRX6_208 (by decide))) (CallOK_cons (site_same (rnV (pX6_carryAll_ok 157 _ rfl) ct_X6_carryK1 kX6_carry lRX6_208 (by decide))) (CallOK_cons (site_same (rnV (pX6_carryAll_ok 173 _ rfl) ct_X6_carryK1 kX6_carry lRX6_208 (by decide))) (CallOK_cons (site_same (rnV (pX6_carryAll_ok 189 _ rfl) ct_X6_carryK1 kX6_carry lRX6_208 (by decide))) (CallOK_nil)))))))))))
theorem ct_X6_carryAllK1 : Ct yX6_carryAll cX6_carryAll 4 none 2 F_X6_carryAllK1 := by
  intro l D σ cA sz as w K h
  obtain ⟨s, q, t, im, ke, p0, tk, ki, rfl, rfl, h⟩ := h
  have m1 : upd ke 0 (iG s) = mx (enc s) ke 1 := by
    have := mx_succ (enc s) ke 0 (iG s) rfl
    rwa [mx_0] at this
  have m2 : upd (mx (enc s) ke 1) 1 (iT s) = mx (enc s) ke 2 := mx_succ _ _ 1 _ rfl
  have m3 : upd (mx (enc s) ke 2) 2 (iS s) = mx (enc s) ke 3 := mx_succ _ _ 2 _ rfl
  have m4 : upd (mx (enc s) ke 3) 3 (iA s) = mx (enc s) ke 4 := mx_succ _ _ 3 _ rfl
  have m5 : upd (mx (enc s) ke 4) 4 (iN s) = mx (enc s) ke 5 := mx_succ _ _ 4 _ rfl
  refine metL (pr := lkB pX6_carryAll) (rk := 0) (ct := ctb_X6_carryAll_K1) (fld := lkB flX6) (cst := lkB csX6) (cstL := lkB clX6) [(77, ([true, true, true, true], fun n lv st w => ∃ k, k ≤ 10 ∧ n = 100 - k ∧ lv = [some (sR 0), some (sR 16), some (sI 1), some (sI (nI k))] ∧ st = [] ∧ w = keW s q t im (mx (enc s) ke (5 + k)) (nI (5 + k)) 1 (some 16))), (107, ([true, true, true, true], fun n lv st w => ∃ g, g ≤ 7 ∧ n = 50 - g ∧ lv = [some (sR 0), some (sR 16), some (sI 1), some (sI (nI g))] ∧ st = [] ∧ w = keW s q t im (mx (enc s) ke (15 + 5 * g)) (nI (15 + 5 * g)) 1 (some 16)))] pX6_carryAll_ok kX6_carryAll.2.2.2.2.2.2.2 fdX6 cdX6 rto0 cok_X6_carryAll_K1 (Nat.le_of_ble_eq_true rfl) ?_ ?_ l D σ cA sz
  · refine List.forall_mem_cons.mpr ⟨?_, List.forall_mem_cons.mpr ⟨?_, cut0⟩⟩
    · rintro n lv st w ⟨k, hk, rfl, rfl, rfl, rfl⟩
      have ek : k < 10 → (nI k).toNatClampNeg = k := fun q => nI_clamp (by omega)
      conv => whnf
      refine ⟨fun hc => ?_, fun hc => ?_⟩
      · conv => whnf
        obtain rfl := lp_ge hk (by decide) hc
        exact ⟨50, by decide, 0, by decide, rfl, rfl, rfl, rfl⟩
      · have hlt := lp_lt hk (by decide) hc
        have hv : vp_in (nI k) 10 := vp_in_nI hlt (by decide)
        conv => whnf
        refine ⟨hv, ?_⟩
        conv => whnf
        refine ⟨s, q, t, im, mx (enc s) ke (5 + k), 5 + k, iP s (nI k).toNatClampNeg, rfl, rfl, by omega, ?_⟩
        rw [mx_succ _ _ _ _ (by rw [ek hlt, enc_P s hlt])]
        conv => whnf
        refine ⟨hv, ?_⟩
        conv => whnf
        exact ⟨100 - (k + 1), by omega, k + 1, hlt, rfl, by rw [← nI_1]; rfl, rfl, by rw [upd_self]; rfl⟩
    · rintro n lv st w ⟨g, hg, rfl, rfl, rfl, rfl⟩
      have eg : g < 7 → (nI g).toNatClampNeg = g := fun q => nI_clamp (by omega)
      conv => whnf
      refine ⟨fun hc => ?_, fun hc => ?_⟩
      · conv => whnf
        obtain rfl := lp_ge hg (by decide) hc
        exact h
      · have hlt := lp_lt hg (by decide) hc
        have hv : vp_in (nI g) 7 := vp_in_nI hlt (by decide)
        conv => whnf
        refine ⟨hv, ?_⟩
        conv => whnf
        refine ⟨s, q, t, im, mx (enc s) ke (15 + 5 * g), 15 + 5 * g, iK s (nI g).toNatClampNeg, rfl, rfl, by omega, ?_⟩
        rw [mx_succ _ _ _ _ (by rw [eg hlt, enc_K s g])]
        conv => whnf
        refine ⟨hv, ?_⟩
        conv => whnf
        refine ⟨hv, ?_⟩
        conv => whnf
        refine ⟨s, q, t, im, mx (enc s) ke (15 + 5 * g + 1), 15 + 5 * g + 1, iF s (nI g).toNatClampNeg, rfl, (by rw [upd_self]; rfl), by omega, ?_⟩
        rw [mx_succ _ _ _ _ (by rw [eg hlt, enc_F s g])]
        conv => whnf
        refine ⟨hv, ?_⟩
        conv => whnf
        refine ⟨hv, ?_⟩
        conv => whnf
        refine ⟨s, q, t, im, mx (enc s) ke (15 + 5 * g + 2), 15 + 5 * g + 2, iW s (nI g).toNatClampNeg, rfl, (by rw [upd_self]; rfl), by omega, ?_⟩
        rw [mx_succ _ _ _ _ (by rw [eg hlt, enc_W s g])]
        conv => whnf
        refine ⟨hv, ?_⟩
        conv => whnf
        refine ⟨hv, ?_⟩
        conv => whnf
        refine ⟨s, q, t, im, mx (enc s) ke (15 + 5 * g + 3), 15 + 5 * g + 3, iL s (nI g).toNatClampNeg, rfl, (by rw [upd_self]; rfl), by omega, ?_⟩
        rw [mx_succ _ _ _ _ (by rw [eg hlt, enc_L s g])]
        conv => whnf
        refine ⟨hv, ?_⟩
        conv => whnf
        refine ⟨hv, ?_⟩
        conv => whnf
        refine ⟨s, q, t, im, mx (enc s) ke (15 + 5 * g + 4), 15 + 5 * g + 4, iH s (nI g).toNatClampNeg, rfl, (by rw [upd_self]; rfl), by omega, ?_⟩
        rw [mx_succ _ _ _ _ (by rw [eg hlt, enc_H s g])]
        conv => whnf
        refine ⟨hv, ?_⟩
        conv => whnf
        exact ⟨50 - (g + 1), by omega, g + 1, hlt, rfl, by rw [← nI_1]; rfl, rfl, by rw [upd_self]; rfl⟩
  · conv => whnf
    refine ⟨Or.inr rfl, ?_⟩
    conv => whnf
    refine ⟨s, q, t, im, ke, 0, iG s, rfl, rfl, by decide, ?_⟩
    rw [m1]
    conv => whnf
    refine ⟨s, q, t, im, mx (enc s) ke 1, 1, iT s, rfl, rfl, by decide, ?_⟩
    rw [m2]
    conv => whnf
    refine ⟨s, q, t, im, mx (enc s) ke 2, 2, iS s, rfl, rfl, by decide, ?_⟩
    rw [m3]
    conv => whnf
    refine ⟨s, q, t, im, mx (enc s) ke 3, 3, iA s, rfl, rfl, by decide, ?_⟩
    rw [m4]
    conv => whnf
    refine ⟨s, q, t, im, mx (enc s) ke 4, 4, iN s, rfl, rfl, by decide, ?_⟩
    rw [m5]
    conv => whnf
    exact ⟨100, 0, by decide, rfl, rfl, rfl, rfl⟩
def F_X6_carryAllI1 : Fn := fun as w K => ∃ (s : InnS) (q : Pm) (t : Tm) (im ke : PA) (p0 tk : Int32) (ki : Option Nat), as = [sR 0, sR 17, sI 1] ∧ w = keW s q t im ke p0 tk ki ∧ K none (keW s q t (mx (enc s) im 50) ke (nI 50) 1 (some 17))
def ctb_X6_carryAll_I1 : List (Nat × (List sv → List sc → (List sv → List sc → Prop) → Prop)) := [(21, cS (some 4) 2 F_X6_carryI1), (33, cS (some 4) 2 F_X6_carryI1), (45, cS (some 4) 2 F_X6_carryI1), (57, cS (some 4) 2 F_X6_carryI1), (69, cS (some 4) 2 F_X6_carryI1), (95, cS (some 4) 2 F_X6_carryI1), (125, cS (some 4) 2 F_X6_carryI1), (141, cS (some 4) 2 F_X6_carryI1), (157, cS (some 4) 2 F_X6_carryI1), (173, cS (some 4) 2 F_X6_carryI1), (189, cS (some 4) 2 F_X6_carryI1)]
theorem cok_X6_carryAll_I1 : CallOK cX6_carryAll 4 none RX6 2 ctb_X6_carryAll_I1 := CallOK_cons (site_same (rnV (pX6_carryAll_ok 21 _ rfl) ct_X6_carryI1 kX6_carry lRX6_208 (by decide))) (CallOK_cons (site_same (rnV (pX6_carryAll_ok 33 _ rfl) ct_X6_carryI1 kX6_carry lRX6_208 (by decide))) (CallOK_cons (site_same (rnV (pX6_carryAll_ok 45 _ rfl) ct_X6_carryI1 kX6_carry lRX6_208 (by decide))) (CallOK_cons (site_same (rnV (pX6_carryAll_ok 57 _ rfl) ct_X6_carryI1 kX6_carry lRX6_208 (by decide))) (CallOK_cons (site_same (rnV (pX6_carryAll_ok 69 _ rfl) ct_X6_carryI1 kX6_carry lRX6_208 (by decide))) (CallOK_cons (site_same (rnV (pX6_carryAll_ok 95 _ rfl) ct_X6_carryI1 kX6_carry lRX6_208 (by decide))) (CallOK_cons (site_same (rnV (pX6_carryAll_ok 125 _ rfl) ct_X6_carryI1 kX6_carry lRX6_208 (by decide))) (CallOK_cons (site_same (rnV (pX6_carryAll_ok 141 _ rfl) ct_X6_carryI1 kX6_carry lRX6_208 (by decide))) (CallOK_cons (site_same (rnV (pX6_carryAll_ok 157 _ rfl) ct_X6_carryI1 kX6_carry lRX6_208 (by decide))) (CallOK_cons (site_same (rnV (pX6_carryAll_ok 173 _ rfl) ct_X6_carryI1 kX6_carry lRX6_208 (by decide))) (CallOK_cons (site_same (rnV (pX6_carryAll_ok 189 _ rfl) ct_X6_carryI1 kX6_carry lRX6_208 (by decide))) (CallOK_nil)))))))))))
theorem ct_X6_carryAllI1 : Ct yX6_carryAll cX6_carryAll 4 none 2 F_X6_carryAllI1 := by
  intro l D σ cA sz as w K h
  obtain ⟨s, q, t, im, ke, p0, tk, ki, rfl, rfl, h⟩ := h
  have m1 : upd im 0 (iG s) = mx (enc s) im 1 := by
    have := mx_succ (enc s) im 0 (iG s) rfl
    rwa [mx_0] at this
  have m2 : upd (mx (enc s) im 1) 1 (iT s) = mx (enc s) im 2 := mx_succ _ _ 1 _ rfl
  have m3 : upd (mx (enc s) im 2) 2 (iS s) = mx (enc s) im 3 := mx_succ _ _ 2 _ rfl
  have m4 : upd (mx (enc s) im 3) 3 (iA s) = mx (enc s) im 4 := mx_succ _ _ 3 _ rfl
  have m5 : upd (mx (enc s) im 4) 4 (iN s) = mx (enc s) im 5 := mx_succ _ _ 4 _ rfl
  refine metL (pr := lkB pX6_carryAll) (rk := 0) (ct := ctb_X6_carryAll_I1) (fld := lkB flX6) (cst := lkB csX6) (cstL := lkB clX6) [(77, ([true, true, true, true], fun n lv st w => ∃ k, k ≤ 10 ∧ n = 100 - k ∧ lv = [some (sR 0), some (sR 17), some (sI 1), some (sI (nI k))] ∧ st = [] ∧ w = keW s q t (mx (enc s) im (5 + k)) ke (nI (5 + k)) 1 (some 17))), (107, ([true, true, true, true], fun n lv st w => ∃ g, g ≤ 7 ∧ n = 50 - g ∧ lv = [some (sR 0), some (sR 17), some (sI 1), some (sI (nI g))] ∧ st = [] ∧ w = keW s q t (mx (enc s) im (15 + 5 * g)) ke (nI (15 + 5 * g)) 1 (some 17)))] pX6_carryAll_ok kX6_carryAll.2.2.2.2.2.2.2 fdX6 cdX6 rto0 cok_X6_carryAll_I1 (Nat.le_of_ble_eq_true rfl) ?_ ?_ l D σ cA sz
  · refine List.forall_mem_cons.mpr ⟨?_, List.forall_mem_cons.mpr ⟨?_, cut0⟩⟩
    · rintro n lv st w ⟨k, hk, rfl, rfl, rfl, rfl⟩
      have ek : k < 10 → (nI k).toNatClampNeg = k := fun q => nI_clamp (by omega)
      conv => whnf
      refine ⟨fun hc => ?_, fun hc => ?_⟩
      · conv => whnf
        obtain rfl := lp_ge hk (by decide) hc
        exact ⟨50, by decide, 0, by decide, rfl, rfl, rfl, rfl⟩
      · have hlt := lp_lt hk (by decide) hc
        have hv : vp_in (nI k) 10 := vp_in_nI hlt (by decide)
        conv => whnf
        refine ⟨hv, ?_⟩
        conv => whnf
        refine ⟨s, q, t, mx (enc s) im (5 + k), ke, 5 + k, iP s (nI k).toNatClampNeg, rfl, rfl, by omega, ?_⟩
        rw [mx_succ _ _ _ _ (by rw [ek hlt, enc_P s hlt])]
        conv => whnf
        refine ⟨hv, ?_⟩
        conv => whnf
        exact ⟨100 - (k + 1), by omega, k + 1, hlt, rfl, by rw [← nI_1]; rfl, rfl, by rw [upd_self]; rfl⟩
    · rintro n lv st w ⟨g, hg, rfl, rfl, rfl, rfl⟩
      have eg : g < 7 → (nI g).toNatClampNeg = g := fun q => nI_clamp (by omega)
      conv => whnf
      refine ⟨fun hc => ?_, fun hc => ?_⟩
      · conv => whnf
        obtain rfl := lp_ge hg (by decide) hc
        exact h
      · have hlt := lp_lt hg (by decide) hc
        have hv : vp_in (nI g) 7 := vp_in_nI hlt (by decide)
        conv => whnf
        refine ⟨hv, ?_⟩
        conv => whnf
        refine ⟨s, q, t, mx (enc s) im (15 + 5 * g), ke, 15 + 5 * g, iK s (nI g).toNatClampNeg, rfl, rfl, by omega, ?_⟩
        rw [mx_succ _ _ _ _ (by rw [eg hlt, enc_K s g])]
        conv => whnf
        refine ⟨hv, ?_⟩
        conv => whnf
        refine ⟨hv, ?_⟩
        conv => whnf
        refine ⟨s, q, t, mx (enc s) im (15 + 5 * g + 1), ke, 15 + 5 * g + 1, iF s (nI g).toNatClampNeg, rfl, (by rw [upd_self]; rfl), by omega, ?_⟩
        rw [mx_succ _ _ _ _ (by rw [eg hlt, enc_F s g])]
        conv => whnf
        refine ⟨hv, ?_⟩
        conv => whnf
        refine ⟨hv, ?_⟩
        conv => whnf
        refine ⟨s, q, t, mx (enc s) im (15 + 5 * g + 2), ke, 15 + 5 * g + 2, iW s (nI g).toNatClampNeg, rfl, (by rw [upd_self]; rfl), by omega, ?_⟩
        rw [mx_succ _ _ _ _ (by rw [eg hlt, enc_W s g])]
        conv => whnf
        refine ⟨hv, ?_⟩
        conv => whnf
        refine ⟨hv, ?_⟩
        conv => whnf
        refine ⟨s, q, t, mx (enc s) im (15 + 5 * g + 3), ke, 15 + 5 * g + 3, iL s (nI g).toNatClampNeg, rfl, (by rw [upd_self]; rfl), by omega, ?_⟩
        rw [mx_succ _ _ _ _ (by rw [eg hlt, enc_L s g])]
        conv => whnf
        refine ⟨hv, ?_⟩
        conv => whnf
        refine ⟨hv, ?_⟩
        conv => whnf
        refine ⟨s, q, t, mx (enc s) im (15 + 5 * g + 4), ke, 15 + 5 * g + 4, iH s (nI g).toNatClampNeg, rfl, (by rw [upd_self]; rfl), by omega, ?_⟩
        rw [mx_succ _ _ _ _ (by rw [eg hlt, enc_H s g])]
        conv => whnf
        refine ⟨hv, ?_⟩
        conv => whnf
        exact ⟨50 - (g + 1), by omega, g + 1, hlt, rfl, by rw [← nI_1]; rfl, rfl, by rw [upd_self]; rfl⟩
  · conv => whnf
    refine ⟨Or.inr rfl, ?_⟩
    conv => whnf
    refine ⟨s, q, t, im, ke, 0, iG s, rfl, rfl, by decide, ?_⟩
    rw [m1]
    conv => whnf
    refine ⟨s, q, t, mx (enc s) im 1, ke, 1, iT s, rfl, rfl, by decide, ?_⟩
    rw [m2]
    conv => whnf
    refine ⟨s, q, t, mx (enc s) im 2, ke, 2, iS s, rfl, rfl, by decide, ?_⟩
    rw [m3]
    conv => whnf
    refine ⟨s, q, t, mx (enc s) im 3, ke, 3, iA s, rfl, rfl, by decide, ?_⟩
    rw [m4]
    conv => whnf
    refine ⟨s, q, t, mx (enc s) im 4, ke, 4, iN s, rfl, rfl, by decide, ?_⟩
    rw [m5]
    conv => whnf
    exact ⟨100, 0, by decide, rfl, rfl, rfl, rfl⟩
/-- all but what the last night showed is of the other -/
abbrev rsS (s0 s : InnS) : InnS := (iK s0, iF s0, iW s0, iL s0, iH s0, iP s0, iG s0, iT s0, iN s0, iS s0, iA s0, iSn s, iLn s)
def F_X6_carryAllK0 : Fn := fun as w K => ∃ (s s0 : InnS) (q : Pm) (t : Tm) (im ke : PA) (p0 tk : Int32) (ki : Option Nat), as = [sR 0, sR 16, sI 0] ∧ w = keW s q t im ke p0 tk ki ∧ (∀ p, p < 50 → ke p = enc s0 p) ∧ ZB s ∧ ZB s0 ∧ K none (keW (rsS s0 s) q t im ke (nI 50) 0 (some 16))
def ctb_X6_carryAll_K0 : List (Nat × (List sv → List sc → (List sv → List sc → Prop) → Prop)) := [(21, cS (some 4) 2 F_X6_carryK0), (33, cS (some 4) 2 F_X6_carryK0), (45, cS (some 4) 2 F_X6_carryK0), (57, cS (some 4) 2 F_X6_carryK0), (69, cS (some 4) 2 F_X6_carryK0), (95, cS (some 4) 2 F_X6_carryK0), (125, cS (some 4) 2 F_X6_carryK0), (141, cS (some 4) 2 F_X6_carryK0), (157, cS (some 4) 2 F_X6_carryK0), (173, cS (some 4) 2 F_X6_carryK0), (189, cS (some 4) 2 F_X6_carryK0)]
theorem cok_X6_carryAll_K0 : CallOK cX6_carryAll 4 none RX6 2 ctb_X6_carryAll_K0 := CallOK_cons (site_same (rnV (pX6_carryAll_ok 21 _ rfl) ct_X6_carryK0 kX6_carry lRX6_208 (by decide))) (CallOK_cons (site_same (rnV (pX6_carryAll_ok 33 _ rfl) ct_X6_carryK0 kX6_carry lRX6_208 (by decide))) (CallOK_cons (site_same (rnV (pX6_carryAll_ok 45 _ rfl) ct_X6_carryK0 kX6_carry lRX6_208 (by decide))) (CallOK_cons (site_same (rnV (pX6_carryAll_ok 57 _ rfl) ct_X6_carryK0 kX6_carry lRX6_208 (by decide))) (CallOK_cons (site_same (rnV (pX6_carryAll_ok 69 _ rfl) ct_X6_carryK0 kX6_carry lRX6_208 (by decide))) (CallOK_cons (site_same (rnV (pX6_carryAll_ok 95 _ rfl) ct_X6_carryK0 kX6_carry lRX6_208 (by decide))) (CallOK_cons (site_same (rnV (pX6_carryAll_ok 125 _ rfl) ct_X6_carryK0 kX6_carry lRX6_208 (by decide))) (CallOK_cons (site_same (rnV (pX6_carryAll_ok 141 _ rfl) ct_X6_carryK0 kX6_carry lRX6_208 (by decide))) (CallOK_cons (site_same (rnV (pX6_carryAll_ok 157 _ rfl) ct_X6_carryK0 kX6_carry lRX6_208 (by decide))) (CallOK_cons (site_same (rnV (pX6_carryAll_ok 173 _ rfl) ct_X6_carryK0 kX6_carry lRX6_208 (by decide))) (CallOK_cons (site_same (rnV (pX6_carryAll_ok 189 _ rfl) ct_X6_carryK0 kX6_carry lRX6_208 (by decide))) (CallOK_nil)))))))))))
theorem ct_X6_carryAllK0 : Ct yX6_carryAll cX6_carryAll 4 none 2 F_X6_carryAllK0 := by
  intro l D σ cA sz as w K h
  obtain ⟨s, s0, q, t, im, ke, p0, tk, ki, rfl, rfl, hb, hZ, hZ0, h⟩ := h
  have b0 : ke 0 = iG s0 := (hb 0 (by decide)).trans rfl
  have b1 : ke 1 = iT s0 := (hb 1 (by decide)).trans rfl
  have b2 : ke 2 = iS s0 := (hb 2 (by decide)).trans rfl
  have b3 : ke 3 = iA s0 := (hb 3 (by decide)).trans rfl
  have b4 : ke 4 = iN s0 := (hb 4 (by decide)).trans rfl
  have bP : ∀ k, k < 10 → ke (5 + k) = iP s0 k := fun k hk => (hb _ (by omega)).trans (enc_P s0 hk)
  have bK : ∀ g, g < 7 → ke (15 + 5 * g) = iK s0 g := fun g hg => (hb _ (by omega)).trans (enc_K s0 g)
  have bF : ∀ g, g < 7 → ke (15 + 5 * g + 1) = iF s0 g := fun g hg => (hb _ (by omega)).trans (enc_F s0 g)
  have bW : ∀ g, g < 7 → ke (15 + 5 * g + 2) = iW s0 g := fun g hg => (hb _ (by omega)).trans (enc_W s0 g)
  have bL : ∀ g, g < 7 → ke (15 + 5 * g + 3) = iL s0 g := fun g hg => (hb _ (by omega)).trans (enc_L s0 g)
  have bH : ∀ g, g < 7 → ke (15 + 5 * g + 4) = iH s0 g := fun g hg => (hb _ (by omega)).trans (enc_H s0 g)
  refine metL (pr := lkB pX6_carryAll) (rk := 0) (ct := ctb_X6_carryAll_K0) (fld := lkB flX6) (cst := lkB csX6) (cstL := lkB clX6) [(77, ([true, true, true, true], fun n lv st w => ∃ k, k ≤ 10 ∧ n = 100 - k ∧ lv = [some (sR 0), some (sR 16), some (sI 0), some (sI (nI k))] ∧ st = [] ∧ w = keW (iK s, iF s, iW s, iL s, iH s, mx (iP s0) (iP s) k, iG s0, iT s0, iN s0, iS s0, iA s0, iSn s, iLn s) q t im ke (nI (5 + k)) 0 (some 16))), (107, ([true, true, true, true], fun n lv st w => ∃ g, g ≤ 7 ∧ n = 50 - g ∧ lv = [some (sR 0), some (sR 16), some (sI 0), some (sI (nI g))] ∧ st = [] ∧ w = keW (mx (iK s0) (iK s) g, mx (iF s0) (iF s) g, mx (iW s0) (iW s) g, mx (iL s0) (iL s) g, mx (iH s0) (iH s) g, mx (iP s0) (iP s) 10, iG s0, iT s0, iN s0, iS s0, iA s0, iSn s, iLn s) q t im ke (nI (15 + 5 * g)) 0 (some 16)))] pX6_carryAll_ok kX6_carryAll.2.2.2.2.2.2.2 fdX6 cdX6 rto0 cok_X6_carryAll_K0 (Nat.le_of_ble_eq_true rfl) ?_ ?_ l D σ cA sz
  · refine List.forall_mem_cons.mpr ⟨?_, List.forall_mem_cons.mpr ⟨?_, cut0⟩⟩
    · rintro n lv st w ⟨k, hk, rfl, rfl, rfl, rfl⟩
      have ek : k < 10 → (nI k).toNatClampNeg = k := fun q => nI_clamp (by omega)
      conv => whnf
      refine ⟨fun hc => ?_, fun hc => ?_⟩
      · conv => whnf
        obtain rfl := lp_ge hk (by decide) hc
        exact ⟨50, by decide, 0, by decide, rfl, rfl, rfl, by rw [mx_0, mx_0, mx_0, mx_0, mx_0]⟩
      · have hlt := lp_lt hk (by decide) hc
        have hv : vp_in (nI k) 10 := vp_in_nI hlt (by decide)
        conv => whnf
        refine ⟨hv, ?_⟩
        conv => whnf
        refine ⟨(iK s, iF s, iW s, iL s, iH s, mx (iP s0) (iP s) k, iG s0, iT s0, iN s0, iS s0, iA s0, iSn s, iLn s), q, t, im, ke, 5 + k, mx (iP s0) (iP s) k (nI k).toNatClampNeg, rfl, rfl, by omega, ?_⟩
        rw [bP k hlt]
        conv => whnf
        refine ⟨hv, ?_⟩
        conv => whnf
        exact ⟨100 - (k + 1), by omega, k + 1, hlt, rfl, by rw [← nI_1]; rfl, rfl, by rw [ek hlt, ← mx_succ (iP s0) (iP s) k _ rfl]; rfl⟩
    · rintro n lv st w ⟨g, hg, rfl, rfl, rfl, rfl⟩
      have eg : g < 7 → (nI g).toNatClampNeg = g := fun q => nI_clamp (by omega)
      conv => whnf
      refine ⟨fun hc => ?_, fun hc => ?_⟩
      · conv => whnf
        obtain rfl := lp_ge hg (by decide) hc
        refine kW h ?_
        rw [mx_full (fun j hj => (hZ0.1 j hj).1) (fun j hj => (hZ.1 j hj).1), mx_full (fun j hj => (hZ0.1 j hj).2.1) (fun j hj => (hZ.1 j hj).2.1), mx_full (fun j hj => (hZ0.1 j hj).2.2.1) (fun j hj => (hZ.1 j hj).2.2.1), mx_full (fun j hj => (hZ0.1 j hj).2.2.2.1) (fun j hj => (hZ.1 j hj).2.2.2.1), mx_full (fun j hj => (hZ0.1 j hj).2.2.2.2) (fun j hj => (hZ.1 j hj).2.2.2.2), mx_full hZ0.2 hZ.2]
      · have hlt := lp_lt hg (by decide) hc
        have hv : vp_in (nI g) 7 := vp_in_nI hlt (by decide)
        conv => whnf
        refine ⟨hv, ?_⟩
        conv => whnf
        refine ⟨(mx (iK s0) (iK s) g, mx (iF s0) (iF s) g, mx (iW s0) (iW s) g, mx (iL s0) (iL s) g, mx (iH s0) (iH s) g, mx (iP s0) (iP s) 10, iG s0, iT s0, iN s0, iS s0, iA s0, iSn s, iLn s), q, t, im, ke, 15 + 5 * g, mx (iK s0) (iK s) g (nI g).toNatClampNeg, rfl, rfl, by omega, ?_⟩
        rw [bK g hlt]
        conv => whnf
        refine ⟨hv, ?_⟩
        conv => whnf
        refine ⟨hv, ?_⟩
        conv => whnf
        refine ⟨(mx (iK s0) (iK s) (g + 1), mx (iF s0) (iF s) g, mx (iW s0) (iW s) g, mx (iL s0) (iL s) g, mx (iH s0) (iH s) g, mx (iP s0) (iP s) 10, iG s0, iT s0, iN s0, iS s0, iA s0, iSn s, iLn s), q, t, im, ke, 15 + 5 * g + 1, mx (iF s0) (iF s) g (nI g).toNatClampNeg, rfl, (by rw [eg hlt, ← mx_succ (iK s0) (iK s) g _ rfl]; rfl), by omega, ?_⟩
        rw [bF g hlt]
        conv => whnf
        refine ⟨hv, ?_⟩
        conv => whnf
        refine ⟨hv, ?_⟩
        conv => whnf
        refine ⟨(mx (iK s0) (iK s) (g + 1), mx (iF s0) (iF s) (g + 1), mx (iW s0) (iW s) g, mx (iL s0) (iL s) g, mx (iH s0) (iH s) g, mx (iP s0) (iP s) 10, iG s0, iT s0, iN s0, iS s0, iA s0, iSn s, iLn s), q, t, im, ke, 15 + 5 * g + 2, mx (iW s0) (iW s) g (nI g).toNatClampNeg, rfl, (by rw [eg hlt, ← mx_succ (iF s0) (iF s) g _ rfl]; rfl), by omega, ?_⟩
        rw [bW g hlt]
        conv => whnf
        refine ⟨hv, ?_⟩
        conv => whnf
        refine ⟨hv, ?_⟩
        conv => whnf
        refine ⟨(mx (iK s0) (iK s) (g + 1), mx (iF s0) (iF s) (g + 1), mx (iW s0) (iW s) (g + 1), mx (iL s0) (iL s) g, mx (iH s0) (iH s) g, mx (iP s0) (iP s) 10, iG s0, iT s0, iN s0, iS s0, iA s0, iSn s, iLn s), q, t, im, ke, 15 + 5 * g + 3, mx (iL s0) (iL s) g (nI g).toNatClampNeg, rfl, (by rw [eg hlt, ← mx_succ (iW s0) (iW s) g _ rfl]; rfl), by omega, ?_⟩
        rw [bL g hlt]
        conv => whnf
        refine ⟨hv, ?_⟩
        conv => whnf
        refine ⟨hv, ?_⟩
        conv => whnf
        refine ⟨(mx (iK s0) (iK s) (g + 1), mx (iF s0) (iF s) (g + 1), mx (iW s0) (iW s) (g + 1), mx (iL s0) (iL s) (g + 1), mx (iH s0) (iH s) g, mx (iP s0) (iP s) 10, iG s0, iT s0, iN s0, iS s0, iA s0, iSn s, iLn s), q, t, im, ke, 15 + 5 * g + 4, mx (iH s0) (iH s) g (nI g).toNatClampNeg, rfl, (by rw [eg hlt, ← mx_succ (iL s0) (iL s) g _ rfl]; rfl), by omega, ?_⟩
        rw [bH g hlt]
        conv => whnf
        refine ⟨hv, ?_⟩
        conv => whnf
        exact ⟨50 - (g + 1), by omega, g + 1, hlt, rfl, by rw [← nI_1]; rfl, rfl, by rw [eg hlt, ← mx_succ (iH s0) (iH s) g _ rfl]; rfl⟩
  · conv => whnf
    refine ⟨Or.inl rfl, ?_⟩
    conv => whnf
    refine ⟨(iK s, iF s, iW s, iL s, iH s, iP s, iG s, iT s, iN s, iS s, iA s, iSn s, iLn s), q, t, im, ke, 0, iG s, rfl, rfl, by decide, ?_⟩
    rw [b0]
    conv => whnf
    refine ⟨(iK s, iF s, iW s, iL s, iH s, iP s, iG s0, iT s, iN s, iS s, iA s, iSn s, iLn s), q, t, im, ke, 1, iT s, rfl, rfl, by decide, ?_⟩
    rw [b1]
    conv => whnf
    refine ⟨(iK s, iF s, iW s, iL s, iH s, iP s, iG s0, iT s0, iN s, iS s, iA s, iSn s, iLn s), q, t, im, ke, 2, iS s, rfl, rfl, by decide, ?_⟩
    rw [b2]
    conv => whnf
    refine ⟨(iK s, iF s, iW s, iL s, iH s, iP s, iG s0, iT s0, iN s, iS s0, iA s, iSn s, iLn s), q, t, im, ke, 3, iA s, rfl, rfl, by decide, ?_⟩
    rw [b3]
    conv => whnf
    refine ⟨(iK s, iF s, iW s, iL s, iH s, iP s, iG s0, iT s0, iN s, iS s0, iA s0, iSn s, iLn s), q, t, im, ke, 4, iN s, rfl, rfl, by decide, ?_⟩
    rw [b4]
    conv => whnf
    exact ⟨100, 0, by decide, rfl, rfl, rfl, by rw [mx_0]; rfl⟩
def F_X6_carryAllI0 : Fn := fun as w K => ∃ (s s0 : InnS) (q : Pm) (t : Tm) (im ke : PA) (p0 tk : Int32) (ki : Option Nat), as = [sR 0, sR 17, sI 0] ∧ w = keW s q t im ke p0 tk ki ∧ (∀ p, p < 50 → im p = enc s0 p) ∧ ZB s ∧ ZB s0 ∧ K none (keW (rsS s0 s) q t im ke (nI 50) 0 (some 17))
def ctb_X6_carryAll_I0 : List (Nat × (List sv → List sc → (List sv → List sc → Prop) → Prop)) := [(21, cS (some 4) 2 F_X6_carryI0), (33, cS (some 4) 2 F_X6_carryI0), (45, cS (some 4) 2 F_X6_carryI0), (57, cS (some 4) 2 F_X6_carryI0), (69, cS (some 4) 2 F_X6_carryI0), (95, cS (some 4) 2 F_X6_carryI0), (125, cS (some 4) 2 F_X6_carryI0), (141, cS (some 4) 2 F_X6_carryI0), (157, cS (some 4) 2 F_X6_carryI0), (173, cS (some 4) 2 F_X6_carryI0), (189, cS (some 4) 2 F_X6_carryI0)]
theorem cok_X6_carryAll_I0 : CallOK cX6_carryAll 4 none RX6 2 ctb_X6_carryAll_I0 := CallOK_cons (site_same (rnV (pX6_carryAll_ok 21 _ rfl) ct_X6_carryI0 kX6_carry lRX6_208 (by decide))) (CallOK_cons (site_same (rnV (pX6_carryAll_ok 33 _ rfl) ct_X6_carryI0 kX6_carry lRX6_208 (by decide))) (CallOK_cons (site_same (rnV (pX6_carryAll_ok 45 _ rfl) ct_X6_carryI0 kX6_carry lRX6_208 (by decide))) (CallOK_cons (site_same (rnV (pX6_carryAll_ok 57 _ rfl) ct_X6_carryI0 kX6_carry lRX6_208 (by decide))) (CallOK_cons (site_same (rnV (pX6_carryAll_ok 69 _ rfl) ct_X6_carryI0 kX6_carry lRX6_208 (by decide))) (CallOK_cons (site_same (rnV (pX6_carryAll_ok 95 _ rfl) ct_X6_carryI0 kX6_carry lRX6_208 (by decide))) (CallOK_cons (site_same (rnV (pX6_carryAll_ok 125 _ rfl) ct_X6_carryI0 kX6_carry lRX6_208 (by decide))) (CallOK_cons (site_same (rnV (pX6_carryAll_ok 141 _ rfl) ct_X6_carryI0 kX6_carry lRX6_208 (by decide))) (CallOK_cons (site_same (rnV (pX6_carryAll_ok 157 _ rfl) ct_X6_carryI0 kX6_carry lRX6_208 (by decide))) (CallOK_cons (site_same (rnV (pX6_carryAll_ok 173 _ rfl) ct_X6_carryI0 kX6_carry lRX6_208 (by decide))) (CallOK_cons (site_same (rnV (pX6_carryAll_ok 189 _ rfl) ct_X6_carryI0 kX6_carry lRX6_208 (by decide))) (CallOK_nil)))))))))))
theorem ct_X6_carryAllI0 : Ct yX6_carryAll cX6_carryAll 4 none 2 F_X6_carryAllI0 := by
  intro l D σ cA sz as w K h
  obtain ⟨s, s0, q, t, im, ke, p0, tk, ki, rfl, rfl, hb, hZ, hZ0, h⟩ := h
  have b0 : im 0 = iG s0 := (hb 0 (by decide)).trans rfl
  have b1 : im 1 = iT s0 := (hb 1 (by decide)).trans rfl
  have b2 : im 2 = iS s0 := (hb 2 (by decide)).trans rfl
  have b3 : im 3 = iA s0 := (hb 3 (by decide)).trans rfl
  have b4 : im 4 = iN s0 := (hb 4 (by decide)).trans rfl
  have bP : ∀ k, k < 10 → im (5 + k) = iP s0 k := fun k hk => (hb _ (by omega)).trans (enc_P s0 hk)
  have bK : ∀ g, g < 7 → im (15 + 5 * g) = iK s0 g := fun g hg => (hb _ (by omega)).trans (enc_K s0 g)
  have bF : ∀ g, g < 7 → im (15 + 5 * g + 1) = iF s0 g := fun g hg => (hb _ (by omega)).trans (enc_F s0 g)
  have bW : ∀ g, g < 7 → im (15 + 5 * g + 2) = iW s0 g := fun g hg => (hb _ (by omega)).trans (enc_W s0 g)
  have bL : ∀ g, g < 7 → im (15 + 5 * g + 3) = iL s0 g := fun g hg => (hb _ (by omega)).trans (enc_L s0 g)
  have bH : ∀ g, g < 7 → im (15 + 5 * g + 4) = iH s0 g := fun g hg => (hb _ (by omega)).trans (enc_H s0 g)
  refine metL (pr := lkB pX6_carryAll) (rk := 0) (ct := ctb_X6_carryAll_I0) (fld := lkB flX6) (cst := lkB csX6) (cstL := lkB clX6) [(77, ([true, true, true, true], fun n lv st w => ∃ k, k ≤ 10 ∧ n = 100 - k ∧ lv = [some (sR 0), some (sR 17), some (sI 0), some (sI (nI k))] ∧ st = [] ∧ w = keW (iK s, iF s, iW s, iL s, iH s, mx (iP s0) (iP s) k, iG s0, iT s0, iN s0, iS s0, iA s0, iSn s, iLn s) q t im ke (nI (5 + k)) 0 (some 17))), (107, ([true, true, true, true], fun n lv st w => ∃ g, g ≤ 7 ∧ n = 50 - g ∧ lv = [some (sR 0), some (sR 17), some (sI 0), some (sI (nI g))] ∧ st = [] ∧ w = keW (mx (iK s0) (iK s) g, mx (iF s0) (iF s) g, mx (iW s0) (iW s) g, mx (iL s0) (iL s) g, mx (iH s0) (iH s) g, mx (iP s0) (iP s) 10, iG s0, iT s0, iN s0, iS s0, iA s0, iSn s, iLn s) q t im ke (nI (15 + 5 * g)) 0 (some 17)))] pX6_carryAll_ok kX6_carryAll.2.2.2.2.2.2.2 fdX6 cdX6 rto0 cok_X6_carryAll_I0 (Nat.le_of_ble_eq_true rfl) ?_ ?_ l D σ cA sz
  · refine List.forall_mem_cons.mpr ⟨?_, List.forall_mem_cons.mpr ⟨?_, cut0⟩⟩
    · rintro n lv st w ⟨k, hk, rfl, rfl, rfl, rfl⟩
      have ek : k < 10 → (nI k).toNatClampNeg = k := fun q => nI_clamp (by omega)
      conv => whnf
      refine ⟨fun hc => ?_, fun hc => ?_⟩
      · conv => whnf
        obtain rfl := lp_ge hk (by decide) hc
        exact ⟨50, by decide, 0, by decide, rfl, rfl, rfl, by rw [mx_0, mx_0, mx_0, mx_0, mx_0]⟩
      · have hlt := lp_lt hk (by decide) hc
        have hv : vp_in (nI k) 10 := vp_in_nI hlt (by decide)
        conv => whnf
        refine ⟨hv, ?_⟩
        conv => whnf
        refine ⟨(iK s, iF s, iW s, iL s, iH s, mx (iP s0) (iP s) k, iG s0, iT s0, iN s0, iS s0, iA s0, iSn s, iLn s), q, t, im, ke, 5 + k, mx (iP s0) (iP s) k (nI k).toNatClampNeg, rfl, rfl, by omega, ?_⟩
        rw [bP k hlt]
        conv => whnf
        refine ⟨hv, ?_⟩
        conv => whnf
        exact ⟨100 - (k + 1), by omega, k + 1, hlt, rfl, by rw [← nI_1]; rfl, rfl, by rw [ek hlt, ← mx_succ (iP s0) (iP s) k _ rfl]; rfl⟩
    · rintro n lv st w ⟨g, hg, rfl, rfl, rfl, rfl⟩
      have eg : g < 7 → (nI g).toNatClampNeg = g := fun q => nI_clamp (by omega)
      conv => whnf
      refine ⟨fun hc => ?_, fun hc => ?_⟩
      · conv => whnf
        obtain rfl := lp_ge hg (by decide) hc
        refine kW h ?_
        rw [mx_full (fun j hj => (hZ0.1 j hj).1) (fun j hj => (hZ.1 j hj).1), mx_full (fun j hj => (hZ0.1 j hj).2.1) (fun j hj => (hZ.1 j hj).2.1), mx_full (fun j hj => (hZ0.1 j hj).2.2.1) (fun j hj => (hZ.1 j hj).2.2.1), mx_full (fun j hj => (hZ0.1 j hj).2.2.2.1) (fun j hj => (hZ.1 j hj).2.2.2.1), mx_full (fun j hj => (hZ0.1 j hj).2.2.2.2) (fun j hj => (hZ.1 j hj).2.2.2.2), mx_full hZ0.2 hZ.2]
      · have hlt := lp_lt hg (by decide) hc
        have hv : vp_in (nI g) 7 := vp_in_nI hlt (by decide)
        conv => whnf
        refine ⟨hv, ?_⟩
        conv => whnf
        refine ⟨(mx (iK s0) (iK s) g, mx (iF s0) (iF s) g, mx (iW s0) (iW s) g, mx (iL s0) (iL s) g, mx (iH s0) (iH s) g, mx (iP s0) (iP s) 10, iG s0, iT s0, iN s0, iS s0, iA s0, iSn s, iLn s), q, t, im, ke, 15 + 5 * g, mx (iK s0) (iK s) g (nI g).toNatClampNeg, rfl, rfl, by omega, ?_⟩
        rw [bK g hlt]
        conv => whnf
        refine ⟨hv, ?_⟩
        conv => whnf
        refine ⟨hv, ?_⟩
        conv => whnf
        refine ⟨(mx (iK s0) (iK s) (g + 1), mx (iF s0) (iF s) g, mx (iW s0) (iW s) g, mx (iL s0) (iL s) g, mx (iH s0) (iH s) g, mx (iP s0) (iP s) 10, iG s0, iT s0, iN s0, iS s0, iA s0, iSn s, iLn s), q, t, im, ke, 15 + 5 * g + 1, mx (iF s0) (iF s) g (nI g).toNatClampNeg, rfl, (by rw [eg hlt, ← mx_succ (iK s0) (iK s) g _ rfl]; rfl), by omega, ?_⟩
        rw [bF g hlt]
        conv => whnf
        refine ⟨hv, ?_⟩
        conv => whnf
        refine ⟨hv, ?_⟩
        conv => whnf
        refine ⟨(mx (iK s0) (iK s) (g + 1), mx (iF s0) (iF s) (g + 1), mx (iW s0) (iW s) g, mx (iL s0) (iL s) g, mx (iH s0) (iH s) g, mx (iP s0) (iP s) 10, iG s0, iT s0, iN s0, iS s0, iA s0, iSn s, iLn s), q, t, im, ke, 15 + 5 * g + 2, mx (iW s0) (iW s) g (nI g).toNatClampNeg, rfl, (by rw [eg hlt, ← mx_succ (iF s0) (iF s) g _ rfl]; rfl), by omega, ?_⟩
        rw [bW g hlt]
        conv => whnf
        refine ⟨hv, ?_⟩
        conv => whnf
        refine ⟨hv, ?_⟩
        conv => whnf
        refine ⟨(mx (iK s0) (iK s) (g + 1), mx (iF s0) (iF s) (g + 1), mx (iW s0) (iW s) (g + 1), mx (iL s0) (iL s) g, mx (iH s0) (iH s) g, mx (iP s0) (iP s) 10, iG s0, iT s0, iN s0, iS s0, iA s0, iSn s, iLn s), q, t, im, ke, 15 + 5 * g + 3, mx (iL s0) (iL s) g (nI g).toNatClampNeg, rfl, (by rw [eg hlt, ← mx_succ (iW s0) (iW s) g _ rfl]; rfl), by omega, ?_⟩
        rw [bL g hlt]
        conv => whnf
        refine ⟨hv, ?_⟩
        conv => whnf
        refine ⟨hv, ?_⟩
        conv => whnf
        refine ⟨(mx (iK s0) (iK s) (g + 1), mx (iF s0) (iF s) (g + 1), mx (iW s0) (iW s) (g + 1), mx (iL s0) (iL s) (g + 1), mx (iH s0) (iH s) g, mx (iP s0) (iP s) 10, iG s0, iT s0, iN s0, iS s0, iA s0, iSn s, iLn s), q, t, im, ke, 15 + 5 * g + 4, mx (iH s0) (iH s) g (nI g).toNatClampNeg, rfl, (by rw [eg hlt, ← mx_succ (iL s0) (iL s) g _ rfl]; rfl), by omega, ?_⟩
        rw [bH g hlt]
        conv => whnf
        refine ⟨hv, ?_⟩
        conv => whnf
        exact ⟨50 - (g + 1), by omega, g + 1, hlt, rfl, by rw [← nI_1]; rfl, rfl, by rw [eg hlt, ← mx_succ (iH s0) (iH s) g _ rfl]; rfl⟩
  · conv => whnf
    refine ⟨Or.inl rfl, ?_⟩
    conv => whnf
    refine ⟨(iK s, iF s, iW s, iL s, iH s, iP s, iG s, iT s, iN s, iS s, iA s, iSn s, iLn s), q, t, im, ke, 0, iG s, rfl, rfl, by decide, ?_⟩
    rw [b0]
    conv => whnf
    refine ⟨(iK s, iF s, iW s, iL s, iH s, iP s, iG s0, iT s, iN s, iS s, iA s, iSn s, iLn s), q, t, im, ke, 1, iT s, rfl, rfl, by decide, ?_⟩
    rw [b1]
    conv => whnf
    refine ⟨(iK s, iF s, iW s, iL s, iH s, iP s, iG s0, iT s0, iN s, iS s, iA s, iSn s, iLn s), q, t, im, ke, 2, iS s, rfl, rfl, by decide, ?_⟩
    rw [b2]
    conv => whnf
    refine ⟨(iK s, iF s, iW s, iL s, iH s, iP s, iG s0, iT s0, iN s, iS s0, iA s, iSn s, iLn s), q, t, im, ke, 3, iA s, rfl, rfl, by decide, ?_⟩
    rw [b3]
    conv => whnf
    refine ⟨(iK s, iF s, iW s, iL s, iH s, iP s, iG s0, iT s0, iN s, iS s0, iA s0, iSn s, iLn s), q, t, im, ke, 4, iN s, rfl, rfl, by decide, ?_⟩
    rw [b4]
    conv => whnf
    exact ⟨100, 0, by decide, rfl, rfl, rfl, by rw [mx_0]; rfl⟩
