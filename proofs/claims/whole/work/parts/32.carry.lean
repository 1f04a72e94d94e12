/-! ===== the reference: what is kept and put back ===== -/
def mx (f0 f : PA) (m : Nat) : PA := fun k => if k < m then f0 k else f k
theorem mx_succ (f0 f : PA) (m : Nat) (v : Int32) (h : v = f0 m) : upd (mx f0 f m) m v = mx f0 f (m + 1) := by
  subst h
  funext k
  by_cases e : k = m
  · subst e
    rw [pk_us, mx, if_pos (by omega)]
  · rw [pk_un e]
    unfold mx
    by_cases e2 : k < m
    · rw [if_pos e2, if_pos (by omega)]
    · rw [if_neg e2, if_neg (by omega)]
theorem mx_0 (f0 f : PA) : mx f0 f 0 = f := by
  funext k
  rw [mx, if_neg (by omega)]
theorem mx_at (f0 f : PA) (m : Nat) : mx f0 f m m = f m := by rw [mx, if_neg (by omega)]
theorem mx_full {f0 f : PA} {n : Nat} (h0 : ∀ k, n ≤ k → f0 k = 0) (h : ∀ k, n ≤ k → f k = 0) : mx f0 f n = f0 := by
  funext k
  unfold mx
  by_cases e : k < n
  · rw [if_pos e]
  · rw [if_neg e, h0 k (by omega), h k (by omega)]
theorem upd_self (f : PA) (k : Nat) : upd f k (f k) = f := by
  funext j
  by_cases e : j = k
  · rw [e, pk_us]
  · rw [pk_un e]
/-- what stands at each place of what is kept -/
def enc (s : InnS) (p : Nat) : Int32 := if p = 0 then iG s else if p = 1 then iT s else if p = 2 then iS s else if p = 3 then iA s else if p = 4 then iN s else if p < 15 then iP s (p - 5) else if (p - 15) % 5 = 0 then iK s ((p - 15) / 5) else if (p - 15) % 5 = 1 then iF s ((p - 15) / 5) else if (p - 15) % 5 = 2 then iW s ((p - 15) / 5) else if (p - 15) % 5 = 3 then iL s ((p - 15) / 5) else iH s ((p - 15) / 5)
theorem enc_P (s : InnS) {k : Nat} (h : k < 10) : enc s (5 + k) = iP s k := by
  unfold enc
  rw [if_neg (by omega), if_neg (by omega), if_neg (by omega), if_neg (by omega), if_neg (by omega), if_pos (by omega), show 5 + k - 5 = k by omega]
theorem enc_K (s : InnS) (g : Nat) : enc s (15 + 5 * g) = iK s g := by
  unfold enc
  rw [if_neg (by omega), if_neg (by omega), if_neg (by omega), if_neg (by omega), if_neg (by omega), if_neg (by omega), if_pos (by omega), show (15 + 5 * g - 15) / 5 = g by omega]
theorem enc_F (s : InnS) (g : Nat) : enc s (15 + 5 * g + 1) = iF s g := by
  unfold enc
  rw [if_neg (by omega), if_neg (by omega), if_neg (by omega), if_neg (by omega), if_neg (by omega), if_neg (by omega), if_neg (by omega), if_pos (by omega), show (15 + 5 * g + 1 - 15) / 5 = g by omega]
theorem enc_W (s : InnS) (g : Nat) : enc s (15 + 5 * g + 2) = iW s g := by
  unfold enc
  rw [if_neg (by omega), if_neg (by omega), if_neg (by omega), if_neg (by omega), if_neg (by omega), if_neg (by omega), if_neg (by omega), if_neg (by omega), if_pos (by omega), show (15 + 5 * g + 2 - 15) / 5 = g by omega]
theorem enc_L (s : InnS) (g : Nat) : enc s (15 + 5 * g + 3) = iL s g := by
  unfold enc
  rw [if_neg (by omega), if_neg (by omega), if_neg (by omega), if_neg (by omega), if_neg (by omega), if_neg (by omega), if_neg (by omega), if_neg (by omega), if_neg (by omega), if_pos (by omega), show (15 + 5 * g + 3 - 15) / 5 = g by omega]
theorem enc_H (s : InnS) (g : Nat) : enc s (15 + 5 * g + 4) = iH s g := by
  unfold enc
  rw [if_neg (by omega), if_neg (by omega), if_neg (by omega), if_neg (by omega), if_neg (by omega), if_neg (by omega), if_neg (by omega), if_neg (by omega), if_neg (by omega), if_neg (by omega), show (15 + 5 * g + 4 - 15) / 5 = g by omega]
/-- with other things kept: what think and image write -/
abbrev keW (s : InnS) (q : Pm) (t : Tm) (im ke : PA) (p0 tk : Int32) (ki : Option Nat) : List sc := modX s (qH q) (qK q) (qF q) (qS q) (qM q) (qR q) im (qB q) (tSy t) (tMr t) (tTh t) (tRd t) (tPl t) (tBd t) (tSt t) (tPi t) (tLo t) (tTo t) ke p0 tk ki (tDr t) (tCe t) (tGa t) (tSd t) (tBt t)
def ctb_X6_carry : List (Nat × (List sv → List sc → (List sv → List sc → Prop) → Prop)) := []
theorem cok_X6_carry : CallOK cX6_carry 2 (some .int) RX6 1 ctb_X6_carry := CallOK_nil
def F_X6_carryK1 : Fn := fun as w K => ∃ (s : InnS) (q : Pm) (t : Tm) (im ke : PA) (p : Nat) (v : Int32), as = [sR 0, sI v] ∧ w = keW s q t im ke (nI p) 1 (some 16) ∧ p < 50 ∧ K (some (.inl (v))) (keW s q t im (upd ke p v) (nI (p + 1)) 1 (some 16))
theorem ct_X6_carryK1 : Ct yX6_carry cX6_carry 2 (some .int) 1 F_X6_carryK1 := by
  intro l D σ cA sz as w K h
  obtain ⟨s, q, t, im, ke, p, v, rfl, rfl, hp, h⟩ := h
  have hv : vp_in (nI p) 50 := vp_in_nI hp (by decide)
  have e1 : nI p + 1 - 1 = nI p := by rw [nI_1]; exact nI_pred p
  have hv2 : vp_in (nI p + 1 - 1) 50 := by rw [e1]; exact hv
  have ec : (nI p).toNatClampNeg = p := nI_clamp (by omega)
  rw [← nI_1] at h
  refine metL (pr := lkB pX6_carry) (rk := 1) (ct := ctb_X6_carry) (fld := lkB flX6) (cst := lkB csX6) (cstL := lkB clX6) [] pX6_carry_ok kX6_carry.2.2.2.2.2.2.2 fdX6 cdX6 rto1 cok_X6_carry (Nat.le_of_ble_eq_true rfl) cut0 ?_ l D σ cA sz
  conv => whnf
  refine ⟨fun hc => absurd hc (by decide), fun hc => ?_⟩
  conv => whnf
  refine ⟨hv, ?_⟩
  conv => whnf
  refine ⟨hv2, ?_⟩
  conv => whnf
  refine kIW h ?_ ?_
  · rw [e1, pk_us]
  · rw [ec]; rfl
def F_X6_carryK0 : Fn := fun as w K => ∃ (s : InnS) (q : Pm) (t : Tm) (im ke : PA) (p : Nat) (v : Int32), as = [sR 0, sI v] ∧ w = keW s q t im ke (nI p) 0 (some 16) ∧ p < 50 ∧ K (some (.inl (ke p))) (keW s q t im ke (nI (p + 1)) 0 (some 16))
theorem ct_X6_carryK0 : Ct yX6_carry cX6_carry 2 (some .int) 1 F_X6_carryK0 := by
  intro l D σ cA sz as w K h
  obtain ⟨s, q, t, im, ke, p, v, rfl, rfl, hp, h⟩ := h
  have hv : vp_in (nI p) 50 := vp_in_nI hp (by decide)
  have e1 : nI p + 1 - 1 = nI p := by rw [nI_1]; exact nI_pred p
  have hv2 : vp_in (nI p + 1 - 1) 50 := by rw [e1]; exact hv
  have ec : (nI p).toNatClampNeg = p := nI_clamp (by omega)
  rw [← nI_1] at h
  refine metL (pr := lkB pX6_carry) (rk := 1) (ct := ctb_X6_carry) (fld := lkB flX6) (cst := lkB csX6) (cstL := lkB clX6) [] pX6_carry_ok kX6_carry.2.2.2.2.2.2.2 fdX6 cdX6 rto1 cok_X6_carry (Nat.le_of_ble_eq_true rfl) cut0 ?_ l D σ cA sz
  conv => whnf
  refine ⟨fun hc => ?_, fun hc => absurd rfl hc⟩
  conv => whnf
  refine ⟨hv2, ?_⟩
  conv => whnf
  refine kIW h ?_ rfl
  rw [e1, ec]
def F_X6_carryI1 : Fn := fun as w K => ∃ (s : InnS) (q : Pm) (t : Tm) (im ke : PA) (p : Nat) (v : Int32), as = [sR 0, sI v] ∧ w = keW s q t im ke (nI p) 1 (some 17) ∧ p < 50 ∧ K (some (.inl (v))) (keW s q t (upd im p v) ke (nI (p + 1)) 1 (some 17))
theorem ct_X6_carryI1 : Ct yX6_carry cX6_carry 2 (some .int) 1 F_X6_carryI1 := by
  intro l D σ cA sz as w K h
  obtain ⟨s, q, t, im, ke, p, v, rfl, rfl, hp, h⟩ := h
  have hv : vp_in (nI p) 50 := vp_in_nI hp (by decide)
  have e1 : nI p + 1 - 1 = nI p := by rw [nI_1]; exact nI_pred p
  have hv2 : vp_in (nI p + 1 - 1) 50 := by rw [e1]; exact hv
  have ec : (nI p).toNatClampNeg = p := nI_clamp (by omega)
  rw [← nI_1] at h
  refine metL (pr := lkB pX6_carry) (rk := 1) (ct := ctb_X6_carry) (fld := lkB flX6) (cst := lkB csX6) (cstL := lkB clX6) [] pX6_carry_ok kX6_carry.2.2.2.2.2.2.2 fdX6 cdX6 rto1 cok_X6_carry (Nat.le_of_ble_eq_true rfl) cut0 ?_ l D σ cA sz
  conv => whnf
  refine ⟨fun hc => absurd hc (by decide), fun hc => ?_⟩
  conv => whnf
  refine ⟨hv, ?_⟩
  conv => whnf
  refine ⟨hv2, ?_⟩
  conv => whnf
  refine kIW h ?_ ?_
  · rw [e1, pk_us]
  · rw [ec]; rfl
def F_X6_carryI0 : Fn := fun as w K => ∃ (s : InnS) (q : Pm) (t : Tm) (im ke : PA) (p : Nat) (v : Int32), as = [sR 0, sI v] ∧ w = keW s q t im ke (nI p) 0 (some 17) ∧ p < 50 ∧ K (some (.inl (im p))) (keW s q t im ke (nI (p + 1)) 0 (some 17))
theorem ct_X6_carryI0 : Ct yX6_carry cX6_carry 2 (some .int) 1 F_X6_carryI0 := by
  intro l D σ cA sz as w K h
  obtain ⟨s, q, t, im, ke, p, v, rfl, rfl, hp, h⟩ := h
  have hv : vp_in (nI p) 50 := vp_in_nI hp (by decide)
  have e1 : nI p + 1 - 1 = nI p := by rw [nI_1]; exact nI_pred p
  have hv2 : vp_in (nI p + 1 - 1) 50 := by rw [e1]; exact hv
  have ec : (nI p).toNatClampNeg = p := nI_clamp (by omega)
  rw [← nI_1] at h
  refine metL (pr := lkB pX6_carry) (rk := 1) (ct := ctb_X6_carry) (fld := lkB flX6) (cst := lkB csX6) (cstL := lkB clX6) [] pX6_carry_ok kX6_carry.2.2.2.2.2.2.2 fdX6 cdX6 rto1 cok_X6_carry (Nat.le_of_ble_eq_true rfl) cut0 ?_ l D σ cA sz
  conv => whnf
  refine ⟨fun hc => ?_, fun hc => absurd rfl hc⟩
  conv => whnf
  refine ⟨hv2, ?_⟩
  conv => whnf
  refine kIW h ?_ rfl
  rw [e1, ec]
