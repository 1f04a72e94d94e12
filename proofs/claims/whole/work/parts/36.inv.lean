/-! ===== what holds between calls ===== -/
theorem bv_and (n : Nat) (y : Int32) (hn : n < 128) : ∃ j, j < 128 ∧ nI n &&& y = nI j := by
  refine ⟨n &&& y.toBitVec.toNat, Nat.lt_of_le_of_lt Nat.and_le_left hn, ?_⟩
  apply Int32.toBitVec_inj.mp
  apply BitVec.eq_of_toNat_eq
  have hlt : n &&& y.toBitVec.toNat < 2 ^ 32 := Nat.lt_of_le_of_lt Nat.and_le_left (by omega)
  rw [pk_tn hlt, Int32.toBitVec_and, BitVec.toNat_and, pk_tn (by omega)]
theorem rng_and {x : Int32} (h : rng 128 x) (y : Int32) : rng 128 (x &&& y) := by
  obtain ⟨n, hn, rfl⟩ := h
  exact bv_and n y hn
theorem TB_ch {s : InnS} {g d : Int32} (h : rng 128 (iT s)) : rng 128 (iT (chS s g d)) := by
  show rng 128 (chT _ _ _)
  unfold chT
  split
  · exact rng_and h _
  · exact h
theorem iT_la (s : InnS) (g : Int32) : iT (laS s g) = iT s := rfl
theorem iT_sv (s : InnS) (g k : Int32) : iT (svS s g k) = iT s := rfl
theorem iT_tk (s : InnS) (k e : Int32) : iT (tkS s k e) = iT s := rfl
theorem TB_bf {s : InnS} {g k : Int32} (h : rng 128 (iT s)) : rng 128 (iT (bfS s g k)) := by
  unfold bfS
  by_cases h4 : k = -4
  · rw [if_pos h4]; exact TB_ch h
  · rw [if_neg h4]
    by_cases he : eatsK (iK s (ix g)) ≤ iP s (ix k)
    · rw [if_pos he, iT_sv]
      exact TB_ch (by rw [iT_tk]; exact h)
    · rw [if_neg he, iT_la]
      exact TB_ch h
theorem TB_gf {s : InnS} {mare sil : Int32} (h : rng 128 (iT s)) : ∀ j, rng 128 (iT (gfS mare sil j s))
  | 0 => h
  | j + 1 => by
    show rng 128 (iT (gsS _ _ _ _))
    unfold gsS
    split
    · exact TB_bf (TB_gf h j)
    · exact TB_gf h j
theorem TB_night {s : InnS} {mare sil : Int32} (h : rng 128 (iT s)) : rng 128 (iT (nightS mare sil s)) := TB_gf (s := nbS s) h _
theorem TB_nights {s : InnS} (h : rng 128 (iT s)) : ∀ n, rng 128 (iT (nightsS n s))
  | 0 => h
  | n + 1 => TB_night (TB_nights h n)
/-- an inn between calls -/
def IV (s : InnS) (N : Nat) : Prop := ZB s ∧ GS s ∧ iN s = nI N ∧ N ≤ 999 ∧ rng 128 (iT s)
def snS (s : InnS) (a b : Int32) : InnS := (iK s, iF s, iW s, iL s, iH s, iP s, iG s, iT s, iN s, iS s, iA s, a, b)
def tq0 (t : Tm) : Tm := (tSy t, tMr t, 0, tRd t, tPl t, tBd t, tSt t, tPi t, tLo t, tTo t, tKe t, tP0 t, tTk t, tKi t, tDr t, tCe t, tGa t, tSd t, tBt t)
theorem kn {g : Int32} {G : Nat} (hG7 : G < 8) (h : 0 ≤ g ∧ g ≤ nI G - 1) : ∃ j, j < G ∧ g = nI j := by
  cases G with
  | zero =>
    have h1 := Int32.le_trans h.1 h.2
    exact absurd h1 (by decide)
  | succ G =>
    rw [nI_pred] at h
    obtain ⟨j, hj, hx⟩ := nI_of2 (M := nI G) (n := G) (nI_toInt (by omega)) (Int32.not_lt.mpr h.1) h.2
    exact ⟨j, by omega, hx⟩
theorem in_rng {x : Int32} {n : Nat} (hn : n < 2 ^ 31) (h : 0 ≤ x ∧ x ≤ nI n) : ∃ j, j ≤ n ∧ x = nI j := nI_of2 (nI_toInt hn) (Int32.not_lt.mpr h.1) h.2
theorem bp_n {P : Prop} (h : ¬ bp P = 0) : P := Classical.not_not.mp (fun q => h (bp_0.mpr q))
theorem plate_in {k : Int32} (h : 0 ≤ k ∧ k ≤ 9) : vp_in k 10 := by
  obtain ⟨j, hj, rfl⟩ := in_rng (n := 9) (by decide) h
  exact vp_in_nI (by omega) (by decide)
/-! the answers -/
noncomputable def laF (s : InnS) (k : Int32) : Int32 := if 0 ≤ k ∧ k ≤ 9 then iP s (ix k) else -1
noncomputable def gtF (s : InnS) (g n what : Int32) : Int32 := if (0 ≤ g ∧ g ≤ iG s - 1) ∧ (0 ≤ n ∧ n ≤ 60) ∧ (0 ≤ what ∧ what ≤ 1) then (if what = 0 then iH (nightsS (ix n) s) (ix g) else iL (nightsS (ix n) s) (ix g)) else -1
def F_X6_larder : Fn := fun as w K => ∃ (s : InnS) (q : Pm) (t : Tm) (k : Int32), as = [sR 0, sI k] ∧ w = modW s q t ∧ TZ t ∧ ∀ a b t', TZ t' → K (some (.inl (laF s k))) (modW (snS s a b) q t')
def ctb_X6_larder : List (Nat × (List sv → List sc → (List sv → List sc → Prop) → Prop)) := [(6, cS none 1 F_X6_isPlate)]
theorem cok_X6_larder : CallOK cX6_larder 2 (some .int) RX6 3 ctb_X6_larder := CallOK_cons (site_same (rnS (pX6_larder_ok 6 _ rfl) ct_X6_isPlate kX6_isPlate lRX6_220 (by decide))) (CallOK_nil)
theorem ct_X6_larder : Ct yX6_larder cX6_larder 2 (some .int) 3 F_X6_larder := by
  intro l D σ cA sz as w K h
  obtain ⟨s, q, t, k, rfl, rfl, hT, h⟩ := h
  have h := h (iSn s) (iLn s) (tq0 t) hT
  refine metL (pr := lkB pX6_larder) (rk := 1) (ct := ctb_X6_larder) (fld := lkB flX6) (cst := lkB csX6) (cstL := lkB clX6) [] pX6_larder_ok kX6_larder.2.2.2.2.2.2.2 fdX6 cdX6 rto1 cok_X6_larder (Nat.le_of_ble_eq_true rfl) cut0 ?_ l D σ cA sz
  conv => whnf
  refine ⟨fun hc => ?_, fun hc => ?_⟩
  · conv => whnf
    exact kI h (by unfold laF; rw [if_neg (bp_0.mp hc)])
  · conv => whnf
    refine ⟨plate_in (bp_n hc), ?_⟩
    conv => whnf
    exact kI h (by unfold laF; rw [if_pos (bp_n hc)])
def F_X6_guestThen : Fn := fun as w K => ∃ (s : InnS) (q : Pm) (t : Tm) (N : Nat) (g n what : Int32), as = [sR 0, sI g, sI n, sI what] ∧ w = modW s q t ∧ TZ t ∧ IV s N ∧ ∀ a b t', TZ t' → K (some (.inl (gtF s g n what))) (modW (snS s a b) q t')
def ctb_X6_guestThen : List (Nat × (List sv → List sc → (List sv → List sc → Prop) → Prop)) := [(7, cS (some 4) 2 F_X6_isOne), (19, cS none 3 F_X6_in), (29, cS none 3 F_X6_in), (38, cS (some 4) 1 F_X6_think), (43, cS (some 4) 2 F_X6_goNights), (68, cS (some 4) 1 F_X6_again)]
theorem cok_X6_guestThen : CallOK cX6_guestThen 5 (some .int) RX6 6 ctb_X6_guestThen := CallOK_cons (site_same (rnV (pX6_guestThen_ok 7 _ rfl) ct_X6_isOne kX6_isOne lRX6_171 (by decide))) (CallOK_cons (site_same (rnS (pX6_guestThen_ok 19 _ rfl) ct_X6_in kX6_in lRX6_81 (by decide))) (CallOK_cons (site_same (rnS (pX6_guestThen_ok 29 _ rfl) ct_X6_in kX6_in lRX6_81 (by decide))) (CallOK_cons (site_same (rnV (pX6_guestThen_ok 38 _ rfl) ct_X6_think kX6_think lRX6_190 (by decide))) (CallOK_cons (site_same (rnV (pX6_guestThen_ok 43 _ rfl) ct_X6_goNights kX6_goNights lRX6_168 (by decide))) (CallOK_cons (site_same (rnV (pX6_guestThen_ok 68 _ rfl) ct_X6_again kX6_again lRX6_196 (by decide))) (CallOK_nil))))))
theorem ct_X6_guestThen : Ct yX6_guestThen cX6_guestThen 5 (some .int) 6 F_X6_guestThen := by
  intro l D σ cA sz as w K h
  obtain ⟨s, q, t, N, g, n, what, rfl, rfl, hT, ⟨hZ, hG, hN, hN9, hB⟩, h⟩ := h
  have h0 := h (iSn s) (iLn s) (tq0 t) hT
  have hT0 : TZ (tq0 t) := hT
  refine metL (pr := lkB pX6_guestThen) (rk := 1) (ct := ctb_X6_guestThen) (fld := lkB flX6) (cst := lkB csX6) (cstL := lkB clX6) [] pX6_guestThen_ok kX6_guestThen.2.2.2.2.2.2.2 fdX6 cdX6 rto1 cok_X6_guestThen (Nat.le_of_ble_eq_true rfl) cut0 ?_ l D σ cA sz
  conv => whnf
  refine ⟨s, q, tq0 t, g, rfl, rfl, ?_⟩
  conv => whnf
  refine ⟨fun hc => ?_, fun hc1 => ?_⟩
  · conv => whnf
    exact kI h0 (by unfold gtF; rw [if_neg (fun q => bp_0.mp hc q.1)])
  conv => whnf
  refine ⟨fun hc => ?_, fun hc2 => ?_⟩
  · conv => whnf
    have hc := (in_ii 0 n 60).symm.trans hc
    exact kI h0 (by unfold gtF; rw [if_neg (fun q => bp_0.mp hc q.2.1)])
  conv => whnf
  refine ⟨fun hc3 => ?_, fun hc => ?_⟩
  rotate_left
  · conv => whnf
    have hc := (in_ii 0 what 1).symm.trans hc
    exact kI h0 (by unfold gtF; rw [if_neg (fun q => bp_0.mp hc q.2.2)])
  have c1 := bp_n hc1
  have c2 := bp_n (fun z => hc2 ((in_ii 0 n 60).trans z))
  have c3 := bp_n (fun z => hc3 ((in_ii 0 what 1).trans z))
  obtain ⟨G, hG7, hGG⟩ := hG.2.1
  obtain ⟨j, hj, ej⟩ := kn hG7 (by rw [← hGG]; exact c1)
  obtain ⟨n', hn', en⟩ := in_rng (n := 60) (by decide) c2
  have hv : vp_in g 7 := by rw [ej]; exact vp_in_nI (by omega) (by decide)
  have eix : ix n = n' := by rw [en]; exact nI_clamp (by omega)
  have hr : gtF s g n what = if what = 0 then iH (nightsS n' s) (ix g) else iL (nightsS n' s) (ix g) := by
    unfold gtF
    rw [if_pos ⟨c1, c2, c3⟩, eix]
  have hz := ZB_nights hZ hG hN n' (by omega)
  conv => whnf
  refine ⟨s, q, tq0 t, rfl, rfl, fun t1 hs1 hk1 => ?_⟩
  conv => whnf
  refine ⟨s, q, t1, n', N, by rw [en], rfl, hs1.tz hT0, hG, hN, by omega, ?_⟩
  conv => whnf
  refine ⟨fun hw => ?_, fun hw => ?_⟩
  · conv => whnf
    refine ⟨hv, ?_⟩
    conv => whnf
    refine ⟨nightsS n' s, s, q, t1, rfl, rfl, hk1, hz, hZ, fun t2 hs2 hk2 => ?_⟩
    conv => whnf
    exact kI (h (iSn (nightsS n' s)) (iLn (nightsS n' s)) t2 (hs2.tz (hs1.tz hT0))) (by rw [hr, if_neg hw])
  · conv => whnf
    refine ⟨hv, ?_⟩
    conv => whnf
    refine ⟨nightsS n' s, s, q, t1, rfl, rfl, hk1, hz, hZ, fun t2 hs2 hk2 => ?_⟩
    conv => whnf
    exact kI (h (iSn (nightsS n' s)) (iLn (nightsS n' s)) t2 (hs2.tz (hs1.tz hT0))) (by rw [hr, if_pos hw])
