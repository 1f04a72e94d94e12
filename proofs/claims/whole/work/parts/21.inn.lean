/-! ===== an inn's cells, and what its methods do to them ===== -/
abbrev InnS : Type := PA × PA × PA × PA × PA × PA × Int32 × Int32 × Int32 × Int32 × Int32 × Int32 × Int32
abbrev iK (s : InnS) : PA := s.1
abbrev iF (s : InnS) : PA := s.2.1
abbrev iW (s : InnS) : PA := s.2.2.1
abbrev iL (s : InnS) : PA := s.2.2.2.1
abbrev iH (s : InnS) : PA := s.2.2.2.2.1
abbrev iP (s : InnS) : PA := s.2.2.2.2.2.1
abbrev iG (s : InnS) : Int32 := s.2.2.2.2.2.2.1
abbrev iT (s : InnS) : Int32 := s.2.2.2.2.2.2.2.1
abbrev iN (s : InnS) : Int32 := s.2.2.2.2.2.2.2.2.1
abbrev iS (s : InnS) : Int32 := s.2.2.2.2.2.2.2.2.2.1
abbrev iA (s : InnS) : Int32 := s.2.2.2.2.2.2.2.2.2.2.1
abbrev iSn (s : InnS) : Int32 := s.2.2.2.2.2.2.2.2.2.2.2.1
abbrev iLn (s : InnS) : Int32 := s.2.2.2.2.2.2.2.2.2.2.2.2
def innW (s : InnS) : List sc := [oC 0 [sR 1, sR 2, sR 3, sR 4, sR 5, sR 6, sI (iG s), sI (iT s), sI (iN s), sI (iS s), sI (iA s), sI (iSn s), sI (iLn s)], aI 7 (iK s), aI 7 (iF s), aI 7 (iW s), aI 7 (iL s), aI 7 (iH s), aI 10 (iP s)]
abbrev ix (g : Int32) : Nat := g.toNatClampNeg
def tb (t g : Int32) : Prop := ¬ (jshr t g &&& 1) = 0
def stS (s : InnS) (k more : Int32) : InnS := (iK s, iF s, iW s, iL s, iH s, upd (iP s) (ix k) (jmin 99 (iP s (ix k) + more)), iG s, iT s, iN s, iS s, iA s, iSn s, iLn s)
noncomputable def chT (t h g : Int32) : Int32 := if h = 0 then t &&& (jshl 1 g ^^^ (-1)) else t
noncomputable def chS (s : InnS) (g d : Int32) : InnS := (iK s, iF s, iW s, iL s, upd (iH s) (ix g) (heldI (iH s (ix g) + d) 99), iP s, iG s, chT (iT s) (heldI (iH s (ix g) + d) 99) g, iN s, iS s, iA s, iSn s, iLn s)
def dmS (s : InnS) (g n : Int32) : Int32 := dreamK (iK s (ix g)) (iF s (ix g)) (iW s (ix g)) (iL s (ix g)) n
theorem kW {K : Option sv → List sc → Prop} {r : Option sv} {w w' : List sc} (h : K r w) (e : w = w') : K r w' := e ▸ h
theorem kIW {K : Option sv → List sc → Prop} {x y : Int32} {w w' : List sc} (h : K (some (.inl x)) w) (e1 : x = y) (e : w = w') : K (some (.inl y)) w' := e1 ▸ e ▸ h
def F_X0_isThere : Fn := fun as w K => ∃ (s : InnS) (g : Int32), as = [sR 0, sI g] ∧ w = innW s ∧ K (some (.inl (bp (tb (iT s) g)))) w
def ctb_X0_isThere : List (Nat × (List sv → List sc → (List sv → List sc → Prop) → Prop)) := []
theorem cok_X0_isThere : CallOK cX0_isThere 2 (some .boolean) RX0 1 ctb_X0_isThere := CallOK_nil
theorem ct_X0_isThere : Ct yX0_isThere cX0_isThere 2 (some .boolean) 1 F_X0_isThere := by
  intro l D σ cA sz as w K h
  obtain ⟨s, g, rfl, rfl, h⟩ := h
  refine metL (pr := lkB pX0_isThere) (rk := 2) (ct := ctb_X0_isThere) (fld := lkB flX0) (cst := lkB csX0) (cstL := lkB clX0) [] pX0_isThere_ok kX0_isThere.2.2.2.2.2.2.2 fdX0 cdX0 rto2 cok_X0_isThere (Nat.le_of_ble_eq_true rfl) cut0 ?_ l D σ cA sz
  repeat' ((conv => whnf); (first | refine And.intro (by first | decide | with_reducible assumption) ?_ | with_reducible refine And.intro (fun hc => ?_) (fun hc => ?_) | with_reducible refine And.intro (fun hc => ?_) ?_ | fail))
  all_goals try (conv => whnf)
  · exact (kB0 h (fun q => q (by assumption))).2
  · exact (kB h (by assumption)).2
def F_X0_knows : Fn := fun as w K => ∃ (s : InnS) (g : Int32), as = [sR 0, sI g] ∧ w = innW s ∧ K (some (.inl (bp (0 ≤ g ∧ g ≤ iG s - 1)))) w
def ctb_X0_knows : List (Nat × (List sv → List sc → (List sv → List sc → Prop) → Prop)) := [(8, cS none 3 F_X5_within)]
theorem cok_X0_knows : CallOK cX0_knows 2 (some .boolean) RX0 2 ctb_X0_knows := CallOK_cons (site_same (rnN (pX0_knows_ok 8 _ rfl) ct_X5_within kX5_within (List.mem_of_getElem? (i := 0) rfl) (by decide))) (CallOK_nil)
theorem ct_X0_knows : Ct yX0_knows cX0_knows 2 (some .boolean) 2 F_X0_knows := by
  intro l D σ cA sz as w K h
  obtain ⟨s, g, rfl, rfl, h⟩ := h
  refine metL (pr := lkB pX0_knows) (rk := 2) (ct := ctb_X0_knows) (fld := lkB flX0) (cst := lkB csX0) (cstL := lkB clX0) [] pX0_knows_ok kX0_knows.2.2.2.2.2.2.2 fdX0 cdX0 rto2 cok_X0_knows (Nat.le_of_ble_eq_true rfl) cut0 ?_ l D σ cA sz
  repeat' ((conv => whnf); (first | refine And.intro (by first | decide | with_reducible assumption) ?_ | with_reducible refine And.intro (fun hc => ?_) (fun hc => ?_) | with_reducible refine And.intro (fun hc => ?_) ?_ | fail))
  all_goals try (conv => whnf)
  exact ⟨bp_01 _, h⟩
def F_X0_stock : Fn := fun as w K => ∃ (s : InnS) (k m : Int32), as = [sR 0, sI k, sI m] ∧ w = innW s ∧ vp_in k 10 ∧ K none (innW (stS s k m))
def ctb_X0_stock : List (Nat × (List sv → List sc → (List sv → List sc → Prop) → Prop)) := [(15, cMin)]
theorem cok_X0_stock : CallOK cX0_stock 3 none RX0 1 ctb_X0_stock := CallOK_cons (site_min (pX0_stock_ok 15 _ rfl) lRX0_62 (by decide)) (CallOK_nil)
theorem ct_X0_stock : Ct yX0_stock cX0_stock 3 none 1 F_X0_stock := by
  intro l D σ cA sz as w K h
  obtain ⟨s, k, m, rfl, rfl, hk, h⟩ := h
  refine metL (pr := lkB pX0_stock) (rk := 0) (ct := ctb_X0_stock) (fld := lkB flX0) (cst := lkB csX0) (cstL := lkB clX0) [] pX0_stock_ok kX0_stock.2.2.2.2.2.2.2 fdX0 cdX0 rto0 cok_X0_stock (Nat.le_of_ble_eq_true rfl) cut0 ?_ l D σ cA sz
  repeat' ((conv => whnf); (first | refine And.intro (by first | decide | with_reducible assumption) ?_ | with_reducible refine And.intro (fun hc => ?_) (fun hc => ?_) | with_reducible refine And.intro (fun hc => ?_) ?_ | fail))
  all_goals try (conv => whnf)
  exact h
def F_X0_dream : Fn := fun as w K => ∃ (s : InnS) (g n : Int32), as = [sR 0, sI g, sI n] ∧ w = innW s ∧ vp_in g 7 ∧ 0 < iF s (ix g) + 2 ∧ K (some (.inl (dmS s g n))) w
def ctb_X0_dream : List (Nat × (List sv → List sc → (List sv → List sc → Prop) → Prop)) := [(25, cS none 5 F_X1_dream)]
theorem cok_X0_dream : CallOK cX0_dream 3 (some .int) RX0 3 ctb_X0_dream := CallOK_cons (site_same (rnS (pX0_dream_ok 25 _ rfl) ct_X1_dream kX1_dream lRX0_86 (by decide))) (CallOK_nil)
theorem ct_X0_dream : Ct yX0_dream cX0_dream 3 (some .int) 3 F_X0_dream := by
  intro l D σ cA sz as w K h
  obtain ⟨s, g, n, rfl, rfl, hg, hf, h⟩ := h
  refine metL (pr := lkB pX0_dream) (rk := 1) (ct := ctb_X0_dream) (fld := lkB flX0) (cst := lkB csX0) (cstL := lkB clX0) [] pX0_dream_ok kX0_dream.2.2.2.2.2.2.2 fdX0 cdX0 rto1 cok_X0_dream (Nat.le_of_ble_eq_true rfl) cut0 ?_ l D σ cA sz
  repeat' ((conv => whnf); (first | refine And.intro (by first | decide | with_reducible assumption) ?_ | with_reducible refine And.intro (fun hc => ?_) (fun hc => ?_) | with_reducible refine And.intro (fun hc => ?_) ?_ | fail))
  all_goals try (conv => whnf)
  exact h
noncomputable def ndS (s : InnS) (g : Int32) : Int32 := @ite _ (tb (iT s) g) (Classical.propDecidable _) (dmS s g (iN s + 1)) (-4)
def F_X0_nextDream : Fn := fun as w K => ∃ (s : InnS) (g : Int32), as = [sR 0, sI g] ∧ w = innW s ∧ vp_in g 7 ∧ 0 < iF s (ix g) + 2 ∧ K (some (.inl (ndS s g))) w
def ctb_X0_nextDream : List (Nat × (List sv → List sc → (List sv → List sc → Prop) → Prop)) := [(2, cS (some 0) 2 F_X0_isThere), (16, cS (some 0) 3 F_X0_dream)]
theorem cok_X0_nextDream : CallOK cX0_nextDream 2 (some .int) RX0 4 ctb_X0_nextDream := CallOK_cons (site_same (rnV (pX0_nextDream_ok 2 _ rfl) ct_X0_isThere kX0_isThere lRX0_76 (by decide))) (CallOK_cons (site_same (rnV (pX0_nextDream_ok 16 _ rfl) ct_X0_dream kX0_dream lRX0_80 (by decide))) (CallOK_nil))
theorem ct_X0_nextDream : Ct yX0_nextDream cX0_nextDream 2 (some .int) 4 F_X0_nextDream := by
  intro l D σ cA sz as w K h
  obtain ⟨s, g, rfl, rfl, hg, hf, h⟩ := h
  refine metL (pr := lkB pX0_nextDream) (rk := 1) (ct := ctb_X0_nextDream) (fld := lkB flX0) (cst := lkB csX0) (cstL := lkB clX0) [] pX0_nextDream_ok kX0_nextDream.2.2.2.2.2.2.2 fdX0 cdX0 rto1 cok_X0_nextDream (Nat.le_of_ble_eq_true rfl) cut0 ?_ l D σ cA sz
  conv => whnf
  refine ⟨s, g, rfl, rfl, ?_⟩
  conv => whnf
  refine ⟨fun hc => ?_, fun hc => ?_⟩
  · conv => whnf
    exact kI h (by unfold ndS; rw [if_neg (bp_0.mp hc)])
  · conv => whnf
    refine ⟨s, g, iN s + 1, rfl, rfl, hg, hf, ?_⟩
    conv => whnf
    exact kI h (by unfold ndS; rw [if_pos (Classical.not_not.mp (fun q => hc (bp_0.mpr q)))])
def F_X0_changeHealth : Fn := fun as w K => ∃ (s : InnS) (g d : Int32), as = [sR 0, sI g, sI d] ∧ w = innW s ∧ vp_in g 7 ∧ K none (innW (chS s g d))
def ctb_X0_changeHealth : List (Nat × (List sv → List sc → (List sv → List sc → Prop) → Prop)) := [(16, cMin), (19, cMax)]
theorem cok_X0_changeHealth : CallOK cX0_changeHealth 3 none RX0 1 ctb_X0_changeHealth := CallOK_cons (site_min (pX0_changeHealth_ok 16 _ rfl) lRX0_62 (by decide)) (CallOK_cons (site_max (pX0_changeHealth_ok 19 _ rfl) lRX0_102 (by decide)) (CallOK_nil))
theorem ct_X0_changeHealth : Ct yX0_changeHealth cX0_changeHealth 3 none 1 F_X0_changeHealth := by
  intro l D σ cA sz as w K h
  obtain ⟨s, g, d, rfl, rfl, hg, h⟩ := h
  have hg' := hg
  refine metL (pr := lkB pX0_changeHealth) (rk := 0) (ct := ctb_X0_changeHealth) (fld := lkB flX0) (cst := lkB csX0) (cstL := lkB clX0) [] pX0_changeHealth_ok kX0_changeHealth.2.2.2.2.2.2.2 fdX0 cdX0 rto0 cok_X0_changeHealth (Nat.le_of_ble_eq_true rfl) cut0 ?_ l D σ cA sz
  repeat' ((conv => whnf); (first | refine And.intro (by first | decide | with_reducible assumption) ?_ | with_reducible refine And.intro (fun hc => ?_) (fun hc => ?_) | with_reducible refine And.intro (fun hc => ?_) ?_ | fail))
  all_goals try (conv => whnf)
  · refine kW h ?_
    rw [pk_us, ← held_mm] at hc
    unfold chS
    rw [← held_mm, chT, if_neg hc]
    rfl
  · refine kW h ?_
    rw [pk_us, ← held_mm] at hc
    unfold chS
    rw [← held_mm, chT, if_pos hc]
    rfl
def tkS (s : InnS) (k e : Int32) : InnS := (iK s, iF s, iW s, iL s, iH s, upd (iP s) (ix k) (iP s (ix k) - e), iG s, iT s, iN s, iS s, iA s, iSn s, iLn s)
def svS (s : InnS) (g k : Int32) : InnS := (iK s, iF s, iW s, upd (iL s) (ix g) k, iH s, iP s, iG s, iT s, iN s, heldI (iS s + 1) 9999, iA s, iSn s ||| jshl 1 g, iLn s)
def laS (s : InnS) (g : Int32) : InnS := (iK s, iF s, iW s, iL s, iH s, iP s, iG s, iT s, iN s, iS s, heldI (iA s + 1) 9999, iSn s, iLn s ||| jshl 1 g)
noncomputable def bfS (s : InnS) (g k : Int32) : InnS := if k = -4 then chS s g (-5) else if eatsK (iK s (ix g)) ≤ iP s (ix k) then svS (chS (tkS s k (eatsK (iK s (ix g)))) g (gainK (iK s (ix g)) (iF s (ix g)) k (iL s (ix g)))) g k else laS (chS s g (-3)) g
theorem iA_ch (s : InnS) (g d : Int32) : iA (chS s g d) = iA s := rfl
theorem iS_ch (s : InnS) (g d : Int32) : iS (chS s g d) = iS s := rfl
theorem iS_tk (s : InnS) (k e : Int32) : iS (tkS s k e) = iS s := rfl
theorem la_w (t : InnS) (g : Int32) (h : ¬ iA t + 1 < 0) : innW (laS t g) = snth (snth (innW t) 0 (oC 0 (snth [sR 1, sR 2, sR 3, sR 4, sR 5, sR 6, sI (iG t), sI (iT t), sI (iN t), sI (iS t), sI (iA t), sI (iSn t), sI (iLn t)] 10 (sI (jmin 9999 (iA t + 1)))))) 0 (oC 0 (snth (snth [sR 1, sR 2, sR 3, sR 4, sR 5, sR 6, sI (iG t), sI (iT t), sI (iN t), sI (iS t), sI (iA t), sI (iSn t), sI (iLn t)] 10 (sI (jmin 9999 (iA t + 1)))) 12 (sI (iLn t ||| jshl 1 g)))) := by
  unfold laS
  rw [held_m (iA t + 1) h]
  rfl
def F_X0_breakfast : Fn := fun as w K => ∃ (s : InnS) (g k : Int32), as = [sR 0, sI g, sI k] ∧ w = innW s ∧ vp_in g 7 ∧ (k = -4 ∨ rng 10 k) ∧ (¬ iS s + 1 < 0 ∧ ¬ iA s + 1 < 0) ∧ K none (innW (bfS s g k))
theorem rng_in {n : Nat} {x : Int32} (h : rng n x) (hn : n < 2 ^ 31) : vp_in x n := by
  obtain ⟨j, hj, rfl⟩ := h
  exact vp_in_nI hj hn
def ctb_X0_breakfast : List (Nat × (List sv → List sc → (List sv → List sc → Prop) → Prop)) := [(6, cS none 1 F_X1_eats), (20, cS (some 0) 3 F_X0_changeHealth), (67, cS none 4 F_X1_gain), (70, cS (some 0) 3 F_X0_changeHealth), (90, cMin), (115, cS (some 0) 3 F_X0_changeHealth), (128, cMin)]
theorem cok_X0_breakfast : CallOK cX0_breakfast 4 none RX0 2 ctb_X0_breakfast := CallOK_cons (site_same (rnS (pX0_breakfast_ok 6 _ rfl) ct_X1_eats kX1_eats lRX0_91 (by decide))) (CallOK_cons (site_same (rnV (pX0_breakfast_ok 20 _ rfl) ct_X0_changeHealth kX0_changeHealth lRX0_95 (by decide))) (CallOK_cons (site_same (rnS (pX0_breakfast_ok 67 _ rfl) ct_X1_gain kX1_gain lRX0_98 (by decide))) (CallOK_cons (site_same (rnV (pX0_breakfast_ok 70 _ rfl) ct_X0_changeHealth kX0_changeHealth lRX0_95 (by decide))) (CallOK_cons (site_min (pX0_breakfast_ok 90 _ rfl) lRX0_62 (by decide)) (CallOK_cons (site_same (rnV (pX0_breakfast_ok 115 _ rfl) ct_X0_changeHealth kX0_changeHealth lRX0_95 (by decide))) (CallOK_cons (site_min (pX0_breakfast_ok 128 _ rfl) lRX0_62 (by decide)) (CallOK_nil)))))))
theorem ct_X0_breakfast : Ct yX0_breakfast cX0_breakfast 4 none 2 F_X0_breakfast := by
  intro l D σ cA sz as w K h
  obtain ⟨s, g, k, rfl, rfl, hg, hk, ⟨hs, ha⟩, h⟩ := h
  refine metL (pr := lkB pX0_breakfast) (rk := 0) (ct := ctb_X0_breakfast) (fld := lkB flX0) (cst := lkB csX0) (cstL := lkB clX0) [] pX0_breakfast_ok kX0_breakfast.2.2.2.2.2.2.2 fdX0 cdX0 rto0 cok_X0_breakfast (Nat.le_of_ble_eq_true rfl) cut0 ?_ l D σ cA sz
  repeat' ((conv => whnf); (first | refine And.intro (by first | decide | with_reducible assumption | exact rng_in (hk.resolve_left (by assumption)) (by decide) | exact hk.resolve_left (by assumption)) ?_ | with_reducible refine And.intro (fun hc => ?_) (fun hc => ?_) | with_reducible refine And.intro (fun hc => ?_) ?_ | fail))
  all_goals try (conv => whnf)
  · refine ⟨s, g, -3, rfl, rfl, hg, ?_⟩
    repeat' ((conv => whnf); (first | refine And.intro (by first | decide | with_reducible assumption) ?_ | with_reducible refine And.intro (fun hc => ?_) (fun hc => ?_) | with_reducible refine And.intro (fun hc => ?_) ?_ | fail))
    all_goals try (conv => whnf)
    refine kW h ?_
    unfold bfS
    rw [if_neg (by assumption), if_neg (fun q => absurd hc (Int32.not_lt.mpr q))]
    exact la_w _ _ (by rw [iA_ch]; exact ha)
  · refine ⟨tkS s k (eatsK (iK s (ix g))), g, gainK (iK s (ix g)) (iF s (ix g)) k (iL s (ix g)), rfl, rfl, hg, ?_⟩
    repeat' ((conv => whnf); (first | refine And.intro (by first | decide | with_reducible assumption) ?_ | with_reducible refine And.intro (fun hc => ?_) (fun hc => ?_) | with_reducible refine And.intro (fun hc => ?_) ?_ | fail))
    all_goals try (conv => whnf)
    refine kW h ?_
    unfold bfS
    rw [if_neg (by assumption), if_pos (Int32.not_lt.mp hc)]
    have hs' : ¬ iS (chS (tkS s k (eatsK (iK s (ix g)))) g (gainK (iK s (ix g)) (iF s (ix g)) k (iL s (ix g)))) + 1 < 0 := by
      rw [iS_ch, iS_tk]; exact hs
    generalize chS (tkS s k (eatsK (iK s (ix g)))) g (gainK (iK s (ix g)) (iF s (ix g)) k (iL s (ix g))) = t at hs' ⊢
    unfold svS
    rw [held_m (iS t + 1) hs']
    rfl
  · refine ⟨s, g, -5, rfl, rfl, hg, ?_⟩
    repeat' ((conv => whnf); (first | refine And.intro (by first | decide | with_reducible assumption) ?_ | with_reducible refine And.intro (fun hc => ?_) (fun hc => ?_) | with_reducible refine And.intro (fun hc => ?_) ?_ | fail))
    all_goals try (conv => whnf)
    refine kW h ?_
    unfold bfS
    rw [if_pos (by assumption)]
/-! a night -/
noncomputable def pkS (s : InnS) (mare sil g : Int32) : Int32 := @ite _ (tb sil g) (Classical.propDecidable _) 1 (if ¬ mare = 0 ∧ ¬ dmS s g (iN s) = -4 then 7 else dmS s g (iN s))
noncomputable def gsS (s : InnS) (mare sil g : Int32) : InnS := @ite _ (tb (iT s) g) (Classical.propDecidable _) (bfS s g (pkS s mare sil g)) s
noncomputable def gfS (mare sil : Int32) : Nat → InnS → InnS
  | 0, s => s
  | j + 1, s => gsS (gfS mare sil j s) mare sil (nI j)
def nbS (s : InnS) : InnS := (iK s, iF s, iW s, iL s, iH s, upd (iP s) (ix (jrem (iN s + 1) 10)) (heldI (iP s (ix (jrem (iN s + 1) 10)) + 2) 99), iG s, iT s, iN s + 1, iS s, iA s, 0, 0)
noncomputable def nightS (mare sil : Int32) (s : InnS) : InnS := gfS mare sil (ix (iG s)) (nbS s)
/-- what holds of an inn through the nights -/
def GS (s : InnS) : Prop := (∀ j, j < 7 → rng 10 (iF s j) ∧ rng 10 (iW s j) ∧ rng 10 (iL s j)) ∧ rng 8 (iG s) ∧ rng 10000 (iS s) ∧ rng 10000 (iA s) ∧ (∀ k, k < 10 → rng 100 (iP s k)) ∧ ∀ j, j < 7 → rng 100 (iH s j)
theorem jrem_nI {a d : Nat} (ha : a < 2 ^ 31) (h0 : 0 < d) (hd : d < 2 ^ 31) : jrem (nI a) (nI d) = nI (a % d) := pk_rem ha h0 hd
theorem rng_inc {x : Int32} (h : rng 10000 x) : ¬ x + 1 < 0 ∧ rng 10000 (heldI (x + 1) 9999) := by
  obtain ⟨j, hj, rfl⟩ := h
  rw [nI_1]
  refine ⟨nI_pos (by omega), ?_⟩
  unfold heldI
  rw [if_neg (nI_pos (by omega))]
  split
  · exact ⟨9999, by decide, by decide⟩
  · rename_i h
    refine ⟨j + 1, ?_, rfl⟩
    rcases Nat.lt_or_ge (j + 1) 10000 with q | q
    · exact q
    · exact absurd (show nI 9999 < nI (j + 1) from nI_lt (by omega) (by omega)) h
theorem rng_held (v : Int32) : rng 100 (heldI v 99) := by
  unfold heldI
  split
  · exact ⟨0, by decide, by decide⟩
  · split
    · exact ⟨99, by decide, by decide⟩
    · rename_i h1 h2
      obtain ⟨j, hj, hx⟩ := nI_of2 (M := 99) (n := 99) rfl h1 (Int32.not_lt.mp h2)
      exact ⟨j, by omega, hx⟩
theorem cook_ok {f w : Int32} {n : Nat} (hw : rng 10 w) : cookD f w (nI n) = -4 ∨ rng 10 (cookD f w (nI n)) := by
  unfold cookD
  split
  · exact Or.inr hw
  · exact Or.inl rfl
theorem dream_ok {k f w la : Int32} {n : Nat} (hn : n < 100000) (hf : rng 10 f) (hw : rng 10 w) (hl : rng 10 la) : dreamK k f w la (nI n) = -4 ∨ rng 10 (dreamK k f w la (nI n)) := by
  have c := cook_ok (f := f) (n := n) hw
  have e : ∀ a : Nat, a < 200000 → rng 10 (jrem (nI a) 10) := fun a ha => ⟨a % 10, Nat.mod_lt _ (by decide), jrem_nI (d := 10) (by omega) (by decide) (by decide)⟩
  unfold dreamK
  repeat' split
  · exact Or.inr ⟨1, by decide, by decide⟩
  · obtain ⟨j, hj, rfl⟩ := hw
    rw [nI_add]
    exact Or.inr (e _ (by omega))
  · exact c
  · exact Or.inr ⟨0, by decide, by decide⟩
  · obtain ⟨j, hj, rfl⟩ := hl
    obtain ⟨i, hi, rfl⟩ := hf
    rw [nI_1, nI_add]
    exact Or.inr (e _ (by omega))
  · exact Or.inr ⟨9, by decide, by decide⟩
  · exact Or.inr hl
  · exact c
  · exact Or.inr hw
theorem pick_ok {s : InnS} {j N : Nat} {mare sil : Int32} (h : GS s) (hj : j < 7) (hN : iN s = nI N) (hN2 : N < 100000) : pkS s mare sil (nI j) = -4 ∨ rng 10 (pkS s mare sil (nI j)) := by
  have e : ix (nI j) = j := nI_clamp (by omega)
  have d : dmS s (nI j) (iN s) = -4 ∨ rng 10 (dmS s (nI j) (iN s)) := by
    unfold dmS
    rw [e, hN]
    exact dream_ok hN2 (h.1 j hj).1 (h.1 j hj).2.1 (h.1 j hj).2.2
  unfold pkS
  split
  · exact Or.inr ⟨1, by decide, by decide⟩
  · split
    · exact Or.inr ⟨7, by decide, by decide⟩
    · exact d
theorem GS_ch {s : InnS} {g d : Int32} (h : GS s) : GS (chS s g d) := by
  refine ⟨h.1, h.2.1, h.2.2.1, h.2.2.2.1, h.2.2.2.2.1, fun j hj => ?_⟩
  show rng 100 (upd (iH s) (ix g) _ j)
  by_cases e : j = ix g
  · rw [e, pk_us]; exact rng_held _
  · rw [pk_un e]; exact h.2.2.2.2.2 j hj
theorem GS_la {s : InnS} {g : Int32} (hc : GS s) : GS (laS s g) := ⟨hc.1, hc.2.1, hc.2.2.1, (rng_inc hc.2.2.2.1).2, hc.2.2.2.2.1, hc.2.2.2.2.2⟩
theorem GS_sv {s : InnS} {g k : Int32} (hc : GS s) (hk : rng 10 k) : GS (svS s g k) := by
  refine ⟨fun j hj => ⟨(hc.1 j hj).1, (hc.1 j hj).2.1, ?_⟩, hc.2.1, (rng_inc hc.2.2.1).2, hc.2.2.2.1, hc.2.2.2.2.1, hc.2.2.2.2.2⟩
  show rng 10 (upd (iL s) (ix g) k j)
  by_cases e : j = ix g
  · rw [e, pk_us]; exact hk
  · rw [pk_un e]; exact (hc.1 j hj).2.2
theorem GS_tk {s : InnS} {k e : Int32} (h : GS s) (he2 : e = nI 2 ∨ e = nI 1) (he : e ≤ iP s (ix k)) : GS (tkS s k e) := by
  refine ⟨h.1, h.2.1, h.2.2.1, h.2.2.2.1, fun q hq => ?_, h.2.2.2.2.2⟩
  show rng 100 (upd (iP s) (ix k) (iP s (ix k) - e) q)
  by_cases e9 : q = ix k
  · rw [e9, pk_us]
    obtain ⟨a, ha, hp⟩ := h.2.2.2.2.1 _ (e9 ▸ hq)
    rw [hp] at he ⊢
    rcases he2 with hee | hee
    · rw [hee] at he ⊢
      have := (nI_leI (by decide) (by omega)).mp he
      exact ⟨a - 2, by omega, pk_sub this⟩
    · rw [hee] at he ⊢
      have := (nI_leI (by decide) (by omega)).mp he
      exact ⟨a - 1, by omega, pk_sub this⟩
  · rw [pk_un e9]; exact h.2.2.2.2.1 q hq
theorem eats_12 (k : Int32) : eatsK k = nI 2 ∨ eatsK k = nI 1 := by
  unfold eatsK; split
  · exact Or.inl (by decide)
  · exact Or.inr (by decide)
theorem GS_bf {s : InnS} {g k : Int32} (h : GS s) (hk : k = -4 ∨ rng 10 k) : GS (bfS s g k) := by
  unfold bfS
  by_cases h4 : k = -4
  · rw [if_pos h4]; exact GS_ch h
  · rw [if_neg h4]
    by_cases he : eatsK (iK s (ix g)) ≤ iP s (ix k)
    · rw [if_pos he]
      exact GS_sv (GS_ch (GS_tk h (eats_12 _) he)) (hk.resolve_left h4)
    · rw [if_neg he]
      exact GS_la (GS_ch h)
theorem ch_keep {s : InnS} {g d : Int32} : iN (chS s g d) = iN s ∧ iG (chS s g d) = iG s ∧ iK (chS s g d) = iK s ∧ iF (chS s g d) = iF s ∧ iW (chS s g d) = iW s := ⟨rfl, rfl, rfl, rfl, rfl⟩
theorem la_keep {s : InnS} {g : Int32} : iN (laS s g) = iN s ∧ iG (laS s g) = iG s ∧ iK (laS s g) = iK s ∧ iF (laS s g) = iF s ∧ iW (laS s g) = iW s := ⟨rfl, rfl, rfl, rfl, rfl⟩
theorem bf_keep {s : InnS} {g k : Int32} : iN (bfS s g k) = iN s ∧ iG (bfS s g k) = iG s ∧ iK (bfS s g k) = iK s ∧ iF (bfS s g k) = iF s ∧ iW (bfS s g k) = iW s := by
  unfold bfS
  split
  · exact ch_keep
  · split
    · exact ⟨rfl, rfl, rfl, rfl, rfl⟩
    · have h1 := la_keep (s := chS s g (-3)) (g := g)
      have h2 := ch_keep (s := s) (g := g) (d := -3)
      exact ⟨h1.1.trans h2.1, h1.2.1.trans h2.2.1, h1.2.2.1.trans h2.2.2.1, h1.2.2.2.1.trans h2.2.2.2.1, h1.2.2.2.2.trans h2.2.2.2.2⟩
theorem gs_keep {s : InnS} {mare sil g : Int32} : iN (gsS s mare sil g) = iN s ∧ iG (gsS s mare sil g) = iG s ∧ iK (gsS s mare sil g) = iK s ∧ iF (gsS s mare sil g) = iF s ∧ iW (gsS s mare sil g) = iW s := by
  unfold gsS
  split
  · exact bf_keep
  · exact ⟨rfl, rfl, rfl, rfl, rfl⟩
theorem gf_keep {s : InnS} {mare sil : Int32} : ∀ j, iN (gfS mare sil j s) = iN s ∧ iG (gfS mare sil j s) = iG s ∧ iK (gfS mare sil j s) = iK s ∧ iF (gfS mare sil j s) = iF s ∧ iW (gfS mare sil j s) = iW s
  | 0 => ⟨rfl, rfl, rfl, rfl, rfl⟩
  | j + 1 => by
    have h := gf_keep (s := s) (mare := mare) (sil := sil) j
    have h2 := gs_keep (s := gfS mare sil j s) (mare := mare) (sil := sil) (g := nI j)
    exact ⟨h2.1.trans h.1, h2.2.1.trans h.2.1, h2.2.2.1.trans h.2.2.1, h2.2.2.2.1.trans h.2.2.2.1, h2.2.2.2.2.trans h.2.2.2.2⟩
theorem GS_gf {s : InnS} {mare sil : Int32} {N : Nat} (h : GS s) (hN : iN s = nI N) (hN2 : N < 100000) : ∀ j, j ≤ 7 → GS (gfS mare sil j s)
  | 0, _ => h
  | j + 1, hj => by
    have h1 := GS_gf (mare := mare) (sil := sil) h hN hN2 j (by omega)
    show GS (gsS _ _ _ _)
    unfold gsS
    split
    · exact GS_bf h1 (pick_ok h1 (by omega) ((gf_keep j).1.trans hN) hN2)
    · exact h1
theorem GS_nb {s : InnS} (h : GS s) : GS (nbS s) := by
  refine ⟨h.1, h.2.1, h.2.2.1, h.2.2.2.1, fun k hk => ?_, h.2.2.2.2.2⟩
  show rng 100 (upd (iP s) _ _ k)
  by_cases e : k = ix (jrem (iN s + 1) 10)
  · rw [e, pk_us]; exact rng_held _
  · rw [pk_un e]; exact h.2.2.2.2.1 k hk
