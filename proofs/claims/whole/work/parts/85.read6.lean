/-! ===== how the reference reads ===== -/
abbrev modR (s : InnS) (q : Pm) (t : Tm) (rd pl bd st : Int32) (pi lo to : PA) : List sc := modX s (qH q) (qK q) (qF q) (qS q) (qM q) (qR q) (qI q) (qB q) (tSy t) (tMr t) (tTh t) rd pl bd st pi lo to (tKe t) (tP0 t) (tTk t) (tKi t) (tDr t) (tCe t) (tGa t) (tSd t) (tBt t)
/-- the row that is read -/
def RC (q : Pm) (c : PA) (d n : Nat) : Prop := d < 8 ∧ n ≤ 100 ∧ qM q d = nI n ∧ ∀ i, i < n → qR q (100 * d + i) = (c i).toInt64
def hrF (c : PA) (n p : Nat) : Int32 := if p < n then c p else -999
theorem l2i_i2l (x : Int32) : x.toInt64.toInt32 = x := by simp
def F_X6_here : Fn := fun as w K => ∃ (s : InnS) (q : Pm) (t : Tm) (c : PA) (d n p : Nat) (bd st : Int32) (pi lo to : PA), as = [sR 0] ∧ w = modR s q t (nI d) (nI p) bd st pi lo to ∧ RC q c d n ∧ p < 1000 ∧ K (some (.inl (hrF c n p))) w
def ctb_X6_here : List (Nat × (List sv → List sc → (List sv → List sc → Prop) → Prop)) := []
theorem cok_X6_here : CallOK cX6_here 1 (some .int) RX6 1 ctb_X6_here := CallOK_nil
theorem ct_X6_here : Ct yX6_here cX6_here 1 (some .int) 1 F_X6_here := by
  intro l D σ cA sz as w K h
  obtain ⟨s, q, t, c, d, n, p, bd, st, pi, lo, to, rfl, rfl, ⟨hd, hn, eM, hrow⟩, hp, h⟩ := h
  refine metL (pr := lkB pX6_here) (rk := 1) (ct := ctb_X6_here) (fld := lkB flX6) (cst := lkB csX6) (cstL := lkB clX6) [] pX6_here_ok kX6_here.2.2.2.2.2.2.2 fdX6 cdX6 rto1 cok_X6_here (Nat.le_of_ble_eq_true rfl) cut0 ?_ l D σ cA sz
  conv => whnf
  refine ⟨vp_in_nI hd (by decide), ?_⟩
  rw [show (nI d).toNatClampNeg = d from nI_clamp (by omega), eM]
  conv => whnf
  refine ⟨fun hc => ?_, fun hc => ?_⟩
  · have hc := (nI_leI (by omega) (by omega)).mp hc
    conv => whnf
    exact kI h (by unfold hrF; rw [if_neg (by omega)])
  · have hc : p < n := Nat.not_le.mp (fun z => hc (nI_le z (by omega)))
    obtain ⟨r1, r2, r3⟩ := row_ix hd (show p < 100 by omega)
    conv => whnf
    rw [r1]
    refine ⟨r2, ?_⟩
    rw [r3, hrow p hc]
    conv => whnf
    exact kI h (by unfold hrF; rw [if_pos hc]; exact (l2i_i2l _).symm)
def bi (b : Bool) : Int32 := cond b 1 0
theorem hr_dg (c : PA) (n p : Nat) : (48 ≤ hrF c n p ∧ hrF c n p ≤ 57) ↔ DG c n p := by
  unfold hrF
  by_cases h : p < n
  · rw [if_pos h]
    exact ⟨fun z => ⟨h, z⟩, fun z => z.2⟩
  · rw [if_neg h]
    exact ⟨fun z => absurd z (by decide), fun z => absurd z.1 h⟩
def rd1 (c : PA) (n : Nat) (x : Nat × Bool × Int32) : Nat × Bool × Int32 := if x.2.1 = true ∨ ¬ DG c n x.1 then (x.1, true, 0) else (x.1 + 1, false, 10 * x.2.2 + c x.1 - 48)
def rdF (c : PA) (n : Nat) : Nat → Nat × Bool × Int32 → Nat × Bool × Int32
  | 0, x => x
  | k + 1, x => rd1 c n (rdF c n k x)
theorem rd_b {c : PA} {n p : Nat} {v : Int32} : rd1 c n (p, true, v) = (p, true, 0) := by unfold rd1; rw [if_pos (Or.inl rfl)]
theorem rd_n {c : PA} {n p : Nat} {v : Int32} (h : ¬ DG c n p) : rd1 c n (p, false, v) = (p, true, 0) := by unfold rd1; rw [if_pos (Or.inr h)]
theorem rd_y {c : PA} {n p : Nat} {v : Int32} (h : DG c n p) : rd1 c n (p, false, v) = (p + 1, false, 10 * v + c p - 48) := by
  unfold rd1
  rw [if_neg (fun z => z.elim (fun y => by cases y) (fun y => y h))]
theorem nI_p0 (a : Nat) : nI a + 0 = nI a := nI_add a 0
def F_X6_readDigits : Fn := fun as w K => ∃ (s : InnS) (q : Pm) (t : Tm) (c : PA) (d n M p : Nat) (b : Bool) (st : Int32) (pi lo to : PA), as = [sR 0, sI (nI M)] ∧ w = modR s q t (nI d) (nI p) (bi b) st pi lo to ∧ RC q c d n ∧ p < 900 ∧ M < 5 ∧ ∀ p' b' v', rdF c n M (p, b, 0) = (p', b', v') → p' ≤ p + M → K (some (.inl v')) (modR s q t (nI d) (nI p') (bi b') st pi lo to)
def ctb_X6_readDigits : List (Nat × (List sv → List sc → (List sv → List sc → Prop) → Prop)) := [(18, cS (some 4) 1 F_X6_here), (28, cS none 3 F_X6_in), (58, cS (some 4) 1 F_X6_here)]
theorem cok_X6_readDigits : CallOK cX6_readDigits 4 (some .int) RX6 2 ctb_X6_readDigits := CallOK_cons (site_same (rnV (pX6_readDigits_ok 18 _ rfl) ct_X6_here kX6_here lRX6_144 (by decide))) (CallOK_cons (site_same (rnS (pX6_readDigits_ok 28 _ rfl) ct_X6_in kX6_in lRX6_81 (by decide))) (CallOK_cons (site_same (rnV (pX6_readDigits_ok 58 _ rfl) ct_X6_here kX6_here lRX6_144 (by decide))) (CallOK_nil)))
theorem ct_X6_readDigits : Ct yX6_readDigits cX6_readDigits 4 (some .int) 2 F_X6_readDigits := by
  intro l D σ cA sz as w K h
  obtain ⟨s, q, t, c, d, n, M, p, b, st, pi, lo, to, rfl, rfl, hR, hp, hD, h⟩ := h
  refine metL (pr := lkB pX6_readDigits) (rk := 1) (ct := ctb_X6_readDigits) (fld := lkB flX6) (cst := lkB csX6) (cstL := lkB clX6) [(4, ([true, true, true, true], fun x lv st' w => ∃ (k p' : Nat) (b' : Bool) (v' : Int32), k ≤ M ∧ x = M - k ∧ rdF c n k (p, b, 0) = (p', b', v') ∧ p' ≤ p + k ∧ lv = [some (sR 0), some (sI (nI M)), some (sI v'), some (sI (nI k))] ∧ st' = [] ∧ w = modR s q t (nI d) (nI p') (bi b') st pi lo to))] pX6_readDigits_ok kX6_readDigits.2.2.2.2.2.2.2 fdX6 cdX6 rto1 cok_X6_readDigits (Nat.le_of_ble_eq_true rfl) ?_ ?_ l D σ cA sz
  · refine List.forall_mem_cons.mpr ⟨?_, cut0⟩
    rintro x lv st' w ⟨k, p', b', v', hk, rfl, hrd, hpk, rfl, rfl, rfl⟩
    conv => whnf
    refine ⟨fun hc => ?_, fun hc => ?_⟩
    · obtain rfl := lp_ge hk (by omega) hc
      conv => whnf
      exact h p' b' v' hrd hpk
    have hlt := lp_lt hk (by omega) hc
    have hsuc : rdF c n (k + 1) (p, b, 0) = rd1 c n (p', b', v') := by
      show rd1 c n (rdF c n k (p, b, 0)) = _
      rw [hrd]
    cases b' with
    | true =>
      rw [rd_b] at hsuc
      repeat' ((conv => whnf); (first | ((with_reducible refine And.intro (fun z => ?_) (fun z => ?_)) <;> (try (first | exact absurd z (by first | assumption | decide) | exact absurd (by first | assumption | decide) z))) | fail))
      all_goals (conv => whnf)
      refine ⟨Or.inr rfl, ?_⟩
      repeat' ((conv => whnf); (first | ((with_reducible refine And.intro (fun z => ?_) (fun z => ?_)) <;> (try (first | exact absurd z (by first | assumption | decide) | exact absurd (by first | assumption | decide) z))) | fail))
      all_goals (conv => whnf)
      exact ⟨M - (k + 1), by omega, k + 1, p', true, 0, hlt, rfl, hsuc, by omega, by rw [← nI_1]; rfl, rfl, Eq.trans (b := modR s q t (nI d) (nI p' + 0) (bi true) st pi lo to) rfl (by rw [nI_p0])⟩
    | false =>
      have hin : bp ((48 : Int64) ≤ (hrF c n p').toInt64 ∧ (hrF c n p').toInt64 ≤ 57) = bp (DG c n p') := (in_ii 48 (hrF c n p') 57).trans (bp_iff (hr_dg c n p'))
      by_cases hg : DG c n p'
      · rw [rd_y hg] at hsuc
        have hh : hrF c n p' = c p' := by unfold hrF; rw [if_pos hg.1]
        conv => whnf
        refine ⟨fun z => absurd rfl z, fun _ => ?_⟩
        conv => whnf
        refine ⟨s, q, t, c, d, n, p', _, st, pi, lo, to, rfl, rfl, hR, by omega, ?_⟩
        conv => whnf
        rw [hin, bp_t hg]
        refine ⟨fun _ => ?_, fun z => absurd z (by decide)⟩
        conv => whnf
        refine ⟨Or.inl rfl, ?_⟩
        conv => whnf
        refine ⟨fun _ => ?_, fun z => absurd rfl z⟩
        conv => whnf
        refine ⟨s, q, t, c, d, n, p', _, st, pi, lo, to, rfl, rfl, hR, by omega, ?_⟩
        rw [hh]
        conv => whnf
        refine ⟨fun _ => ?_, fun z => absurd rfl z⟩
        conv => whnf
        exact ⟨M - (k + 1), by omega, k + 1, p' + 1, false, _, hlt, rfl, hsuc, by omega, by rw [← nI_1]; rfl, rfl, Eq.trans (b := modR s q t (nI d) (nI p' + 1) (bi false) st pi lo to) rfl (by rw [nI_1])⟩
      · rw [rd_n hg] at hsuc
        conv => whnf
        refine ⟨fun z => absurd rfl z, fun _ => ?_⟩
        conv => whnf
        refine ⟨s, q, t, c, d, n, p', _, st, pi, lo, to, rfl, rfl, hR, by omega, ?_⟩
        conv => whnf
        rw [hin, bp_f hg]
        refine ⟨fun z => absurd rfl z, fun _ => ?_⟩
        conv => whnf
        refine ⟨Or.inr rfl, ?_⟩
        conv => whnf
        refine ⟨fun z => absurd z (by decide), fun _ => ?_⟩
        conv => whnf
        refine ⟨fun z => absurd z (by decide), fun _ => ?_⟩
        conv => whnf
        exact ⟨M - (k + 1), by omega, k + 1, p', true, 0, hlt, rfl, hsuc, by omega, by rw [← nI_1]; rfl, rfl, Eq.trans (b := modR s q t (nI d) (nI p' + 0) (bi true) st pi lo to) rfl (by rw [nI_p0])⟩
  · conv => whnf
    exact ⟨M - 0, 0, p, b, 0, Nat.zero_le _, rfl, rfl, by omega, rfl, rfl, rfl⟩
