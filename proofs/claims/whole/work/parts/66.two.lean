/-! ===== two ===== -/
def silI (a b x : Int32) : Int32 := (if x &&& 2 = 0 then jshl 1 a else 0) ||| (if x &&& 1 = 0 then jshl 1 b else 0)
noncomputable def twS (s : InnS) (a b : Int32) (n : Nat) (x : Int32) : InnS := nightsS (n - 1) (nightS 0 (silI a b x) s)
noncomputable def pyA (s : InnS) (a b : Int32) (n p : Nat) : Int32 := iH (twS s a b n (nI p)) (ix a) - (if nI p &&& 2 = 0 then 2 else 0)
noncomputable def pyB (s : InnS) (a b : Int32) (n p : Nat) : Int32 := iH (twS s a b n (nI p)) (ix b) - (if nI p &&& 1 = 0 then 2 else 0)
def x2p (p : Nat) : Nat := ix (nI p ^^^ 2)
def x1p (p : Nat) : Nat := ix (nI p ^^^ 1)
def twP (s : InnS) (a b : Int32) (n p : Nat) : Prop := pyA s a b n (x2p p) ≤ pyA s a b n p ∧ pyB s a b n (x1p p) ≤ pyB s a b n p
noncomputable def twA (P : Nat → Prop) : Int32 := if fst P 4 = 4 then -4 else nI (10 * (fst P 4 / 2) + fst P 4 % 2)
def twC (s : InnS) (a b n : Int32) : Prop := (0 ≤ a ∧ a ≤ iG s - 1) ∧ (0 ≤ b ∧ b ≤ iG s - 1) ∧ ¬ a = b ∧ (1 ≤ n ∧ n ≤ 30)
noncomputable def tuR (s : InnS) (a b n : Int32) : Int32 := @ite _ (twC s a b n) (Classical.propDecidable _) (@ite _ (tb (iT s) a ∧ tb (iT s) b) (Classical.propDecidable _) (twA (twP s a b (ix n))) (-3)) (-1)
theorem n30 {n : Int32} (h : 1 ≤ n ∧ n ≤ 30) : ∃ j, 1 ≤ j ∧ j ≤ 30 ∧ n = nI j := by
  have h0 : ¬ n < 0 := fun q => absurd (Int32.lt_of_lt_of_le q (by decide : (0 : Int32) ≤ 1)) (Int32.not_lt.mpr h.1)
  obtain ⟨j, hj, hx⟩ := nI_of2 (M := 30) (n := 30) rfl h0 h.2
  refine ⟨j, ?_, hj, hx⟩
  rw [hx] at h
  exact (nI_leI (by decide) (by omega)).mp (show nI 1 ≤ nI j from h.1)
theorem tw_keep {s : InnS} {a b x : Int32} {N n : Nat} (hZ : ZB s) (hG : GS s) (hN : iN s = nI N) (hN9 : N ≤ 999) (hn : 1 ≤ n) (hn3 : n ≤ 30) : GS (nightS 0 (silI a b x) s) ∧ iN (nightS 0 (silI a b x) s) = nI (N + 1) ∧ ZB (nightS 0 (silI a b x) s) ∧ ZB (twS s a b n x) := by
  have h1 := GS_night (mare := 0) (sil := silI a b x) hG hN (by omega)
  have h2 : iN (nightS 0 (silI a b x) s) = nI (N + 1) := by rw [night_keep.1, hN, nI_1]
  have h3 := ZB_night (mare := 0) (sil := silI a b x) hZ hG hN (by omega)
  exact ⟨h1, h2, h3, ZB_nights h3 h1 h2 (n - 1) (by omega)⟩
/-- the object, the inns, what one gets -/
def xP (r2 r3 r4 : sv) (hi : Int32) (s m : InnS) (py : PA) : List sc := x2W r2 r3 r4 (sR 15) hi s m ++ [aI 8 py]
def F_X5_choose : Fn := fun as w K => ∃ (r2 r3 r4 : sv) (hi : Int32) (s m : InnS) (py : PA) (N n p : Nat) (a b : Int32), as = [sR 0, sI a, sI b, sI (nI n), sI (nI p)] ∧ w = xP r2 r3 r4 hi s m py ∧ vp_in a 7 ∧ vp_in b 7 ∧ p < 4 ∧ 1 ≤ n ∧ n ≤ 30 ∧ ZB s ∧ GS s ∧ iN s = nI N ∧ N ≤ 999 ∧ ZB m ∧ ∀ m', ZB m' → K none (xP r2 r3 r4 hi s m' (upd (upd py p (pyA s a b n p)) (4 + p) (pyB s a b n p)))
def ctb_X5_choose : List (Nat × (List sv → List sc → (List sv → List sc → Prop) → Prop)) := [(56, cS (some 3) 1 F_X5_inMindE), (66, cG [8, 9, 10, 11, 12, 13, 14] (some 0) 3 F_X0_passNight), (74, cG [8, 9, 10, 11, 12, 13, 14] (some 0) 2 F_X0_pass)]
theorem cok_X5_choose : CallOK cX5_choose 9 none RX5 6 ctb_X5_choose := CallOK_cons (site_same (rnV (pX5_choose_ok 56 _ rfl) ct_X5_inMindE kX5_inMind lRX5_58 (by decide))) (CallOK_cons (site_gen [8, 9, 10, 11, 12, 13, 14] (by decide) (rnV (pX5_choose_ok 66 _ rfl) ct_X0_passNight kX0_passNight lRX5_227 (by decide))) (CallOK_cons (site_gen [8, 9, 10, 11, 12, 13, 14] (by decide) (rnV (pX5_choose_ok 74 _ rfl) ct_X0_pass kX0_pass lRX5_136 (by decide))) (CallOK_nil)))
theorem ct_X5_choose : Ct yX5_choose cX5_choose 9 none 6 F_X5_choose := by
  intro l D σ cA sz as w K h
  obtain ⟨r2, r3, r4, hi, s, m, py, N, n, p, a, b, rfl, rfl, ha, hb, hp, hn, hn3, hZ, hG, hN, hN9, hM, h⟩ := h
  obtain ⟨k1, k2, k3, k4⟩ := tw_keep (a := a) (b := b) (x := nI p) hZ hG hN hN9 hn hn3
  have h := h _ k4
  have ep : (nI p).toNatClampNeg = p := nI_clamp (by omega)
  have e4 : 4 + nI p = nI (4 + p) := by rw [show (4 : Int32) = nI 4 by decide, nI_add]
  have ep4 : (nI (4 + p)).toNatClampNeg = 4 + p := nI_clamp (by omega)
  have en : nI n - 1 = nI (n - 1) := by
    obtain ⟨j, rfl⟩ : ∃ j, n = j + 1 := ⟨n - 1, by omega⟩
    rw [nI_pred]; rfl
  have hv : vp_in (nI p) 8 := vp_in_nI (by omega) (by decide)
  have hv4 : vp_in (nI (4 + p)) 8 := vp_in_nI (by omega) (by decide)
  have eS1 : nI p &&& 2 = 0 → nI p &&& 1 = 0 → silI a b (nI p) = jshl 1 a ||| jshl 1 b := fun z y => by unfold silI; rw [if_pos z, if_pos y]
  have eS2 : nI p &&& 2 = 0 → ¬ nI p &&& 1 = 0 → silI a b (nI p) = jshl 1 a ||| 0 := fun z y => by unfold silI; rw [if_pos z, if_neg y]
  have eS3 : ¬ nI p &&& 2 = 0 → nI p &&& 1 = 0 → silI a b (nI p) = 0 ||| jshl 1 b := fun z y => by unfold silI; rw [if_neg z, if_pos y]
  have eS4 : ¬ nI p &&& 2 = 0 → ¬ nI p &&& 1 = 0 → silI a b (nI p) = 0 ||| 0 := fun z y => by unfold silI; rw [if_neg z, if_neg y]
  have hpA : nI p &&& 2 = 0 → pyA s a b n p = iH (twS s a b n (nI p)) (ix a) - 2 := fun z => by unfold pyA; rw [if_pos z]
  have hpA' : ¬ nI p &&& 2 = 0 → pyA s a b n p = iH (twS s a b n (nI p)) (ix a) - 0 := fun z => by unfold pyA; rw [if_neg z]
  have hpB : nI p &&& 1 = 0 → pyB s a b n p = iH (twS s a b n (nI p)) (ix b) - 2 := fun z => by unfold pyB; rw [if_pos z]
  have hpB' : ¬ nI p &&& 1 = 0 → pyB s a b n p = iH (twS s a b n (nI p)) (ix b) - 0 := fun z => by unfold pyB; rw [if_neg z]
  have etw : twS s a b n (nI p) = nightsS (n - 1) (nightS 0 (silI a b (nI p)) s) := rfl
  generalize silI a b (nI p) = sil at eS1 eS2 eS3 eS4 etw k1 k2 k3
  generalize twS s a b n (nI p) = tw at hpA hpA' hpB hpB' etw k4 h
  generalize pyA s a b n p = vA at hpA hpA' h
  generalize pyB s a b n p = vB at hpB hpB' h
  refine metL (pr := lkB pX5_choose) (rk := 0) (ct := ctb_X5_choose) (fld := lkB flX5) (cst := lkB csX5) (cstL := lkB clX5) [(55, ([true, true, true, true, true, true, true, true, false], fun x lv st w => ∃ (i5 i6 : Int32), x = 5 ∧ ((nI p &&& 2 = 0 ∧ i5 = 0) ∨ (¬ nI p &&& 2 = 0 ∧ i5 = 1)) ∧ ((nI p &&& 1 = 0 ∧ i6 = 0) ∨ (¬ nI p &&& 1 = 0 ∧ i6 = 1)) ∧ lv = [some (sR 0), some (sI a), some (sI b), some (sI (nI n)), some (sI (nI p)), some (sI i5), some (sI i6), some (sI sil), none] ∧ st = [] ∧ w = xP r2 r3 r4 hi s m py)), (69, ([true, true, true, true, true, true, true, false, true], fun x lv st w => ∃ (i5 i6 : Int32), x = 4 ∧ ((nI p &&& 2 = 0 ∧ i5 = 0) ∨ (¬ nI p &&& 2 = 0 ∧ i5 = 1)) ∧ ((nI p &&& 1 = 0 ∧ i6 = 0) ∨ (¬ nI p &&& 1 = 0 ∧ i6 = 1)) ∧ lv = [some (sR 0), some (sI a), some (sI b), some (sI (nI n)), some (sI (nI p)), some (sI i5), some (sI i6), none, some (sR 8)] ∧ st = [] ∧ w = xP r2 r3 r4 hi s (nightS 0 sil s) py)), (77, ([true, true, true, true, true, true, true, false, true], fun x lv st w => ∃ (i5 i6 : Int32), x = 3 ∧ ((nI p &&& 2 = 0 ∧ i5 = 0) ∨ (¬ nI p &&& 2 = 0 ∧ i5 = 1)) ∧ ((nI p &&& 1 = 0 ∧ i6 = 0) ∨ (¬ nI p &&& 1 = 0 ∧ i6 = 1)) ∧ lv = [some (sR 0), some (sI a), some (sI b), some (sI (nI n)), some (sI (nI p)), some (sI i5), some (sI i6), none, some (sR 8)] ∧ st = [] ∧ w = xP r2 r3 r4 hi s tw py)), (102, ([true, true, true, true, true, true, true, false, true], fun x lv st w => ∃ (i5 i6 : Int32), x = 2 ∧ ((nI p &&& 1 = 0 ∧ i6 = 0) ∨ (¬ nI p &&& 1 = 0 ∧ i6 = 1)) ∧ lv = [some (sR 0), some (sI a), some (sI b), some (sI (nI n)), some (sI (nI p)), some (sI i5), some (sI i6), none, some (sR 8)] ∧ st = [] ∧ w = xP r2 r3 r4 hi s tw (upd py p vA)))] pX5_choose_ok kX5_choose.2.2.2.2.2.2.2 fdX5 cdX5 rto0 cok_X5_choose (Nat.le_of_ble_eq_true rfl) ?_ ?_ l D σ cA sz
  · refine List.forall_mem_cons.mpr ⟨?_, List.forall_mem_cons.mpr ⟨?_, List.forall_mem_cons.mpr ⟨?_, List.forall_mem_cons.mpr ⟨?_, cut0⟩⟩⟩⟩
    · rintro x lv st w ⟨i5, i6, rfl, h5, h6, rfl, rfl, rfl⟩
      conv => whnf
      refine ⟨r2, r3, r4, sR 15, hi, s, m, [aI 8 py], rfl, rfl, hZ, hM, ?_⟩
      conv => whnf
      refine ⟨s, 0, sil, N, rfl, rfl, hG, hN, by omega, ?_⟩
      conv => whnf
      exact ⟨4, by decide, i5, i6, rfl, h5, h6, rfl, rfl, rfl⟩
    · rintro x lv st w ⟨i5, i6, rfl, h5, h6, rfl, rfl, rfl⟩
      conv => whnf
      rw [en]
      refine ⟨nightS 0 sil s, n - 1, N + 1, rfl, rfl, k1, k2, by omega, ?_⟩
      rw [← etw]
      conv => whnf
      exact ⟨3, by decide, i5, i6, rfl, h5, h6, rfl, rfl, rfl⟩
    · rintro x lv st w ⟨i5, i6, rfl, h5, h6, rfl, rfl, rfl⟩
      conv => whnf
      refine ⟨ha, ?_⟩
      conv => whnf
      rcases h5 with ⟨hz, rfl⟩ | ⟨hz, rfl⟩
      · skip
        repeat' ((conv => whnf); (first | ((with_reducible refine And.intro (fun z => ?_) (fun z => ?_)) <;> (try (first | exact absurd z (by first | assumption | decide) | exact absurd (by first | assumption | decide) z))) | fail))
        all_goals (conv => whnf)
        refine ⟨hv, ?_⟩
        rw [ep, ← hpA hz]
        conv => whnf
        exact ⟨2, by decide, 0, i6, rfl, h6, rfl, rfl, rfl⟩
      · skip
        repeat' ((conv => whnf); (first | ((with_reducible refine And.intro (fun z => ?_) (fun z => ?_)) <;> (try (first | exact absurd z (by first | assumption | decide) | exact absurd (by first | assumption | decide) z))) | fail))
        all_goals (conv => whnf)
        refine ⟨hv, ?_⟩
        rw [ep, ← hpA' hz]
        conv => whnf
        exact ⟨2, by decide, 1, i6, rfl, h6, rfl, rfl, rfl⟩
    · rintro x lv st w ⟨i5, i6, rfl, h6, rfl, rfl, rfl⟩
      conv => whnf
      refine ⟨hb, ?_⟩
      conv => whnf
      rcases h6 with ⟨hz, rfl⟩ | ⟨hz, rfl⟩
      · skip
        repeat' ((conv => whnf); (first | ((with_reducible refine And.intro (fun z => ?_) (fun z => ?_)) <;> (try (first | exact absurd z (by first | assumption | decide) | exact absurd (by first | assumption | decide) z))) | fail))
        all_goals (conv => whnf)
        rw [e4]
        refine ⟨hv4, ?_⟩
        rw [ep4, ← hpB hz]
        conv => whnf
        exact h
      · skip
        repeat' ((conv => whnf); (first | ((with_reducible refine And.intro (fun z => ?_) (fun z => ?_)) <;> (try (first | exact absurd z (by first | assumption | decide) | exact absurd (by first | assumption | decide) z))) | fail))
        all_goals (conv => whnf)
        rw [e4]
        refine ⟨hv4, ?_⟩
        rw [ep4, ← hpB' hz]
        conv => whnf
        exact h
  · by_cases hA : nI p &&& 2 = 0 <;> by_cases hB : nI p &&& 1 = 0
    · skip
      repeat' ((conv => whnf); (first | ((with_reducible refine And.intro (fun z => ?_) (fun z => ?_)) <;> (try (first | exact absurd z (by first | assumption | decide) | exact absurd (by first | assumption | decide) z))) | fail))
      all_goals (conv => whnf)
      exact ⟨5, 0, 0, rfl, Or.inl ⟨hA, rfl⟩, Or.inl ⟨hB, rfl⟩, by rw [eS1 hA hB]; rfl, rfl, rfl⟩
    · skip
      repeat' ((conv => whnf); (first | ((with_reducible refine And.intro (fun z => ?_) (fun z => ?_)) <;> (try (first | exact absurd z (by first | assumption | decide) | exact absurd (by first | assumption | decide) z))) | fail))
      all_goals (conv => whnf)
      exact ⟨5, 0, 1, rfl, Or.inl ⟨hA, rfl⟩, Or.inr ⟨hB, rfl⟩, by rw [eS2 hA hB]; rfl, rfl, rfl⟩
    · skip
      repeat' ((conv => whnf); (first | ((with_reducible refine And.intro (fun z => ?_) (fun z => ?_)) <;> (try (first | exact absurd z (by first | assumption | decide) | exact absurd (by first | assumption | decide) z))) | fail))
      all_goals (conv => whnf)
      exact ⟨5, 1, 0, rfl, Or.inr ⟨hA, rfl⟩, Or.inl ⟨hB, rfl⟩, by rw [eS3 hA hB]; rfl, rfl, rfl⟩
    · skip
      repeat' ((conv => whnf); (first | ((with_reducible refine And.intro (fun z => ?_) (fun z => ?_)) <;> (try (first | exact absurd z (by first | assumption | decide) | exact absurd (by first | assumption | decide) z))) | fail))
      all_goals (conv => whnf)
      exact ⟨5, 1, 1, rfl, Or.inr ⟨hA, rfl⟩, Or.inr ⟨hB, rfl⟩, by rw [eS4 hA hB]; rfl, rfl, rfl⟩
