/-! ===== the case of copies ===== -/
def F_X5_copy : Fn := fun as w K => F_X5_copy1 as w K ∨ F_X5_copy2 as w K
theorem ct_X5_copy : Ct yX5_copy cX5_copy 8 (some .int) 3 F_X5_copy := fun l D σ cA sz as w K h => h.elim (ct_X5_copy1 l D σ cA sz as w K) (ct_X5_copy2 l D σ cA sz as w K)
theorem ix_8 {d : Int32} (h : 0 ≤ d ∧ d ≤ 7) : ix d < 8 := by
  obtain ⟨d', hd', ed⟩ := sh_n h
  rw [ed, show ix (nI d') = d' from nI_clamp (by omega)]
  exact hd'
theorem cpR_1 {u v : ShS} {d e : Int32} (h : ¬ ((0 ≤ d ∧ d ≤ 7) ∧ (0 ≤ e ∧ e ≤ 7))) : cpR u v d e = -1 := by unfold cpR; rw [if_neg h]
theorem eC {s m k : InnS} {hi : Int32} {us : Nat → ShS} {dr od py : PA} {rest : List sc} {kk : Option sv → List sc → Prop} {d i e j n : Int32} (hS : ∀ x, x < 8 → SH (us x)) (h1 : ¬ ((0 ≤ d ∧ d ≤ 7) ∧ (0 ≤ e ∧ e ≤ 7)) → kk (some (sI (-1))) (XW s m k hi us dr od py ++ rest)) (h2 : (0 ≤ d ∧ d ≤ 7) ∧ (0 ≤ e ∧ e ≤ 7) → ¬ cpC (us (ix d)) (us (ix e)) d e i j n → kk (some (sI (cpR (us (ix d)) (us (ix e)) d e))) (XW s m k hi us dr od py ++ rest)) (h3 : (0 ≤ d ∧ d ≤ 7) ∧ (0 ≤ e ∧ e ≤ 7) → cpC (us (ix d)) (us (ix e)) d e i j n → kk (some (sI n)) (XW s m k hi (upU us (ix e) (cpU (us (ix d)) (us (ix e)) i j n)) dr od py ++ rest)) : cE (some 3) F_X5_copy [sR 0, sI d, sI i, sI e, sI j, sI n] (XW s m k hi us dr od py ++ rest) kk := by
  by_cases hR : (0 ≤ d ∧ d ≤ 7) ∧ (0 ≤ e ∧ e ≤ 7)
  · by_cases hE : ix d = ix e
    · refine eS (ix d) (ix_8 hR.1) ⟨fun _ => rfl, fun _ => rfl⟩ (fun r2 r4 r5 f K hf hK => Or.inl ⟨r2, r4, r5, hi, s, m, f, us (ix d), d, i, e, j, n, rfl, rfl, fun _ => ⟨⟨hf, hS _ (ix_8 hR.1)⟩, by rw [← hE]; exact ⟨hf, hS _ (ix_8 hR.1)⟩⟩, fun hC => hK _ _ _ (us (ix d)) ⟨fun _ => rfl, fun _ => rfl⟩ ?_, fun hC => hK _ _ _ _ ⟨fun _ => rfl, fun _ => rfl⟩ ?_⟩)
      · rw [upU_id]
        have := h2 hR
        rw [← hE] at this
        exact this hC
      · have := h3 hR
        rw [← hE] at this
        exact this hC
    · refine eT (ix d) (ix e) (ix_8 hR.1) (ix_8 hR.2) hE ⟨fun _ => rfl, fun _ => rfl⟩ (fun r2 r4 r5 f K hf hf2 hK => Or.inr ⟨r2, r4, r5, hi, s, m, f, us (ix d), us (ix e), d, i, e, j, n, rfl, rfl, fun _ => ⟨⟨hf, hS _ (ix_8 hR.1)⟩, hf2, hS _ (ix_8 hR.2)⟩, fun hC => hK _ (us (ix e)) ⟨fun _ => rfl, fun _ => rfl⟩ ?_, fun hC => hK _ _ ⟨fun _ => rfl, fun _ => rfl⟩ (h3 hR hC)⟩)
      rw [upU_id]
      exact h2 hR hC
  · refine eS 0 (by decide) ⟨fun _ => rfl, fun _ => rfl⟩ (fun r2 r4 r5 f K hf hK => Or.inl ⟨r2, r4, r5, hi, s, m, f, us 0, d, i, e, j, n, rfl, rfl, fun z => absurd z hR, fun hC => hK _ _ _ (us 0) ⟨fun _ => rfl, fun _ => rfl⟩ ?_, fun hC => absurd hC.1 hR⟩)
    rw [upU_id, cpR_1 hR]
    exact h1 hR
def ctL_copy : Tz := [(1506, cD 601024 7293034 (some 3) 6 F_X5_copy 0 0), (1540, cM 601024 7293034 (some 4) 6 F_X6_copy 0 0)]
theorem cokL_copy : CallZ cL_law 8 ret RL room_1 0 ctL_copy := CallZ_cons (site_D (R := room_1) (run_VZ (pL_c35_ok 1506 _ rfl) ct_X5_copy kX5_copy (uw1 (by decide +kernel)) (by decide))) (CallZ_cons (site_M (R := room_1) (run_VZ (pL_c35_ok 1540 _ rfl) ct_X6_copy kX6_copy (uw1 (by decide +kernel)) (by decide))) CallZ_nil)
set_option maxRecDepth 20000 in
theorem lc_copy : LCase pL_c35 ctL_copy 1475 := by
  intro j L c0 s0 xs s m k hi us dr od py r q t ou hj hL hc hs hI
  obtain ⟨⟨N, hV, hTG, hLB⟩, hM, hK, ⟨ra, rb, rfl⟩, hT, hQ, hB, hIm⟩ := id hI
  conv => whnf
  refine ⟨vin (m := 1) hj hL (by decide), ?_⟩
  conv => whnf
  refine ⟨vin (m := 2) hj hL (by decide), ?_⟩
  conv => whnf
  refine ⟨vin (m := 3) hj hL (by decide), ?_⟩
  conv => whnf
  refine ⟨vin (m := 4) hj hL (by decide), ?_⟩
  conv => whnf
  refine ⟨vin (m := 5) hj hL (by decide), ?_⟩
  conv => whnf
  refine ⟨⟨by omega, by omega⟩, ?_⟩
  refine eC (fun x hx => (hQ x hx).2) (fun hR => ?_) (fun hR hC => ?_) (fun hR hC => ?_)
  · conv => whnf
    refine ⟨vin (m := 1) hj hL (by decide), ?_⟩
    conv => whnf
    refine ⟨vin (m := 2) hj hL (by decide), ?_⟩
    conv => whnf
    refine ⟨vin (m := 3) hj hL (by decide), ?_⟩
    conv => whnf
    refine ⟨vin (m := 4) hj hL (by decide), ?_⟩
    conv => whnf
    refine ⟨vin (m := 5) hj hL (by decide), ?_⟩
    conv => whnf
    refine ⟨⟨by omega, by omega⟩, ?_⟩
    refine eM ⟨fun _ => rfl, fun _ => rfl⟩ (fun K hK3 => ⟨snS s ra rb, q, t, us (ix (xs (nI j + 1).toNatClampNeg)), us (ix (xs (nI j + 3).toNatClampNeg)), _, _, _, _, _, rfl, rfl, hT, (fun z => SQ_d hQ z), (fun z => SQ_d hQ z), fun _ t' hT' => hK3 _ _ _ _ ⟨fun _ => rfl, fun _ => rfl⟩ ?_, fun z => absurd z.1 hR⟩)
    conv => whnf
    refine ⟨fun _ => ?_, fun z => absurd ((cpR_1 hR).symm) z⟩
    conv => whnf
    exact C98_i ⟨⟨N, hV, hTG, hLB⟩, hM, hK, ⟨ra, rb, rfl⟩, hT', hQ, hB, hIm⟩ (by omega) (by omega)
  · conv => whnf
    refine ⟨vin (m := 1) hj hL (by decide), ?_⟩
    conv => whnf
    refine ⟨vin (m := 2) hj hL (by decide), ?_⟩
    conv => whnf
    refine ⟨vin (m := 3) hj hL (by decide), ?_⟩
    conv => whnf
    refine ⟨vin (m := 4) hj hL (by decide), ?_⟩
    conv => whnf
    refine ⟨vin (m := 5) hj hL (by decide), ?_⟩
    conv => whnf
    refine ⟨⟨by omega, by omega⟩, ?_⟩
    refine eM ⟨fun _ => rfl, fun _ => rfl⟩ (fun K hK3 => ⟨snS s ra rb, q, t, us (ix (xs (nI j + 1).toNatClampNeg)), us (ix (xs (nI j + 3).toNatClampNeg)), _, _, _, _, _, rfl, rfl, hT, (fun z => SQ_d hQ z), (fun z => SQ_d hQ z), fun _ t' hT' => hK3 _ _ _ _ ⟨fun _ => rfl, fun _ => rfl⟩ ?_, fun z => absurd z hC⟩)
    conv => whnf
    refine ⟨fun _ => ?_, fun z => absurd (rfl) z⟩
    conv => whnf
    exact C98_i ⟨⟨N, hV, hTG, hLB⟩, hM, hK, ⟨ra, rb, rfl⟩, hT', hQ, hB, hIm⟩ (by omega) (by omega)
  · conv => whnf
    refine ⟨vin (m := 1) hj hL (by decide), ?_⟩
    conv => whnf
    refine ⟨vin (m := 2) hj hL (by decide), ?_⟩
    conv => whnf
    refine ⟨vin (m := 3) hj hL (by decide), ?_⟩
    conv => whnf
    refine ⟨vin (m := 4) hj hL (by decide), ?_⟩
    conv => whnf
    refine ⟨vin (m := 5) hj hL (by decide), ?_⟩
    conv => whnf
    refine ⟨⟨by omega, by omega⟩, ?_⟩
    refine eM ⟨fun _ => rfl, fun _ => rfl⟩ (fun K hK3 => ⟨snS s ra rb, q, t, us (ix (xs (nI j + 1).toNatClampNeg)), us (ix (xs (nI j + 3).toNatClampNeg)), _, _, _, _, _, rfl, rfl, hT, (fun z => SQ_d hQ z), (fun z => SQ_d hQ z), fun z => absurd hC z, fun _ t' hT' => hK3 _ _ _ _ ⟨fun _ => rfl, fun _ => rfl⟩ ?_⟩)
    conv => whnf
    refine ⟨fun _ => ?_, fun z => absurd (rfl) z⟩
    conv => whnf
    exact C98_i ⟨⟨N, hV, hTG, hLB⟩, hM, hK, ⟨ra, rb, rfl⟩, hT', (SQ_cp hQ (ix_8 hR.1) (ix_8 hR.2) hC.2.1.1 hC.2.1.2.1 hC.2.2.1 hC.2.2.2), hB, hIm⟩ (by omega) (by omega)
