/-! ===== inn of the class ===== -/
theorem kF_at {c : PA} {s : InnS} {E k : Nat} (hk : k < E) (h : ∀ j, j < k → teP c (pkN c j) (tlS c s j)) (h0 : ¬ teP c (pkN c k) (tlS c s k)) : kF c s E = k := fst_some (P := fun k => ¬ teP c (pkN c k) (tlS c s k)) h0 (fun i hi z => z (h i hi)) hk
theorem kF_all {c : PA} {s : InnS} {E : Nat} (h : ∀ j, j < E → teP c (pkN c j) (tlS c s j)) : kF c s E = E := fst_none (P := fun k => ¬ teP c (pkN c k) (tlS c s k)) (fun i hi z => z (h i hi))
def F_X5_inn : Fn := fun as w K => ∃ (r2 r4 r5 : sv) (hi : Int32) (s m : InnS) (f : Nat → Option Nat) (u : ShS) (N : Nat) (d : Int32), as = [sR 0, sI d] ∧ w = xS r2 r4 r5 hi s m f u ∧ (0 ≤ d ∧ d ≤ 7 → f (ix d) = some 16 ∧ SH u) ∧ IV s N ∧ ZB m ∧ ∀ m', ZB m' → K (some (.inl (inR s u d))) (xS r2 r4 r5 hi (inS s u d) m' f u)
def ctb_X5_inn : List (Nat × (List sv → List sc → (List sv → List sc → Prop) → Prop)) := [(2, cS (some 3) 2 F_X5_rowRefusal), (30, cQ [16, 17] none 1 F_X4_placeOfBadByte), (48, cS (some 3) 1 F_X5_inMindE), (75, cS none 1 F_X4_isLetter), (86, cG [16, 17, 8, 9, 10, 11, 12, 13, 14] none 3 F_X4_tell), (114, cG [1, 2, 3, 4, 5, 6, 7, 8, 9, 10, 11, 12, 13, 14] (some 0) 2 F_X0_become)]
theorem cok_X5_inn : CallOK cX5_inn 8 (some .int) RX5 8 ctb_X5_inn := CallOK_cons (site_same (rnV (pX5_inn_ok 2 _ rfl) ct_X5_rowRefusal kX5_rowRefusal lRX5_44 (by decide))) (CallOK_cons (site_q [16, 17] (by decide) (rnS (pX5_inn_ok 30 _ rfl) ct_X4_placeOfBadByte kX4_placeOfBadByte lRX5_52 (by decide))) (CallOK_cons (site_same (rnV (pX5_inn_ok 48 _ rfl) ct_X5_inMindE kX5_inMind lRX5_58 (by decide))) (CallOK_cons (site_same (rnS (pX5_inn_ok 75 _ rfl) ct_X4_isLetter kX4_isLetter lRX5_68 (by decide))) (CallOK_cons (site_gen [16, 17, 8, 9, 10, 11, 12, 13, 14] (by decide) (rnS (pX5_inn_ok 86 _ rfl) ct_X4_tell kX4_tell lRX5_72 (by decide))) (CallOK_cons (site_gen [1, 2, 3, 4, 5, 6, 7, 8, 9, 10, 11, 12, 13, 14] (by decide) (rnV (pX5_inn_ok 114 _ rfl) ct_X0_become kX0_become lRX5_76 (by decide))) (CallOK_nil))))))
theorem ct_X5_inn : Ct yX5_inn cX5_inn 8 (some .int) 8 F_X5_inn := by
  intro l D σ cA sz as w K h
  obtain ⟨r2, r4, r5, hi, s, m, f, u, N, d, rfl, rfl, hf, hIV, hM, h⟩ := h
  refine metL (pr := lkB pX5_inn) (rk := 1) (ct := ctb_X5_inn) (fld := lkB flX5) (cst := lkB csX5) (cstL := lkB clX5) [(59, ([true, false, false, true, false, true, true, true], fun x lv st w => ∃ (k i n E : Nat), (i ≤ n ∧ n ≤ 100 ∧ uM u = nI n ∧ ix (uM u) = n) ∧ x = n - i ∧ (reF u d 2 = 0 ∧ uS u = 0 ∧ txF (uC u) n = -1) ∧ E = kE (uC u) n ∧ k ≤ E ∧ i ≤ pkN (uC u) k ∧ (∀ j, j < k → pkN (uC u) j < i) ∧ (∀ j, j < k → teP (uC u) (pkN (uC u) j) (tlS (uC u) s j)) ∧ lv = [some (sR 0), none, none, some (sR 16), none, some (sR 8), some (sI (nI k)), some (sI (nI i))] ∧ st = [] ∧ w = xS r2 r4 r5 hi s (tlS (uC u) s k) f u))] pX5_inn_ok kX5_inn.2.2.2.2.2.2.2 fdX5 cdX5 rto1 cok_X5_inn (Nat.le_of_ble_eq_true rfl) ?_ ?_ l D σ cA sz
  · refine List.forall_mem_cons.mpr ⟨?_, cut0⟩
    rintro x lv st w ⟨k, i, n, E, ⟨hin, hn, eM, eN⟩, rfl, ⟨hre, hS0, htx⟩, eE, hkE, hik, hbef, hte, rfl, rfl, rfl⟩
    obtain ⟨g1, g2, g3, g4⟩ := tx_good hn htx
    rw [← eE] at g1 g2 g3 g4
    obtain ⟨N', hIV'⟩ := IV_tl hIV k (fun j hj => g3 j (by omega)) hte
    have hR : inR s u d = if kF (uC u) s E = E then nI E else -2000 - nI (pkN (uC u) (kF (uC u) s E)) := by
      unfold inR
      rw [if_pos hre, if_pos hS0, eN, if_pos htx, ← eE]
    conv => whnf
    refine ⟨fun hc => ?_, fun hc => ?_⟩
    · rw [eM] at hc
      have ei := lp_ge hin (by omega) hc
      have ek : k = E := by
        rcases (show k = E ∨ k < E by omega) with z | z
        · exact z
        · have := pk_mono g3 z (Nat.le_refl E)
          omega
      have hkf : kF (uC u) s E = E := kF_all (by rw [← ek]; exact hte)
      have hS : inS s u d = tlS (uC u) s k := by
        unfold inS
        rw [if_pos ⟨hre, hS0, by rw [eN]; exact htx, by rw [eN, ← eE]; exact hkf⟩, eN, ← eE, ek]
      have h := h (tlS (uC u) s k) hIV'.1
      rw [hS, hR, if_pos hkf, ← ek] at h
      conv => whnf
      refine ⟨s, tlS (uC u) s k, rfl, rfl, hIV.1, hIV'.1, ?_⟩
      conv => whnf
      exact h
    · rw [eM] at hc
      have hlt := lp_lt hin (by omega) hc
      conv => whnf
      refine ⟨vp_in_nI (by omega) (by decide), ?_⟩
      rw [show (nI i).toNatClampNeg = i from nI_clamp (by omega)]
      conv => whnf
      refine ⟨fun h1 => ?_, fun h1 => ?_⟩
      · have h1 : dgN (uC u i) = 0 := Classical.not_not.mp (bp_0.mp h1)
        have hne : i < pkN (uC u) k := by
          rcases (show i = pkN (uC u) k ∨ i < pkN (uC u) k by omega) with z | z
          · have hk : k < E := by
              rcases (show k = E ∨ k < E by omega) with y | y
              · rw [y, g2] at z; omega
              · exact y
            have := (g3 k hk).1.2
            rw [← z] at this
            exact absurd h1 this
          · exact z
        conv => whnf
        exact ⟨n - (i + 1), by omega, k, i + 1, n, E, ⟨hlt, hn, eM, eN⟩, rfl, ⟨hre, hS0, htx⟩, eE, hkE, hne, (fun j hj => by have := hbef j hj; omega), hte, by rw [← nI_1]; rfl, rfl, rfl⟩
      · have h1 : ¬ dgN (uC u i) = 0 := bp_n h1
        have hkE' : k < E := by
          rcases (show k = E ∨ k < E by omega) with y | y
          · exfalso
            rcases Nat.eq_zero_or_pos k with h0 | h0
            · omega
            · have hg := g3 (k - 1) (by omega)
              have e1 : pkN (uC u) k = pkN (uC u) (k - 1) + dgN (uC u (pkN (uC u) (k - 1))) + 2 := by
                obtain ⟨k0, rfl⟩ : ∃ k0, k = k0 + 1 := ⟨k - 1, by omega⟩
                rfl
              exact h1 (nolet hg (hbef (k - 1) (by omega)) (by rw [← e1, y, g2]; exact hlt))
          · exact y
        have ei : i = pkN (uC u) k := by
          rcases (show i = pkN (uC u) k ∨ i < pkN (uC u) k by omega) with z | z
          · exact z
          · exfalso
            rcases Nat.eq_zero_or_pos k with h0 | h0
            · subst h0
              exact absurd z (Nat.not_lt_zero _)
            · have hg := g3 (k - 1) (by omega)
              have e1 : pkN (uC u) k = pkN (uC u) (k - 1) + dgN (uC u (pkN (uC u) (k - 1))) + 2 := by
                obtain ⟨k0, rfl⟩ : ∃ k0, k = k0 + 1 := ⟨k - 1, by omega⟩
                rfl
              exact h1 (nolet hg (hbef (k - 1) (by omega)) (by rw [← e1]; exact z))
        have hg : gdS (uC u) n i := by rw [ei]; exact g3 k hkE'
        obtain ⟨z1, z2, z3, z4, z5⟩ := id hIV'
        generalize ht : tlS (uC u) s k = tk at hIV' z1 z2 z3 z5 ⊢
        conv => whnf
        refine ⟨u, tk, n, i, N', rfl, rfl, eM, hn, hg, z2, z3, z4, fun hno => ?_, fun hyes => ?_⟩
        · have hno : ¬ teP (uC u) (pkN (uC u) k) (tlS (uC u) s k) := by rw [ht, ← ei]; exact hno
          have hkf := kF_at hkE' hte hno
          have hS : inS s u d = s := by
            unfold inS
            rw [if_neg]
            rintro ⟨-, -, -, z⟩
            rw [eN, ← eE, hkf] at z
            omega
          have h := h tk z1
          rw [hS, hR, hkf, if_neg (by omega), ← ei] at h
          conv => whnf
          refine ⟨fun z => absurd rfl z, fun _ => ?_⟩
          conv => whnf
          exact h
        · have hyes' : teP (uC u) (pkN (uC u) k) (tlS (uC u) s k) := by rw [ht, ← ei]; exact hyes
          have e2 : teS (uC u) i tk = tlS (uC u) s (k + 1) := by
            show _ = teS (uC u) (pkN (uC u) k) (tlS (uC u) s k)
            rw [ht, ← ei]
          rw [e2]
          conv => whnf
          refine ⟨fun _ => ?_, fun z => absurd z (by decide)⟩
          conv => whnf
          exact ⟨n - (i + 1), by omega, k + 1, i + 1, n, E, ⟨hlt, hn, eM, eN⟩, rfl, ⟨hre, hS0, htx⟩, eE, hkE', (by show i + 1 ≤ pkN (uC u) k + dgN (uC u (pkN (uC u) k)) + 2; omega), lt_s (fun j hj => by have := hbef j hj; omega) (by omega), lt_s hte hyes', by rw [← nI_1, ← nI_1]; rfl, rfl, rfl⟩
  · have h0 := h m hM
    conv => whnf
    refine ⟨r2, r4, r5, hi, s, m, f, u, d, rfl, rfl, fun z => (hf z).1, ?_⟩
    conv => whnf
    refine ⟨fun hc => ?_, fun hc => ?_⟩
    rotate_left
    · have e1 : inR s u d = reF u d 2 := by unfold inR; rw [if_neg hc]
      have e2 : inS s u d = s := by unfold inS; rw [if_neg (fun z => hc z.1)]
      rw [e1, e2] at h0
      conv => whnf
      exact h0
    obtain ⟨hd, h2⟩ := re_0 hc
    obtain ⟨n, hn, eM, eN⟩ := sz_n (hf hd).2 h2
    conv => whnf
    refine ⟨sh_in hd, ?_⟩
    rw [(hf hd).1]
    conv => whnf
    refine ⟨fun hs => ?_, fun hs => ?_⟩
    rotate_left
    · have e1 : inR s u d = -12 := by unfold inR; rw [if_pos hc, if_neg hs]
      have e2 : inS s u d = s := by unfold inS; rw [if_neg (fun z => hs z.2.1)]
      rw [e1, e2] at h0
      conv => whnf
      exact h0
    conv => whnf
    refine ⟨u, n, rfl, rfl, eM, hn, rfl, ?_⟩
    conv => whnf
    refine ⟨fun ht => ?_, fun ht => ?_⟩
    · have htx : txF (uC u) n = -1 := Classical.byContradiction (fun z => tx_pos hn z ht)
      conv => whnf
      refine ⟨r2, sR 15, r4, r5, hi, s, m, shX f u, rfl, rfl, hIV.1, hM, ?_⟩
      conv => whnf
      exact ⟨n - 0, 0, 0, n, kE (uC u) n, ⟨Nat.zero_le _, hn, eM, eN⟩, rfl, ⟨hc, hs, htx⟩, rfl, Nat.zero_le _, Nat.zero_le _, (fun j hj => absurd hj (Nat.not_lt_zero _)), (fun j hj => absurd hj (Nat.not_lt_zero _)), rfl, rfl, rfl⟩
    · have htx : ¬ txF (uC u) n = -1 := fun z => ht (by rw [z]; decide)
      have e1 : inR s u d = -1000 - txF (uC u) n := by unfold inR; rw [if_pos hc, if_pos hs, eN, if_neg htx]
      have e2 : inS s u d = s := by unfold inS; rw [if_neg (fun z => htx (by rw [← eN]; exact z.2.2.1))]
      rw [e1, e2] at h0
      conv => whnf
      exact h0
