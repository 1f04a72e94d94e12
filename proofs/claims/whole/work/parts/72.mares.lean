/-! ===== mares ===== -/
noncomputable def mrS (s : InnS) (m : Nat) : Nat → InnS
  | 0 => s
  | k + 1 => nightS (bp (tb (nI m) (nI k))) 0 (mrS s m k)
def wN (t m : Nat) : Nat → Nat
  | 0 => 1
  | k + 1 => wN t m k * (if m / 2 ^ k % 2 = 1 then 1 else t - 1)
def BN (t n : Nat) : Nat → Nat
  | 0 => 0
  | m + 1 => BN t n m + wN t m n
noncomputable def AN (s : InnS) (g v : Int32) (t n : Nat) : Nat → Nat
  | 0 => 0
  | m + 1 => AN s g v t n m + (if v ≤ iH (mrS s m n) (ix g) then wN t m n else 0)
theorem BN_pow : ∀ t : Fin 21, ∀ n : Fin 8, t.val = 0 ∨ (BN t.val n.val (2 ^ n.val) = t.val ^ n.val ∧ t.val ^ n.val < 2 ^ 31 ∧ 0 < t.val ^ n.val) := by decide +kernel
theorem tb_N : ∀ m : Fin 128, ∀ k : Fin 7, (jshr (nI m.val) (nI k.val) &&& 1) = 0 ↔ ¬ m.val / 2 ^ k.val % 2 = 1 := by decide +kernel
theorem AN_le (s : InnS) (g v : Int32) (t n : Nat) : ∀ m, AN s g v t n m ≤ BN t n m
  | 0 => Nat.le_refl _
  | m + 1 => by
    have := AN_le s g v t n m
    unfold AN BN
    split <;> omega
theorem sh_2n : ∀ n : Fin 8, jshl 1 (nI n.val) = nI (2 ^ n.val) ∧ 2 ^ n.val ≤ 128 := by decide +kernel
theorem mr_keep {s : InnS} {N m : Nat} (hZ : ZB s) (hG : GS s) (hN : iN s = nI N) (hN9 : N ≤ 999) : ∀ k, k ≤ 7 → ZB (mrS s m k) ∧ GS (mrS s m k) ∧ iN (mrS s m k) = nI (N + k)
  | 0, _ => ⟨hZ, hG, hN⟩
  | k + 1, hk => by
    obtain ⟨h1, h2, h3⟩ := mr_keep (m := m) hZ hG hN hN9 k (by omega)
    refine ⟨ZB_night h1 h2 h3 (by omega), GS_night h2 h3 (by omega), ?_⟩
    show iN (nightS _ _ _) = _
    rw [night_keep.1, h3, nI_1]
    rfl
def maC (s : InnS) (g n t v part : Int32) : Prop := ((0 ≤ g ∧ g ≤ iG s - 1) ∧ (0 ≤ n ∧ n ≤ 7) ∧ (2 ≤ t ∧ t ≤ 20)) ∧ (0 ≤ v ∧ v ≤ 99) ∧ (0 ≤ part ∧ part ≤ 1)
noncomputable def maR (s : InnS) (g n t v part : Int32) : Int64 := @ite _ (maC s g n t v part) (Classical.propDecidable _) (lN (pfN (AN s g v (ix t) (ix n) (2 ^ ix n)) (ix t ^ ix n) part)) 1000000001
theorem t20 {t : Int32} (h : 2 ≤ t ∧ t ≤ 20) : ∃ j, 2 ≤ j ∧ j ≤ 20 ∧ t = nI j := by
  have h0 : ¬ t < 0 := fun q => absurd (Int32.lt_of_lt_of_le q (by decide : (0 : Int32) ≤ 2)) (Int32.not_lt.mpr h.1)
  obtain ⟨j, hj, hx⟩ := nI_of2 (M := 20) (n := 20) rfl h0 h.2
  refine ⟨j, ?_, hj, hx⟩
  rw [hx] at h
  exact (nI_leI (by decide) (by omega)).mp (show nI 2 ≤ nI j from h.1)
theorem wN_t {t m k : Nat} (hm : m < 128) (hk : k < 7) (h : tb (nI m) (nI k)) : lN (wN t m (k + 1)) = lN (wN t m k) * 1 := by
  have : m / 2 ^ k % 2 = 1 := Classical.not_not.mp (fun z => h ((tb_N ⟨m, hm⟩ ⟨k, hk⟩).mpr z))
  show lN (wN t m k * _) = _
  rw [if_pos this, ← lN_mul]
  rfl
theorem wN_f {t m k : Nat} (hm : m < 128) (hk : k < 7) (h : ¬ tb (nI m) (nI k)) : lN (wN t m (k + 1)) = lN (wN t m k) * lN (t - 1) := by
  have : ¬ m / 2 ^ k % 2 = 1 := (tb_N ⟨m, hm⟩ ⟨k, hk⟩).mp (Classical.not_not.mp h)
  show lN (wN t m k * _) = _
  rw [if_neg this, ← lN_mul]
theorem t_m1 {t : Nat} (h : 2 ≤ t) (h2 : t ≤ 20) : (nI t - 1).toInt64 = lN (t - 1) := by
  obtain ⟨j, rfl⟩ : ∃ j, t = j + 1 := ⟨t - 1, by omega⟩
  rw [nI_pred, Nat.add_sub_cancel, nI_l (by omega)]
def F_X5_mares : Fn := fun as w K => ∃ (r2 r3 r4 r5 : sv) (hi : Int32) (s m : InnS) (N : Nat) (g n t v part : Int32), as = [sR 0, sI g, sI n, sI t, sI v, sI part] ∧ w = x2W r2 r3 r4 r5 hi s m ∧ IV s N ∧ ZB m ∧ ∀ m', ZB m' → K (some (.inr (.inl (maR s g n t v part)))) (x2W r2 r3 r4 r5 hi s m')
def ctb_X5_mares : List (Nat × (List sv → List sc → (List sv → List sc → Prop) → Prop)) := [(5, cQ [1, 2, 3, 4, 5, 6, 7] (some 0) 2 F_X0_knows), (15, cS none 3 F_X5_within), (25, cS none 3 F_X5_within), (32, cS none 1 F_X5_refusedLong), (41, cS none 3 F_X5_within), (51, cS none 3 F_X5_within), (58, cS none 1 F_X5_refusedLong), (80, cS (some 3) 1 F_X5_inMind), (119, cG [8, 9, 10, 11, 12, 13, 14] (some 0) 3 F_X0_passNight), (188, cS none 3 F_X5_partOf)]
theorem cok_X5_mares : CallOK cX5_mares 16 (some .long) RX5 5 ctb_X5_mares := CallOK_cons (site_q [1, 2, 3, 4, 5, 6, 7] (by decide) (rnV (pX5_mares_ok 5 _ rfl) ct_X0_knows kX0_knows lRX5_80 (by decide))) (CallOK_cons (site_same (rnS (pX5_mares_ok 15 _ rfl) ct_X5_within kX5_within lRX5_129 (by decide))) (CallOK_cons (site_same (rnS (pX5_mares_ok 25 _ rfl) ct_X5_within kX5_within lRX5_129 (by decide))) (CallOK_cons (site_same (rnS (pX5_mares_ok 32 _ rfl) ct_X5_refusedLong kX5_refusedLong lRX5_231 (by decide))) (CallOK_cons (site_same (rnS (pX5_mares_ok 41 _ rfl) ct_X5_within kX5_within lRX5_129 (by decide))) (CallOK_cons (site_same (rnS (pX5_mares_ok 51 _ rfl) ct_X5_within kX5_within lRX5_129 (by decide))) (CallOK_cons (site_same (rnS (pX5_mares_ok 58 _ rfl) ct_X5_refusedLong kX5_refusedLong lRX5_231 (by decide))) (CallOK_cons (site_same (rnV (pX5_mares_ok 80 _ rfl) ct_X5_inMind kX5_inMind lRX5_58 (by decide))) (CallOK_cons (site_gen [8, 9, 10, 11, 12, 13, 14] (by decide) (rnV (pX5_mares_ok 119 _ rfl) ct_X0_passNight kX0_passNight lRX5_227 (by decide))) (CallOK_cons (site_same (rnS (pX5_mares_ok 188 _ rfl) ct_X5_partOf kX5_partOf lRX5_235 (by decide))) (CallOK_nil))))))))))
theorem ct_X5_mares : Ct yX5_mares cX5_mares 16 (some .long) 5 F_X5_mares := by
  intro l D σ cA sz as w K h
  obtain ⟨r2, r3, r4, r5, hi, s, m0, N, g, n, t, v, part, rfl, rfl, ⟨hZ, hG, hN, hN9, hB⟩, hM, h⟩ := h
  have h0 := h m0 hM
  refine metL (pr := lkB pX5_mares) (rk := 3) (ct := ctb_X5_mares) (fld := lkB flX5) (cst := lkB csX5) (cstL := lkB clX5) [(71, ([true, true, true, true, true, true, true, false, true, false, true], fun x lv st w => ∃ (n' t' m : Nat) (mi : InnS), n = nI n' ∧ n' ≤ 7 ∧ t = nI t' ∧ 2 ≤ t' ∧ t' ≤ 20 ∧ m ≤ 2 ^ n' ∧ x = 20 * (2 ^ n' - m) ∧ maC s g n t v part ∧ ZB mi ∧ lv = [some (sR 0), some (sI g), some (sI (nI n')), some (sI (nI t')), some (sI v), some (sI part), some (sL (lN (AN s g v t' n' m))), none, some (sL (lN (BN t' n' m))), none, some (sI (nI m))] ∧ st = [] ∧ w = x2W r2 r3 r4 r5 hi s mi)), (91, ([true, true, true, true, true, true, true, false, true, false, true, true, true, false, true], fun x lv st w => ∃ (n' t' m k : Nat), n = nI n' ∧ n' ≤ 7 ∧ t = nI t' ∧ 2 ≤ t' ∧ t' ≤ 20 ∧ m < 2 ^ n' ∧ k ≤ n' ∧ x = 20 * (2 ^ n' - (m + 1)) + 10 + (n' - k) ∧ maC s g n t v part ∧ lv = [some (sR 0), some (sI g), some (sI (nI n')), some (sI (nI t')), some (sI v), some (sI part), some (sL (lN (AN s g v t' n' m))), none, some (sL (lN (BN t' n' m))), none, some (sI (nI m)), some (sR 8), some (sL (lN (wN t' m k))), none, some (sI (nI k))] ∧ st = [] ∧ w = x2W r2 r3 r4 r5 hi s (mrS s m k)))] pX5_mares_ok kX5_mares.2.2.2.2.2.2.2 fdX5 cdX5 rto3 cok_X5_mares (Nat.le_of_ble_eq_true rfl) ?_ ?_ l D σ cA sz
  · refine List.forall_mem_cons.mpr ⟨?_, List.forall_mem_cons.mpr ⟨?_, cut0⟩⟩
    · rintro x lv st w ⟨n', t', m, mi, en, hn, et, ht2, ht20, hm, rfl, hC, hMi, rfl, rfl, rfl⟩
      obtain ⟨s1, s2⟩ := sh_2n ⟨n', by omega⟩
      dsimp only at s1 s2
      obtain ⟨b1, b2, b3⟩ := (BN_pow ⟨t', by omega⟩ ⟨n', by omega⟩).resolve_left (show ¬ t' = 0 by omega)
      dsimp only at b1 b2 b3
      conv => whnf
      rw [s1]
      refine ⟨fun hc => ?_, fun hc => ?_⟩
      · have em := lp_ge hm (by omega) hc
        conv => whnf
        have hle := AN_le s g v t' n' m
        rw [em, b1] at hle
        rw [em, b1]
        refine ⟨AN s g v t' n' (2 ^ n'), t' ^ n', part, rfl, by omega, b2, fun _ => b3, part01 hC.2.2, ?_⟩
        conv => whnf
        refine kL (h _ hMi) ?_
        unfold maR
        rw [if_pos hC, et, en, show ix (nI t') = t' from nI_clamp (by omega), show ix (nI n') = n' from nI_clamp (by omega)]
      have hlt := lp_lt hm (by omega) hc
      conv => whnf
      refine ⟨r2, r3, r4, r5, hi, s, mi, rfl, rfl, hZ, hMi, ?_⟩
      conv => whnf
      exact ⟨20 * (2 ^ n' - (m + 1)) + 10 + (n' - 0), by omega, n', t', m, 0, en, hn, et, ht2, ht20, hlt, Nat.zero_le _, rfl, hC, rfl, rfl, rfl⟩
    · rintro x lv st w ⟨n', t', m, k, en, hn, et, ht2, ht20, hm, hk, rfl, hC, rfl, rfl, rfl⟩
      obtain ⟨-, s2⟩ := sh_2n ⟨n', by omega⟩
      dsimp only at s2
      obtain ⟨g1, g2, g3⟩ := mr_keep (m := m) hZ hG hN hN9 k (by omega)
      have hv := kn_in hG hC.1.1
      conv => whnf
      refine ⟨fun hc => ?_, fun hc => ?_⟩
      · obtain rfl := lp_ge hk (by omega) hc
        have eA : v ≤ iH (mrS s m k) (ix g) → AN s g v t' k (m + 1) = AN s g v t' k m + wN t' m k := fun z => by rw [AN, if_pos z]
        have eA0 : ¬ v ≤ iH (mrS s m k) (ix g) → AN s g v t' k (m + 1) = AN s g v t' k m + 0 := fun z => by rw [AN, if_neg z]
        have eB : BN t' k (m + 1) = BN t' k m + wN t' m k := rfl
        conv => whnf
        refine ⟨hv, ?_⟩
        conv => whnf
        refine ⟨fun h1 => ?_, fun h1 => ?_⟩
        · conv => whnf
          exact ⟨20 * (2 ^ k - (m + 1)), by omega, k, t', m + 1, mrS s m k, en, hn, et, ht2, ht20, hm, rfl, hC, g1, by rw [← nI_1, eA0 (fun z => absurd h1 (Int32.not_lt.mpr z)), eB, ← lN_add, ← lN_add]; rfl, rfl, rfl⟩
        · conv => whnf
          exact ⟨20 * (2 ^ k - (m + 1)), by omega, k, t', m + 1, mrS s m k, en, hn, et, ht2, ht20, hm, rfl, hC, g1, by rw [← nI_1, eA (Int32.not_lt.mp h1), eB, ← lN_add, ← lN_add]; rfl, rfl, rfl⟩
      have hlt := lp_lt hk (by omega) hc
      have ek : mrS s m (k + 1) = nightS (bp (tb (nI m) (nI k))) 0 (mrS s m k) := rfl
      conv => whnf
      refine ⟨fun hb => ?_, fun hb => ?_⟩
      · have hb : ¬ tb (nI m) (nI k) := fun z => z hb
        rw [bp_f hb] at ek
        conv => whnf
        refine ⟨mrS s m k, 0, 0, N + k, rfl, rfl, g2, g3, by omega, ?_⟩
        rw [← ek]
        repeat' ((conv => whnf); (first | ((with_reducible refine And.intro (fun z => ?_) (fun z => ?_)) <;> (try (first | exact absurd z (by first | assumption | decide) | exact absurd (by first | assumption | decide) z))) | fail))
        all_goals (conv => whnf)
        rw [t_m1 ht2 ht20, ← wN_f (by omega) (by omega) hb]
        exact ⟨20 * (2 ^ n' - (m + 1)) + 10 + (n' - (k + 1)), by omega, n', t', m, k + 1, en, hn, et, ht2, ht20, hm, hlt, rfl, hC, by rw [← nI_1]; rfl, rfl, rfl⟩
      · have hb : tb (nI m) (nI k) := hb
        rw [bp_t hb] at ek
        conv => whnf
        refine ⟨mrS s m k, 1, 0, N + k, rfl, rfl, g2, g3, by omega, ?_⟩
        rw [← ek]
        repeat' ((conv => whnf); (first | ((with_reducible refine And.intro (fun z => ?_) (fun z => ?_)) <;> (try (first | exact absurd z (by first | assumption | decide) | exact absurd (by first | assumption | decide) z))) | fail))
        all_goals (conv => whnf)
        exact ⟨20 * (2 ^ n' - (m + 1)) + 10 + (n' - (k + 1)), by omega, n', t', m, k + 1, en, hn, et, ht2, ht20, hm, hlt, rfl, hC, by rw [← nI_1, wN_t (by omega) (by omega) hb]; rfl, rfl, rfl⟩
  · have no : ¬ maC s g n t v part → K (some (.inr (.inl 1000000001))) (x2W r2 r3 r4 r5 hi s m0) := fun z => kL h0 (by unfold maR; rw [if_neg z])
    conv => whnf
    refine ⟨s, g, rfl, rfl, rfl, ?_⟩
    conv => whnf
    refine ⟨fun hc => ?_, fun hc1 => ?_⟩
    · conv => whnf
      refine ⟨rfl, ?_⟩
      conv => whnf
      exact no (fun z => bp_0.mp hc z.1.1)
    conv => whnf
    refine ⟨fun hc => ?_, fun hc2 => ?_⟩
    · conv => whnf
      refine ⟨rfl, ?_⟩
      conv => whnf
      exact no (fun z => bp_0.mp hc z.1.2.1)
    conv => whnf
    refine ⟨fun hc3 => ?_, fun hc => ?_⟩
    rotate_left
    · conv => whnf
      refine ⟨rfl, ?_⟩
      conv => whnf
      exact no (fun z => bp_0.mp hc z.1.2.2)
    conv => whnf
    refine ⟨fun hc => ?_, fun hc4 => ?_⟩
    · conv => whnf
      refine ⟨rfl, ?_⟩
      conv => whnf
      exact no (fun z => bp_0.mp hc z.2.1)
    conv => whnf
    refine ⟨fun hc5 => ?_, fun hc => ?_⟩
    rotate_left
    · conv => whnf
      refine ⟨rfl, ?_⟩
      conv => whnf
      exact no (fun z => bp_0.mp hc z.2.2)
    have hC : maC s g n t v part := ⟨⟨bp_n hc1, bp_n hc2, bp_n hc3⟩, bp_n hc4, bp_n hc5⟩
    obtain ⟨n', hn, en⟩ := in_rng (n := 7) (by decide) hC.1.2.1
    obtain ⟨t', ht2, ht20, et⟩ := t20 hC.1.2.2
    conv => whnf
    exact ⟨20 * (2 ^ n' - 0), n', t', 0, m0, en, hn, et, ht2, ht20, Nat.zero_le _, rfl, hC, hM, by rw [en, et]; rfl, rfl, rfl⟩
