/-! ===== leaves ===== -/
theorem tb_bt (x : Int32) {i : Nat} (hi : i < 32) : tb x (nI i) ↔ bt x i = true := by
  have h1 : bt (jshr x (nI i)) 0 = bt x i := by
    unfold jshr
    rw [b_sshr i hi x (by decide), if_pos (by omega), Nat.add_zero]
  have h2 : bt (jshr x (nI i) &&& 1) 0 = bt x i := by
    rw [b_and, h1, show bt 1 0 = true by decide, Bool.and_true]
  unfold tb
  rcases and1_01 (jshr x (nI i)) with e | e
  · rw [e, b_0] at h2
    rw [e, ← h2]
    simp
  · rw [e] at h2
    rw [e, ← h2]
    decide
theorem bt_one {j i : Nat} (hj : j < 32) (hi : i < 32) : bt (jshl 1 (nI j)) i = decide (j = i) := by
  unfold jshl
  rw [b_shl j hj 1 hi]
  by_cases h : j ≤ i
  · by_cases e : j = i
    · rw [e]; simp; decide
    · have : bt 1 (i - j) = false := (by decide +kernel : ∀ n, n < 32 → n = 0 ∨ bt 1 n = false) (i - j) (by omega) |>.resolve_left (by omega)
      simp [h, e, this]
  · have e : ¬ j = i := by omega
    simp [h, e]
theorem least_ex {P : Nat → Prop} : ∀ {n : Nat}, P n → ∃ m, m ≤ n ∧ P m ∧ ∀ i, i < m → ¬ P i := by
  intro n
  induction n using Nat.strongRecOn with
  | ind n ih =>
    intro hp
    by_cases h : ∃ i, i < n ∧ P i
    · obtain ⟨i, hi, hpi⟩ := h
      obtain ⟨m, h1, h2, h3⟩ := ih i hi hpi
      exact ⟨m, by omega, h2, h3⟩
    · exact ⟨n, Nat.le_refl _, hp, fun i hi hpi => h ⟨i, hi, hpi⟩⟩
theorem bits_ex {x : Int32} (h : ¬ x = 0) : ∃ i, i < 32 ∧ bt x i = true ∧ ∀ j, j < i → bt x j = false := by
  by_cases hx : ∃ i, i < 32 ∧ bt x i = true
  · obtain ⟨i, hi, hb⟩ := hx
    obtain ⟨m, h1, h2, h3⟩ := least_ex (P := fun i => bt x i = true) hb
    exact ⟨m, by omega, h2, fun j hj => by simpa using h3 j hj⟩
  · refine absurd (b_ext (fun i hi => ?_)) h
    rw [b_0]
    cases hb : bt x i with
    | false => rfl
    | true => exact absurd ⟨i, hi, hb⟩ hx
/-- only the guests are there -/
def TG (s : InnS) : Prop := ∀ i, ix (iG s) ≤ i → bt (iT s) i = false
def F_X5_leastOf : Fn := fun as w K => ∃ (x : Int32) (i : Nat), as = [sI x] ∧ i < 32 ∧ bt x i = true ∧ (∀ j, j < i → bt x j = false) ∧ K (some (.inl (nI i))) w
def ctb_X5_leastOf : List (Nat × (List sv → List sc → (List sv → List sc → Prop) → Prop)) := []
theorem cok_X5_leastOf : CallOK cX5_leastOf 2 (some .int) RX5 1 ctb_X5_leastOf := CallOK_nil
theorem ct_X5_leastOf : Ct yX5_leastOf cX5_leastOf 2 (some .int) 1 F_X5_leastOf := by
  intro l D σ cA sz as w K h
  obtain ⟨x, i, rfl, hi, hb, hl, h⟩ := h
  refine metL (pr := lkB pX5_leastOf) (rk := 1) (ct := ctb_X5_leastOf) (fld := lkB flX5) (cst := lkB csX5) (cstL := lkB clX5) [(2, ([true, true], fun n lv st w' => ∃ j, j ≤ i ∧ n = i - j ∧ lv = [some (sI x), some (sI (nI j))] ∧ st = [] ∧ w' = w))] pX5_leastOf_ok kX5_leastOf.2.2.2.2.2 fdX5 cdX5 rto1 cok_X5_leastOf (Nat.le_of_ble_eq_true rfl) ?_ ?_ l D σ cA sz
  · refine List.forall_mem_cons.mpr ⟨?_, cut0⟩
    rintro n lv st w' ⟨j, hj, rfl, rfl, rfl, rfl⟩
    conv => whnf
    refine ⟨fun hc => ?_, fun hc => ?_⟩
    · exact absurd (show nI 32 ≤ nI j from hc) (nI_ge (by omega) (by omega))
    conv => whnf
    refine ⟨fun hc => ?_, fun hc => ?_⟩
    · have hne : j < i := by
        rcases Nat.lt_or_ge j i with q | q
        · exact q
        · have : j = i := by omega
          subst this
          exact absurd hc ((tb_bt x hi).mpr hb)
      conv => whnf
      exact ⟨i - (j + 1), by omega, j + 1, hne, rfl, by rw [← nI_1]; rfl, rfl, rfl⟩
    · have hji : j = i := by
        rcases Nat.lt_or_ge j i with q | q
        · have := (tb_bt x (by omega)).mp (show tb x (nI j) from hc)
          rw [hl j q] at this; cases this
        · omega
      conv => whnf
      exact kI h (by rw [hji])
  · skip
    repeat' ((conv => whnf); (first | refine And.intro (by first | decide | with_reducible assumption) ?_ | with_reducible refine And.intro (fun hc => ?_) (fun hc => ?_) | with_reducible refine And.intro (fun hc => ?_) ?_ | fail))
    all_goals try (conv => whnf)
    exact ⟨i, 0, Nat.zero_le _, rfl, rfl, rfl, rfl⟩
/-- when one goes: 61 is never -/
noncomputable def gone (s : InnS) (g : Int32) : Nat := fst (fun n => ¬ tb (iT (nightsS n s)) g) 61
noncomputable def lvN (s : InnS) (o : Nat) : Nat := @ite _ (tb (iT s) (nI o)) (Classical.propDecidable _) (gone s (nI o)) 61
noncomputable def lvF (s : InnS) : Nat → Int32 × Nat
  | 0 => (-4, 61)
  | o + 1 => if lvN s o < (lvF s o).2 then (nI o, lvN s o) else lvF s o
noncomputable def lvR (s : InnS) (g : Int32) : Int32 := if g = -1 then (lvF s (ix (iG s))).1 else if 0 ≤ g ∧ g ≤ iG s - 1 then fsA (fun n => ¬ tb (iT (nightsS n s)) g) else -1
theorem fst_le (P : Nat → Prop) : ∀ m, fst P m ≤ m
  | 0 => Nat.le_refl _
  | m + 1 => by
    have := fst_le P m
    unfold fst
    split
    · omega
    · split <;> omega
theorem lvN_le (s : InnS) (o : Nat) : lvN s o ≤ 61 := by
  unfold lvN
  split
  · exact fst_le _ _
  · exact Nat.le_refl _
theorem lv_inv (s : InnS) : ∀ j, (lvF s j).2 ≤ 61 ∧ (∀ o, o < j → (lvF s j).2 ≤ lvN s o) ∧ (((lvF s j).2 = 61 ∧ (lvF s j).1 = -4) ∨ ∃ o, o < j ∧ (lvF s j).1 = nI o ∧ lvN s o = (lvF s j).2 ∧ (lvF s j).2 < 61 ∧ ∀ o', o' < o → (lvF s j).2 < lvN s o')
  | 0 => ⟨Nat.le_refl _, fun o h => absurd h (Nat.not_lt_zero _), Or.inl ⟨rfl, rfl⟩⟩
  | j + 1 => by
    obtain ⟨h1, h2, h3⟩ := lv_inv s j
    unfold lvF
    by_cases h : lvN s j < (lvF s j).2
    · rw [if_pos h]
      refine ⟨by show lvN s j ≤ 61; omega, fun o ho => ?_, Or.inr ⟨j, by omega, rfl, rfl, by show lvN s j < 61; omega, fun o' ho' => Nat.lt_of_lt_of_le h (h2 o' ho')⟩⟩
      show lvN s j ≤ lvN s o
      rcases Nat.lt_or_ge o j with q | q
      · have := h2 o q; omega
      · have : o = j := by omega
        rw [this]; exact Nat.le_refl _
    · rw [if_neg h]
      refine ⟨h1, fun o ho => ?_, ?_⟩
      · rcases Nat.lt_or_ge o j with q | q
        · exact h2 o q
        · have : o = j := by omega
          rw [this]; omega
      · rcases h3 with h3 | ⟨o, ho, h3⟩
        · exact Or.inl h3
        · exact Or.inr ⟨o, by omega, h3⟩
/-- the bits of those who have gone by n -/
noncomputable def lfB (s : InnS) (n : Nat) : Int32 := iT s &&& (iT (nightsS n s) ^^^ (-1))
theorem lf_bt (s : InnS) (n : Nat) {i : Nat} (hi : i < 32) : bt (lfB s n) i = (bt (iT s) i && !bt (iT (nightsS n s)) i) := by
  unfold lfB
  rw [b_and, b_xor, b_m1 i hi, Bool.xor_true]
theorem lv_none {s : InnS} {G : Nat} (hG : G < 8) (h : ∀ n, n < 60 → lfB s (n + 1) = 0) : (lvF s G).1 = -4 := by
  have hN : ∀ o, o < G → lvN s o = 61 := fun o ho => by
    unfold lvN
    split
    · rename_i hb
      have hb' := (tb_bt _ (by omega)).mp hb
      refine fst_none (fun n hn => fun q => ?_)
      cases n with
      | zero => exact q hb
      | succ n =>
        have e := lf_bt s (n + 1) (i := o) (by omega)
        rw [h n (by omega), b_0, hb'] at e
        refine q ((tb_bt _ (by omega)).mpr ?_)
        simpa using e.symm
    · rfl
  obtain ⟨h1, h2, h3⟩ := lv_inv s G
  rcases h3 with h3 | ⟨o, ho, -, h4, h5, -⟩
  · exact h3.2
  · rw [hN o ho] at h4; omega
theorem lv_some {s : InnS} {G n i : Nat} (hG : G < 8) (hT : ∀ i, G ≤ i → bt (iT s) i = false) (hn : n < 60) (h : ∀ k, k < n → lfB s (k + 1) = 0) (hi : i < 32) (hb : bt (lfB s (n + 1)) i = true) (hl : ∀ j, j < i → bt (lfB s (n + 1)) j = false) : (lvF s G).1 = nI i := by
  have hb2 := hb
  rw [lf_bt s (n + 1) hi, Bool.and_eq_true, Bool.not_eq_true'] at hb2
  have hiG : i < G := by
    rcases Nat.lt_or_ge i G with q | q
    · exact q
    · rw [hT i q] at hb2; cases hb2.1
  have stay : ∀ o k, o < 32 → bt (iT s) o = true → k ≤ n → tb (iT (nightsS k s)) (nI o) := fun o k ho hbo hk => by
    cases k with
    | zero => exact (tb_bt _ ho).mpr hbo
    | succ k =>
      have e := lf_bt s (k + 1) (i := o) ho
      rw [h k (by omega), b_0, hbo] at e
      refine (tb_bt _ ho).mpr ?_
      simpa using e.symm
  have lo : ∀ o, o < G → n + 1 ≤ lvN s o := fun o ho => by
    unfold lvN
    split
    · rename_i hbo
      have hbo := (tb_bt _ (by omega)).mp hbo
      refine Nat.not_lt.mp (fun q => ?_)
      have hp : ¬ tb (iT (nightsS (gone s (nI o)) s)) (nI o) := by
        obtain ⟨j, hj⟩ : ∃ j, j < 61 ∧ ¬ tb (iT (nightsS j s)) (nI o) := Classical.byContradiction (fun z => by
          have := fst_none (P := fun n => ¬ tb (iT (nightsS n s)) (nI o)) (m := 61) (fun i hi hp => z ⟨i, hi, hp⟩)
          unfold gone at q
          omega)
        obtain ⟨m, hm1, hm2, hm3⟩ := least_ex (P := fun n => ¬ tb (iT (nightsS n s)) (nI o)) hj.2
        have := fst_some hm2 hm3 (m := 61) (by omega)
        unfold gone
        rw [this]; exact hm2
      exact hp (stay o _ (by omega) hbo (by omega))
    · omega
  have ei : lvN s i = n + 1 := by
    unfold lvN
    rw [if_pos ((tb_bt _ hi).mpr hb2.1)]
    refine fst_some ?_ (fun k hk => fun z => z (stay i k hi hb2.1 (by omega))) (by omega)
    intro z
    have := (tb_bt _ hi).mp z
    rw [hb2.2] at this; cases this
  obtain ⟨h1, h2, h3⟩ := lv_inv s G
  have hm := h2 i hiG
  rw [ei] at hm
  rcases h3 with h3 | ⟨o, ho, h4, h5, h6, h7⟩
  · omega
  · have ho1 := lo o ho
    rw [h4]
    have hoi : ¬ i < o := fun q => by have := h7 i q; omega
    have hio : ¬ o < i := fun q => by
      have hbo := hl o q
      rw [lf_bt s (n + 1) (by omega)] at hbo
      have hto : tb (iT s) (nI o) := Classical.byContradiction (fun z => by
        have : lvN s o = 61 := by unfold lvN; rw [if_neg z]
        omega)
      have hto' := (tb_bt _ (by omega)).mp hto
      rw [hto', Bool.true_and, Bool.not_eq_false'] at hbo
      have hgo : gone s (nI o) = n + 1 := by
        have : lvN s o = gone s (nI o) := by unfold lvN; rw [if_pos hto]
        omega
      obtain ⟨j, hj⟩ : ∃ j, j < 61 ∧ ¬ tb (iT (nightsS j s)) (nI o) := Classical.byContradiction (fun z => by
        have := fst_none (P := fun n => ¬ tb (iT (nightsS n s)) (nI o)) (m := 61) (fun i hi hp => z ⟨i, hi, hp⟩)
        unfold gone at hgo
        omega)
      obtain ⟨m, hm1, hm2, hm3⟩ := least_ex (P := fun n => ¬ tb (iT (nightsS n s)) (nI o)) hj.2
      have e := fst_some hm2 hm3 (m := 61) (by omega)
      have hmn : m = n + 1 := by unfold gone at hgo; omega
      subst hmn
      exact hm2 ((tb_bt _ (by omega)).mpr hbo)
    have : o = i := by omega
    rw [this]
def F_X5_firstToLeave : Fn := fun as w K => ∃ (r2 r3 r4 r5 : sv) (hi : Int32) (s m : InnS) (N : Nat), as = [sR 0] ∧ w = x2W r2 r3 r4 r5 hi s m ∧ IV s N ∧ TG s ∧ ZB m ∧ ∀ m', ZB m' → K (some (.inl (lvF s (ix (iG s))).1)) (x2W r2 r3 r4 r5 hi s m')
def ctb_X5_firstToLeave : List (Nat × (List sv → List sc → (List sv → List sc → Prop) → Prop)) := [(1, cS (some 3) 1 F_X5_inMind), (15, cG [8, 9, 10, 11, 12, 13, 14] (some 0) 2 F_X0_pass), (38, cS none 1 F_X5_leastOf)]
theorem cok_X5_firstToLeave : CallOK cX5_firstToLeave 4 (some .int) RX5 6 ctb_X5_firstToLeave := CallOK_cons (site_same (rnV (pX5_firstToLeave_ok 1 _ rfl) ct_X5_inMind kX5_inMind lRX5_58 (by decide))) (CallOK_cons (site_gen [8, 9, 10, 11, 12, 13, 14] (by decide) (rnV (pX5_firstToLeave_ok 15 _ rfl) ct_X0_pass kX0_pass lRX5_136 (by decide))) (CallOK_cons (site_same (rnS (pX5_firstToLeave_ok 38 _ rfl) ct_X5_leastOf kX5_leastOf lRX5_161 (by decide))) (CallOK_nil)))
theorem ct_X5_firstToLeave : Ct yX5_firstToLeave cX5_firstToLeave 4 (some .int) 6 F_X5_firstToLeave := by
  intro l D σ cA sz as w K h
  obtain ⟨r2, r3, r4, r5, hi, s, m, N, rfl, rfl, ⟨hZ, hG, hN, hN9, hB⟩, hTG, hM, h⟩ := h
  obtain ⟨G, hG7, hGG⟩ := hG.2.1
  have eG : ix (iG s) = G := by rw [hGG]; exact nI_clamp (by omega)
  unfold TG at hTG
  rw [eG] at h hTG
  refine metL (pr := lkB pX5_firstToLeave) (rk := 1) (ct := ctb_X5_firstToLeave) (fld := lkB flX5) (cst := lkB csX5) (cstL := lkB clX5) [(7, ([true, true, true, false], fun n lv st w => ∃ j, j ≤ 60 ∧ n = 60 - j ∧ (∀ k, k < j → lfB s (k + 1) = 0) ∧ lv = [some (sR 0), some (sR 8), some (sI (nI j)), none] ∧ st = [] ∧ w = x2W r2 r3 r4 r5 hi s (nightsS j s)))] pX5_firstToLeave_ok kX5_firstToLeave.2.2.2.2.2.2.2 fdX5 cdX5 rto1 cok_X5_firstToLeave (Nat.le_of_ble_eq_true rfl) ?_ ?_ l D σ cA sz
  · refine List.forall_mem_cons.mpr ⟨?_, cut0⟩
    rintro n lv st w ⟨j, hj, rfl, hall, rfl, rfl, rfl⟩
    have hz := ZB_nights hZ hG hN j (by omega)
    have hz1 := ZB_nights hZ hG hN (j + 1) (by omega)
    obtain ⟨g1, g2⟩ := nights_keep hG hN j (by omega)
    have hsuc : nightsS 1 (nightsS j s) = nightsS (j + 1) s := rfl
    conv => whnf
    refine ⟨fun hc => ?_, fun hc => ?_⟩
    · conv => whnf
      obtain rfl := lp_ge hj (by decide) hc
      exact kI (h _ hz) (lv_none hG7 hall)
    · have hlt := lp_lt hj (by decide) hc
      conv => whnf
      refine ⟨nightsS j s, 1, N + j, rfl, rfl, g1, g2, by omega, ?_⟩
      rw [hsuc]
      conv => whnf
      refine ⟨fun h0 => ?_, fun h0 => ?_⟩
      · conv => whnf
        exact ⟨60 - (j + 1), by omega, j + 1, hlt, rfl, lt_s hall h0, by rw [← nI_1]; rfl, rfl, rfl⟩
      · obtain ⟨i, hi32, hb, hl⟩ := bits_ex h0
        conv => whnf
        refine ⟨_, i, rfl, hi32, hb, hl, ?_⟩
        conv => whnf
        exact kI (h _ hz1) (lv_some hG7 hTG hlt hall hi32 hb hl)
  · conv => whnf
    refine ⟨r2, r3, r4, r5, hi, s, m, rfl, rfl, hZ, hM, ?_⟩
    conv => whnf
    exact ⟨60, 0, by decide, rfl, lt_0, rfl, rfl, rfl⟩
def F_X5_leaves : Fn := fun as w K => ∃ (r2 r3 r4 r5 : sv) (hi : Int32) (s m : InnS) (N : Nat) (g : Int32), as = [sR 0, sI g] ∧ w = x2W r2 r3 r4 r5 hi s m ∧ IV s N ∧ TG s ∧ ZB m ∧ ∀ m', ZB m' → K (some (.inl (lvR s g))) (x2W r2 r3 r4 r5 hi s m')
def ctb_X5_leaves : List (Nat × (List sv → List sc → (List sv → List sc → Prop) → Prop)) := [(6, cS (some 3) 1 F_X5_firstToLeave), (15, cG [1, 2, 3, 4, 5, 6, 7] (some 0) 2 F_X0_knows), (24, cS (some 3) 1 F_X5_inMind), (38, cG [8, 9, 10, 11, 12, 13, 14] (some 0) 2 F_X0_isThere), (48, cG [8, 9, 10, 11, 12, 13, 14] (some 0) 2 F_X0_pass)]
theorem cok_X5_leaves : CallOK cX5_leaves 4 (some .int) RX5 7 ctb_X5_leaves := CallOK_cons (site_same (rnV (pX5_leaves_ok 6 _ rfl) ct_X5_firstToLeave kX5_firstToLeave lRX5_157 (by decide))) (CallOK_cons (site_gen [1, 2, 3, 4, 5, 6, 7] (by decide) (rnV (pX5_leaves_ok 15 _ rfl) ct_X0_knows kX0_knows lRX5_80 (by decide))) (CallOK_cons (site_same (rnV (pX5_leaves_ok 24 _ rfl) ct_X5_inMind kX5_inMind lRX5_58 (by decide))) (CallOK_cons (site_gen [8, 9, 10, 11, 12, 13, 14] (by decide) (rnV (pX5_leaves_ok 38 _ rfl) ct_X0_isThere kX0_isThere lRX5_98 (by decide))) (CallOK_cons (site_gen [8, 9, 10, 11, 12, 13, 14] (by decide) (rnV (pX5_leaves_ok 48 _ rfl) ct_X0_pass kX0_pass lRX5_136 (by decide))) (CallOK_nil)))))
theorem ct_X5_leaves : Ct yX5_leaves cX5_leaves 4 (some .int) 7 F_X5_leaves := by
  intro l D σ cA sz as w K h
  obtain ⟨r2, r3, r4, r5, hi, s, m, N, g, rfl, rfl, hIV, hTG, hM, h⟩ := h
  have hIV' := hIV
  obtain ⟨hZ, hG, hN, hN9, hB⟩ := hIV'
  have h0 := h m hM
  refine metL (pr := lkB pX5_leaves) (rk := 1) (ct := ctb_X5_leaves) (fld := lkB flX5) (cst := lkB csX5) (cstL := lkB clX5) [(30, ([true, true, true, true], fun n lv st w => ∃ j, j ≤ 61 ∧ n = 61 - j ∧ lvR s g = fsA (fun n => ¬ tb (iT (nightsS n s)) g) ∧ (∀ i, i < j → ¬ ¬ tb (iT (nightsS i s)) g) ∧ lv = [some (sR 0), some (sI g), some (sR 8), some (sI (nI j))] ∧ st = [] ∧ w = x2W r2 r3 r4 r5 hi s (nightsS j s)))] pX5_leaves_ok kX5_leaves.2.2.2.2.2.2.2 fdX5 cdX5 rto1 cok_X5_leaves (Nat.le_of_ble_eq_true rfl) ?_ ?_ l D σ cA sz
  · refine List.forall_mem_cons.mpr ⟨?_, cut0⟩
    rintro n lv st w ⟨j, hj, rfl, hr, hall, rfl, rfl, rfl⟩
    have hz := ZB_nights hZ hG hN j (by omega)
    obtain ⟨g1, g2⟩ := nights_keep hG hN j (by omega)
    conv => whnf
    refine ⟨fun hc => ?_, fun hc => ?_⟩
    · conv => whnf
      have hj : j = 61 := by
        rcases Nat.lt_or_ge j 61 with q | q
        · exact absurd (show nI 60 < nI j from hc) (nI_nlt (by omega) (by decide))
        · omega
      subst hj
      exact kI (h _ hz) (by rw [hr, fsA_none hall])
    · have hlt : j < 61 := by
        rcases Nat.lt_or_ge j 61 with q | q
        · exact q
        · exact absurd (show nI 60 < nI j from nI_lt (by omega) (by omega)) hc
      conv => whnf
      refine ⟨nightsS j s, g, rfl, rfl, ?_⟩
      conv => whnf
      refine ⟨fun h1 => ?_, fun h1 => ?_⟩
      · conv => whnf
        refine ⟨nightsS j s, 1, N + j, rfl, rfl, g1, g2, by omega, ?_⟩
        conv => whnf
        exact ⟨61 - (j + 1), by omega, j + 1, hlt, rfl, hr, lt_s hall (fun z => z (bp_n h1)), by rw [← nI_1]; rfl, rfl, rfl⟩
      · conv => whnf
        exact kI (h _ hz) (by rw [hr, fsA_some hlt (bp_0.mp h1) hall])
  · conv => whnf
    refine ⟨fun hc => ?_, fun hc => ?_⟩
    · conv => whnf
      refine ⟨s, g, rfl, rfl, ?_⟩
      conv => whnf
      refine ⟨fun hc1 => ?_, fun hc1 => ?_⟩
      · conv => whnf
        refine ⟨r2, r3, r4, r5, hi, s, m, rfl, rfl, hZ, hM, ?_⟩
        conv => whnf
        exact ⟨61, 0, by decide, rfl, by rw [lvR, if_neg hc, if_pos (bp_n hc1)], lt_0, rfl, rfl, rfl⟩
      · conv => whnf
        exact kI h0 (by rw [lvR, if_neg hc, if_neg (bp_0.mp hc1)])
    · conv => whnf
      refine ⟨r2, r3, r4, r5, hi, s, m, N, rfl, rfl, hIV, hTG, hM, fun m' hm' => ?_⟩
      conv => whnf
      exact kI (h m' hm') (by rw [lvR, if_pos hc])
