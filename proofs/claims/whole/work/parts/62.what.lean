/-! ===== whatIs, whatWish ===== -/
noncomputable def bwB (P : Nat → Prop) : Nat → Int32
  | 0 => 0
  | k + 1 => @ite _ (P k) (Classical.propDecidable _) (bwB P k ||| jshl 1 (nI k)) (bwB P k)
theorem bwB_t {P : Nat → Prop} {k : Nat} (h : P k) : bwB P (k + 1) = bwB P k ||| jshl 1 (nI k) := by rw [bwB, if_pos h]
theorem bwB_f {P : Nat → Prop} {k : Nat} (h : ¬ P k) : bwB P (k + 1) = bwB P k := by rw [bwB, if_neg h]
theorem or_z (x : Int32) : x ||| 0 = x := by
  apply b_ext
  intro i _
  rw [b_or, b_0, Bool.or_false]
theorem bwB_f' {P : Nat → Prop} {k : Nat} (h : ¬ P k) : bwB P (k + 1) = bwB P k ||| 0 := by rw [bwB, if_neg h, or_z]
abbrev wkS (s : InnS) (g k : Int32) : InnS := (upd (iK s) (ix g) k, iF s, iW s, iL s, iH s, iP s, iG s, iT s, iN s, iS s, iA s, iSn s, iLn s)
abbrev wfS (s : InnS) (g k : Int32) : InnS := (iK s, upd (iF s) (ix g) k, iW s, iL s, iH s, iP s, iG s, iT s, iN s, iS s, iA s, iSn s, iLn s)
def wyS (what : Int32) (s : InnS) (g k : Int32) : InnS := if what = 0 then wkS s g k else wfS s g k
theorem GS_wk {s : InnS} {g k : Int32} (h : GS s) : GS (wkS s g k) := h
theorem GS_wf {s : InnS} {g k : Int32} (h : GS s) (hk : rng 10 k) : GS (wfS s g k) := by
  refine ⟨fun j hj => ⟨?_, (h.1 j hj).2⟩, h.2⟩
  show rng 10 (upd (iF s) (ix g) k j)
  by_cases e : j = ix g
  · rw [e, pk_us]; exact hk
  · rw [pk_un e]; exact (h.1 j hj).1
theorem ZB_wk {s : InnS} {g k : Int32} (h : ZB s) (hg : ix g < 7) : ZB (wkS s g k) := by
  refine ⟨fun j hj => ⟨?_, (h.1 j hj).2⟩, h.2⟩
  show upd (iK s) (ix g) k j = 0
  rw [pk_un (by omega)]; exact (h.1 j hj).1
theorem ZB_wf {s : InnS} {g k : Int32} (h : ZB s) (hg : ix g < 7) : ZB (wfS s g k) := by
  refine ⟨fun j hj => ⟨(h.1 j hj).1, ?_, (h.1 j hj).2.2⟩, h.2⟩
  show upd (iF s) (ix g) k j = 0
  rw [pk_un (by omega)]; exact (h.1 j hj).2.1
def hsP (u : ShS) (s : InnS) (g n : Nat) : Prop := ∀ k, k < n → soP u k (iH (nightsS k s) g)
def lsP (u : ShS) (s : InnS) (g n : Nat) : Prop := ∀ k, k < n → soP u k (iL (nightsS (k + 1) s) g)
theorem iH_sn (s : InnS) (a b : Int32) (n : Nat) : iH (nightsS n (snS s a b)) = iH (nightsS n s) ∧ iL (nightsS n (snS s a b)) = iL (nightsS n s) := by
  obtain ⟨a', b', e⟩ := nights_sn s a b n
  rw [e]
  exact ⟨rfl, rfl⟩
theorem hsP_sn (u : ShS) (s : InnS) (a b : Int32) (g n : Nat) : hsP u (snS s a b) g n ↔ hsP u s g n := by
  unfold hsP
  constructor
  · intro h k hk
    rw [← (iH_sn s a b k).1]; exact h k hk
  · intro h k hk
    rw [(iH_sn s a b k).1]; exact h k hk
theorem lsP_sn (u : ShS) (s : InnS) (a b : Int32) (g n : Nat) : lsP u (snS s a b) g n ↔ lsP u s g n := by
  unfold lsP
  constructor
  · intro h k hk
    rw [← (iH_sn s a b (k + 1)).2]; exact h k hk
  · intro h k hk
    rw [(iH_sn s a b (k + 1)).2]; exact h k hk
theorem all_s {P : Nat → Prop} {j : Nat} (h : ∀ i, i < j → P i) (hj : P j) : ∀ i, i < j + 1 → P i := fun i hi => by
  rcases Nat.lt_or_ge i j with z | z
  · exact h i z
  · have : i = j := by omega
    rw [this]; exact hj
theorem all_0 {P : Nat → Prop} : ∀ i, i < 0 → P i := fun i hi => absurd hi (Nat.not_lt_zero _)
def innB2 (s : InnS) : List sc := [oC 0 [sR 3, sR 4, sR 5, sR 6, sR 7, sR 8, sI (iG s), sI (iT s), sI (iN s), sI (iS s), sI (iA s), sI (iSn s), sI (iLn s)], aI 7 (iK s), aI 7 (iF s), aI 7 (iW s), aI 7 (iL s), aI 7 (iH s), aI 10 (iP s)]
def F_X5_healthsAreSo : Fn := fun as w K => ∃ (u : ShS) (s : InnS) (N n : Nat) (g : Int32), as = [sR 0, sR 2, sI g] ∧ w = shW u ++ innB2 s ∧ vp_in g 7 ∧ n ≤ 100 ∧ uM u = nI n ∧ ZB s ∧ GS s ∧ iN s = nI N ∧ N ≤ 999 ∧ ∀ m', ZB m' → K (some (.inl (bp (hsP u s (ix g) n)))) (shW u ++ innB2 m')
def ctb_X5_healthsAreSo : List (Nat × (List sv → List sc → (List sv → List sc → Prop) → Prop)) := [(18, cQ [0, 1] (some 2) 3 F_X3_isSo), (28, cG [2, 3, 4, 5, 6, 7, 8] (some 0) 2 F_X0_pass)]
theorem cok_X5_healthsAreSo : CallOK cX5_healthsAreSo 4 (some .boolean) RX5 6 ctb_X5_healthsAreSo := CallOK_cons (site_q [0, 1] (by decide) (rnV (pX5_healthsAreSo_ok 18 _ rfl) ct_X3_isSo kX3_isSo lRX5_216 (by decide))) (CallOK_cons (site_gen [2, 3, 4, 5, 6, 7, 8] (by decide) (rnV (pX5_healthsAreSo_ok 28 _ rfl) ct_X0_pass kX0_pass lRX5_136 (by decide))) (CallOK_nil))
theorem ct_X5_healthsAreSo : Ct yX5_healthsAreSo cX5_healthsAreSo 4 (some .boolean) 6 F_X5_healthsAreSo := by
  intro l D σ cA sz as w K h
  obtain ⟨u, s, N, n, g, rfl, rfl, hg, hn, eM, hZ, hG, hN, hN9, h⟩ := h
  refine metL (pr := lkB pX5_healthsAreSo) (rk := 2) (ct := ctb_X5_healthsAreSo) (fld := lkB flX5) (cst := lkB csX5) (cstL := lkB clX5) [(2, ([true, true, true, true], fun x lv st w => ∃ (j : Nat), j ≤ n ∧ x = n - j ∧ (∀ k, k < j → soP u k (iH (nightsS k s) (ix g))) ∧ lv = [some (sR 0), some (sR 2), some (sI g), some (sI (nI j))] ∧ st = [] ∧ w = shW u ++ innB2 (nightsS j s)))] pX5_healthsAreSo_ok kX5_healthsAreSo.2.2.2.2.2 fdX5 cdX5 rto2 cok_X5_healthsAreSo (Nat.le_of_ble_eq_true rfl) ?_ ?_ l D σ cA sz
  · refine List.forall_mem_cons.mpr ⟨?_, cut0⟩
    rintro x lv st w ⟨j, hj, rfl, hall, rfl, rfl, rfl⟩
    have hz := ZB_nights hZ hG hN j (by omega)
    obtain ⟨g1, g2⟩ := nights_keep hG hN j (by omega)
    conv => whnf
    refine ⟨fun hc => ?_, fun hc => ?_⟩
    · rw [eM] at hc
      obtain rfl := lp_ge hj (by omega) hc
      conv => whnf
      exact kB (h _ hz) hall
    · rw [eM] at hc
      have hlt := lp_lt hj (by omega) hc
      conv => whnf
      refine ⟨hg, ?_⟩
      conv => whnf
      refine ⟨u, j, _, rfl, rfl, by omega, rfl, ?_⟩
      conv => whnf
      refine ⟨fun h1 => ?_, fun h1 => ?_⟩
      · conv => whnf
        refine ⟨nightsS j s, 1, N + j, rfl, rfl, g1, g2, by omega, ?_⟩
        conv => whnf
        exact ⟨n - (j + 1), by omega, j + 1, hlt, rfl, all_s hall (bp_n h1), by rw [← nI_1]; rfl, rfl, rfl⟩
      · conv => whnf
        exact kB0 (h _ hz) (fun z => bp_0.mp h1 (z j hlt))
  · skip
    repeat' ((conv => whnf); (first | refine And.intro (by first | decide | with_reducible assumption) ?_ | with_reducible refine And.intro (fun hc => ?_) (fun hc => ?_) | with_reducible refine And.intro (fun hc => ?_) ?_ | fail))
    all_goals try (conv => whnf)
    exact ⟨n, 0, Nat.zero_le _, rfl, all_0, rfl, rfl, rfl⟩
def F_X5_lastPlatesAreSo : Fn := fun as w K => ∃ (u : ShS) (s : InnS) (N n : Nat) (g : Int32), as = [sR 0, sR 2, sI g] ∧ w = shW u ++ innB2 s ∧ vp_in g 7 ∧ n ≤ 100 ∧ uM u = nI n ∧ ZB s ∧ GS s ∧ iN s = nI N ∧ N ≤ 999 ∧ ∀ m', ZB m' → K (some (.inl (bp (lsP u s (ix g) n)))) (shW u ++ innB2 m')
def ctb_X5_lastPlatesAreSo : List (Nat × (List sv → List sc → (List sv → List sc → Prop) → Prop)) := [(12, cG [2, 3, 4, 5, 6, 7, 8] (some 0) 2 F_X0_pass), (23, cQ [0, 1] (some 2) 3 F_X3_isSo)]
theorem cok_X5_lastPlatesAreSo : CallOK cX5_lastPlatesAreSo 4 (some .boolean) RX5 6 ctb_X5_lastPlatesAreSo := CallOK_cons (site_gen [2, 3, 4, 5, 6, 7, 8] (by decide) (rnV (pX5_lastPlatesAreSo_ok 12 _ rfl) ct_X0_pass kX0_pass lRX5_136 (by decide))) (CallOK_cons (site_q [0, 1] (by decide) (rnV (pX5_lastPlatesAreSo_ok 23 _ rfl) ct_X3_isSo kX3_isSo lRX5_216 (by decide))) (CallOK_nil))
theorem ct_X5_lastPlatesAreSo : Ct yX5_lastPlatesAreSo cX5_lastPlatesAreSo 4 (some .boolean) 6 F_X5_lastPlatesAreSo := by
  intro l D σ cA sz as w K h
  obtain ⟨u, s, N, n, g, rfl, rfl, hg, hn, eM, hZ, hG, hN, hN9, h⟩ := h
  refine metL (pr := lkB pX5_lastPlatesAreSo) (rk := 2) (ct := ctb_X5_lastPlatesAreSo) (fld := lkB flX5) (cst := lkB csX5) (cstL := lkB clX5) [(2, ([true, true, true, true], fun x lv st w => ∃ (j : Nat), j ≤ n ∧ x = n - j ∧ (∀ k, k < j → soP u k (iL (nightsS (k + 1) s) (ix g))) ∧ lv = [some (sR 0), some (sR 2), some (sI g), some (sI (nI j))] ∧ st = [] ∧ w = shW u ++ innB2 (nightsS j s)))] pX5_lastPlatesAreSo_ok kX5_lastPlatesAreSo.2.2.2.2.2 fdX5 cdX5 rto2 cok_X5_lastPlatesAreSo (Nat.le_of_ble_eq_true rfl) ?_ ?_ l D σ cA sz
  · refine List.forall_mem_cons.mpr ⟨?_, cut0⟩
    rintro x lv st w ⟨j, hj, rfl, hall, rfl, rfl, rfl⟩
    have hz := ZB_nights hZ hG hN j (by omega)
    have hz1 := fun (hj : j < n) => ZB_nights hZ hG hN (j + 1) (by omega)
    obtain ⟨g1, g2⟩ := nights_keep hG hN j (by omega)
    conv => whnf
    refine ⟨fun hc => ?_, fun hc => ?_⟩
    · rw [eM] at hc
      obtain rfl := lp_ge hj (by omega) hc
      conv => whnf
      exact kB (h _ hz) hall
    · rw [eM] at hc
      have hlt := lp_lt hj (by omega) hc
      conv => whnf
      refine ⟨nightsS j s, 1, N + j, rfl, rfl, g1, g2, by omega, ?_⟩
      conv => whnf
      refine ⟨hg, ?_⟩
      conv => whnf
      refine ⟨u, j, _, rfl, rfl, by omega, rfl, ?_⟩
      conv => whnf
      refine ⟨fun h1 => ?_, fun h1 => ?_⟩
      · conv => whnf
        exact ⟨n - (j + 1), by omega, j + 1, hlt, rfl, all_s hall (bp_n h1), by rw [← nI_1]; rfl, rfl, rfl⟩
      · conv => whnf
        exact kB0 (h _ (hz1 hlt)) (fun z => bp_0.mp h1 (z j hlt))
  · skip
    repeat' ((conv => whnf); (first | refine And.intro (by first | decide | with_reducible assumption) ?_ | with_reducible refine And.intro (fun hc => ?_) (fun hc => ?_) | with_reducible refine And.intro (fun hc => ?_) ?_ | fail))
    all_goals try (conv => whnf)
    exact ⟨n, 0, Nat.zero_le _, rfl, all_0, rfl, rfl, rfl⟩
