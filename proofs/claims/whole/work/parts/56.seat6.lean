/-! ===== seats of the reference ===== -/
def F_X6_isUnlike : Fn := fun as w K => ∃ (s : InnS) (q : Pm) (t : Tm) (a b : Nat), as = [sR 0, sI (nI a), sI (nI b)] ∧ w = modW s q t ∧ a < 7 ∧ b < 7 ∧ K (some (.inl (bp (tDr t a < 0 ∨ ¬ tDr t a = tDr t b)))) w
def ctb_X6_isUnlike : List (Nat × (List sv → List sc → (List sv → List sc → Prop) → Prop)) := []
theorem cok_X6_isUnlike : CallOK cX6_isUnlike 3 (some .boolean) RX6 1 ctb_X6_isUnlike := CallOK_nil
theorem ct_X6_isUnlike : Ct yX6_isUnlike cX6_isUnlike 3 (some .boolean) 1 F_X6_isUnlike := by
  intro l D σ cA sz as w K h
  obtain ⟨s, q, t, a, b, rfl, rfl, ha, hb, h⟩ := h
  have hva : vp_in (nI a) 7 := vp_in_nI ha (by decide)
  have hvb : vp_in (nI b) 7 := vp_in_nI hb (by decide)
  have ea : (nI a).toNatClampNeg = a := nI_clamp (by omega)
  have eb : (nI b).toNatClampNeg = b := nI_clamp (by omega)
  refine metL (pr := lkB pX6_isUnlike) (rk := 2) (ct := ctb_X6_isUnlike) (fld := lkB flX6) (cst := lkB csX6) (cstL := lkB clX6) [] pX6_isUnlike_ok kX6_isUnlike.2.2.2.2.2.2.2 fdX6 cdX6 rto2 cok_X6_isUnlike (Nat.le_of_ble_eq_true rfl) cut0 ?_ l D σ cA sz
  conv => whnf
  refine ⟨hva, ?_⟩
  rw [ea]
  conv => whnf
  refine ⟨fun hc => ?_, fun hc => ?_⟩
  · conv => whnf
    exact kB h (Or.inl hc)
  · conv => whnf
    refine ⟨hva, ?_⟩
    rw [ea]
    conv => whnf
    refine ⟨hvb, ?_⟩
    rw [eb]
    conv => whnf
    refine ⟨fun h2 => ?_, fun h2 => ?_⟩
    · conv => whnf
      exact kB0 h (fun z => z.elim hc (fun z => z h2))
    · conv => whnf
      exact kB h (Or.inr h2)
def Dm (T : Int32) (m : Nat) : Int32 := T &&& (nI m ^^^ (-1))
def RLs (T : Int32) (G m l : Nat) : Prop := l < G ∧ bt (nI m) l = true ∧ ∀ i, bt (nI m) i = true → bt T i = true
def CEp (d : PA) (T : Int32) (G : Nat) (ce : PA) (i : Nat) : Prop := ∀ m l, m < 128 → i ≤ 8 * m + l → RLs T G m l → ce (8 * m + l) = bp (CN d (Dm T m) l)
def orB (m j : Nat) : Nat := ix (nI m ||| jshl 1 (nI j))
theorem orB_0 : ∀ m : Fin 128, ∀ j : Fin 7, nI m.val ||| jshl 1 (nI j.val) = nI (orB m.val j.val) ∧ orB m.val j.val < 128 ∧ (¬ (jshr (nI m.val) (nI j.val) &&& 1) = 0 ∨ m.val < orB m.val j.val) := by decide +kernel
theorem Dm_bt (T : Int32) (m : Nat) {i : Nat} (hi : i < 32) : bt (Dm T m) i = (bt T i && !bt (nI m) i) := by
  unfold Dm
  rw [b_and, b_xor, b_m1 i hi]
  cases bt (nI m) i <;> rfl
theorem Dm_or {T : Int32} {m j : Nat} (hm : m < 128) (hj : j < 7) : Dm T (orB m j) = rmB (Dm T m) j := by
  unfold Dm rmB mkB
  rw [← (orB_0 ⟨m, hm⟩ ⟨j, hj⟩).1]
  apply b_ext
  intro i hi
  simp only [b_and, b_xor, b_or, b_m1 i hi]
  cases bt T i <;> cases bt (nI m) i <;> cases bt (jshl 1 (nI j)) i <;> rfl
theorem or_bt {m j i : Nat} (hm : m < 128) (hj : j < 7) (hi : i < 32) : bt (nI (orB m j)) i = (bt (nI m) i || decide (j = i)) := by
  rw [← (orB_0 ⟨m, hm⟩ ⟨j, hj⟩).1, b_or, bt_one (by omega) hi]
theorem RL_or {T : Int32} {G m j : Nat} (hm : m < 128) (hj : j < G) (hG : G < 8) (hb : tb (Dm T m) (nI j)) (hs : ∀ i, bt (nI m) i = true → bt T i = true) : RLs T G (orB m j) j ∧ m < orB m j := by
  have hb := (tb_bt _ (by omega)).mp hb
  rw [Dm_bt _ _ (by omega)] at hb
  have hb1 : bt T j = true := (Bool.and_eq_true _ _ ▸ hb).1
  have hb2 : bt (nI m) j = false := by
    have := (Bool.and_eq_true _ _ ▸ hb).2
    simpa using this
  refine ⟨⟨hj, ?_, fun i hi => ?_⟩, ?_⟩
  · rw [or_bt hm (by omega) (by omega)]; simp
  · rcases Nat.lt_or_ge i 32 with h | h
    · rw [or_bt hm (by omega) h] at hi
      rcases (Bool.or_eq_true _ _).mp hi with z | z
      · exact hs i z
      · have : j = i := by simpa using z
        rw [← this]; exact hb1
    · rw [b_big h] at hi; cases hi
  · refine (orB_0 ⟨m, hm⟩ ⟨j, by omega⟩).2.2.resolve_left (fun z => ?_)
    have := (tb_bt (nI m) (i := j) (by omega)).mp z
    rw [hb2] at this; cases this
theorem Dm_0 {T : Int32} {m : Nat} (hs : ∀ i, bt (nI m) i = true → bt T i = true) : Dm T m = 0 ↔ nI m = T := by
  constructor
  · intro h
    apply b_ext
    intro i hi
    have h1 := Dm_bt T m hi
    rw [h, b_0] at h1
    have h2 := hs i
    cases h3 : bt (nI m) i
    · rw [h3] at h1
      cases h4 : bt T i
      · rfl
      · rw [h4] at h1; cases h1
    · exact (h2 h3).symm
  · intro h
    apply b_ext
    intro i hi
    rw [Dm_bt _ _ hi, b_0, h]
    cases bt T i <;> rfl
theorem UL_un {d : PA} {l g : Nat} (hl7 : l < 7) (hl : d l = -4 ∨ rng 10 (d l)) : UL d l g ↔ (d l < 0 ∨ ¬ d l = d g) := by
  unfold UL
  rcases hl with e | ⟨a, ha, e⟩
  · refine ⟨fun _ => Or.inl (by rw [e]; decide), fun _ => ?_⟩
    rw [e]
    rcases Classical.em (d g = -4) with z | z
    · exact Or.inr (Or.inl z)
    · exact Or.inr (Or.inr z)
  · have hn : ¬ d l < 0 := by rw [e]; exact nI_pos (by omega)
    refine ⟨fun z => ?_, fun z => ?_⟩
    · rcases z with z | z | z
      · omega
      · refine Or.inr (fun y => hn ?_)
        rw [y, z]; decide
      · exact Or.inr (fun y => z y.symm)
    · rcases z with z | z
      · exact absurd z hn
      · exact Or.inr (Or.inr (fun y => z y.symm))
theorem nd_o6 {s : InnS} {N j : Nat} (hG : GS s) (hN : iN s = nI N) (hN9 : N ≤ 999) (hj : j < 7) : ndS s (nI j) = -4 ∨ rng 10 (ndS s (nI j)) := by
  unfold ndS
  split
  · unfold dmS
    rw [show ix (nI j) = j from nI_clamp (by omega), hN, nI_1]
    exact dream_ok (by omega) (hG.1 j hj).1 (hG.1 j hj).2.1 (hG.1 j hj).2.2
  · exact Or.inl rfl
abbrev drW (s : InnS) (q : Pm) (t : Tm) (dr ce : PA) : List sc := modX s (qH q) (qK q) (qF q) (qS q) (qM q) (qR q) (qI q) (qB q) (tSy t) (tMr t) (tTh t) (tRd t) (tPl t) (tBd t) (tSt t) (tPi t) (tLo t) (tTo t) (tKe t) (tP0 t) (tTk t) (tKi t) dr ce (tGa t) (tSd t) (tBt t)
def tsD (t : Tm) (dr ce : PA) : Tm := (tSy t, tMr t, tTh t, tRd t, tPl t, tBd t, tSt t, tPi t, tLo t, tTo t, tKe t, tP0 t, tTk t, tKi t, dr, ce, tGa t, tSd t, tBt t)
theorem rng_Dm {T : Int32} (hT : rng 128 T) (m : Nat) : rng 128 (Dm T m) := rng_and hT _
theorem e1023 : (1023 : Int32) = nI 1024 + (-1) := by decide +kernel
theorem lay_end {d : PA} {T : Int32} {G m l : Nat} (hT : rng 128 T) (hG : G < 8) (hTG : ∀ i, G ≤ i → bt T i = false) (hR : RLs T G m l) (hne : ¬ nI m = T) (hall : ∀ g, g < G → ¬ MY d (Dm T m) l g) : ¬ CN d (Dm T m) l := by
  intro h
  rcases (CN_un (rng_Dm hT _)).mp h with h | ⟨g, hg, hb, hu, hcn⟩
  · exact hne ((Dm_0 hR.2.2).mp h)
  · rcases Nat.lt_or_ge g G with z | z
    · exact hall g z ⟨hb, hu, hcn⟩
    · have := (tb_bt _ (by omega)).mp hb
      rw [Dm_bt _ _ (by omega), hTG g z] at this
      cases this
def F_X6_laySeats : Fn := fun as w K => ∃ (s : InnS) (q : Pm) (t : Tm) (N G : Nat) (d : PA), as = [sR 0] ∧ w = modW s q t ∧ IV s N ∧ iG s = nI G ∧ G < 8 ∧ (∀ i, G ≤ i → bt (iT s) i = false) ∧ (∀ j, ndS s (nI j) = d j) ∧ ∀ dr ce, (∀ g, g < G → dr g = d g) → CEp d (iT s) G ce 0 → K none (drW s q t dr ce)
def ctb_X6_laySeats : List (Nat × (List sv → List sc → (List sv → List sc → Prop) → Prop)) := [(17, cS (some 4) 2 F_X6_dreamsNext), (93, cS none 2 F_X6_hasBit), (103, cS (some 4) 3 F_X6_isUnlike)]
theorem cok_X6_laySeats : CallOK cX6_laySeats 7 none RX6 3 ctb_X6_laySeats := CallOK_cons (site_same (rnV (pX6_laySeats_ok 17 _ rfl) ct_X6_dreamsNext kX6_dreamsNext lRX6_238 (by decide))) (CallOK_cons (site_same (rnS (pX6_laySeats_ok 93 _ rfl) ct_X6_hasBit kX6_hasBit lRX6_105 (by decide))) (CallOK_cons (site_same (rnV (pX6_laySeats_ok 103 _ rfl) ct_X6_isUnlike kX6_isUnlike lRX6_249 (by decide))) (CallOK_nil)))
theorem ct_X6_laySeats : Ct yX6_laySeats cX6_laySeats 7 none 3 F_X6_laySeats := by
  intro l D σ cA sz as w K h
  obtain ⟨s, q, t, N, G, d, rfl, rfl, ⟨hZ, hG, hN, hN9, hB⟩, hGG, hG7, hTG, hde, h⟩ := h
  have hf2 : ∀ j, j < 7 → 0 < iF s (ix (nI j)) + 2 := fun j hj => by
    rw [show ix (nI j) = j from nI_clamp (by omega)]
    exact rng_f2 (hG.1 j hj).1
  have hdo : ∀ j, j < 7 → d j = -4 ∨ rng 10 (d j) := fun j hj => by rw [← hde]; exact nd_o6 hG hN hN9 hj
  refine metL (pr := lkB pX6_laySeats) (rk := 0) (ct := ctb_X6_laySeats) (fld := lkB flX6) (cst := lkB csX6) (cstL := lkB clX6) [(2, ([true, true, false, false, false, false, false], fun n lv st w => ∃ (j : Nat) (dr : PA), j ≤ G ∧ n = 30000 + (G - j) ∧ (∀ g, g < j → dr g = d g) ∧ lv = [some (sR 0), some (sI (nI j)), none, none, none, none, none] ∧ st = [] ∧ w = drW s q t dr (tCe t))), (31, ([true, true, false, false, false, false, false], fun n lv st w => ∃ (k : Nat) (dr ce : PA), k ≤ 1024 ∧ n = 20 * k ∧ (∀ g, g < G → dr g = d g) ∧ CEp d (iT s) G ce k ∧ lv = [some (sR 0), some (sI (nI k + (-1))), none, none, none, none, none] ∧ st = [] ∧ w = drW s q t dr ce)), (63, ([true, true, true, true, true, true, false], fun n lv st w => ∃ (m l j : Nat) (can : Int32) (dr ce : PA), m < 128 ∧ l < 8 ∧ j ≤ G ∧ n = 20 * (8 * m + l) + 10 + (G - j) ∧ (∀ g, g < G → dr g = d g) ∧ CEp d (iT s) G ce (8 * m + l + 1) ∧ ((can = 1 ∧ (RLs (iT s) G m l → CN d (Dm (iT s) m) l)) ∨ (can = 0 ∧ ¬ nI m = iT s ∧ (RLs (iT s) G m l → ∀ g, g < j → ¬ MY d (Dm (iT s) m) l g))) ∧ lv = [some (sR 0), some (sI (nI (8 * m + l))), some (sI (nI m)), some (sI (nI l)), some (sI can), some (sI (nI j)), none] ∧ st = [] ∧ w = drW s q t dr ce)), (154, ([true, true, true, true, true, false, false], fun n lv st w => ∃ (m l : Nat) (can : Int32) (dr ce : PA), m < 128 ∧ l < 8 ∧ n = 20 * (8 * m + l) + 5 ∧ (∀ g, g < G → dr g = d g) ∧ CEp d (iT s) G ce (8 * m + l + 1) ∧ (can = 0 ∨ can = 1) ∧ (RLs (iT s) G m l → can = bp (CN d (Dm (iT s) m) l)) ∧ lv = [some (sR 0), some (sI (nI (8 * m + l))), some (sI (nI m)), some (sI (nI l)), some (sI can), none, none] ∧ st = [] ∧ w = drW s q t dr ce))] pX6_laySeats_ok kX6_laySeats.2.2.2.2.2.2.2 fdX6 cdX6 rto0 cok_X6_laySeats (Nat.le_of_ble_eq_true rfl) ?_ ?_ l D σ cA sz
  · refine List.forall_mem_cons.mpr ⟨?_, List.forall_mem_cons.mpr ⟨?_, List.forall_mem_cons.mpr ⟨?_, List.forall_mem_cons.mpr ⟨?_, cut0⟩⟩⟩⟩
    · rintro n lv st w ⟨j, dr, hj, rfl, hd, rfl, rfl, rfl⟩
      conv => whnf
      refine ⟨fun hc => ?_, fun hc => ?_⟩
      · rw [hGG] at hc
        obtain rfl := lp_ge hj (by omega) hc
        conv => whnf
        exact ⟨20 * 1024, by omega, 1024, dr, tCe t, by decide, rfl, hd, fun m l hm hl hR => absurd hR.1 (by omega), by rw [← e1023]; rfl, rfl, rfl⟩
      · rw [hGG] at hc
        have hlt := lp_lt hj (by omega) hc
        have hv : vp_in (nI j) 7 := vp_in_nI (by omega) (by decide)
        conv => whnf
        refine ⟨s, q, tsD t dr (tCe t), nI j, rfl, rfl, hv, hf2 j (by omega), ?_⟩
        rw [hde]
        conv => whnf
        refine ⟨hv, ?_⟩
        rw [show (nI j).toNatClampNeg = j from nI_clamp (by omega)]
        conv => whnf
        refine ⟨30000 + (G - (j + 1)), by omega, j + 1, upd dr j (d j), hlt, rfl, fun g hg => ?_, by rw [← nI_1]; rfl, rfl, rfl⟩
        by_cases e : g = j
        · rw [e, pk_us]
        · rw [pk_un e]; exact hd g (by omega)
    · rintro n lv st w ⟨k, dr, ce, hk, rfl, hd, hce, rfl, rfl, rfl⟩
      cases k with
      | zero =>
        conv => whnf
        refine ⟨fun hc => ?_, fun hc => ?_⟩
        · conv => whnf
          exact h dr ce hd hce
        · exact absurd (by decide) hc
      | succ i =>
        rw [pk_m1]
        conv => whnf
        refine ⟨fun hc => absurd hc (nI_pos (by omega)), fun hc => ?_⟩
        conv => whnf
        refine ⟨by decide, ?_⟩
        conv => whnf
        refine ⟨by decide, ?_⟩
        have e1 : nI i / 8 = nI (i / 8) := pk_div (d := 8) (by omega) (by decide) (by decide)
        have e2 : jrem (nI i) 8 = nI (i % 8) := jrem_nI (d := 8) (by omega) (by decide) (by decide)
        rw [e1, e2]
        have hm : i / 8 < 128 := by omega
        have hl : i % 8 < 8 := Nat.mod_lt _ (by decide)
        have e3 : i = 8 * (i / 8) + i % 8 := by omega
        generalize i / 8 = m at e3 hm ⊢
        generalize i % 8 = l at e3 hl ⊢
        subst e3
        conv => whnf
        refine ⟨fun hc => ?_, fun hc => ?_⟩
        · conv => whnf
          exact ⟨20 * (8 * m + l) + 10 + (G - 0), by omega, m, l, 0, 0, dr, ce, hm, hl, Nat.zero_le _, rfl, hd, hce, Or.inr ⟨rfl, hc, fun _ g hg => absurd hg (by omega)⟩, rfl, rfl, rfl⟩
        · conv => whnf
          exact ⟨20 * (8 * m + l) + 10 + (G - 0), by omega, m, l, 0, 1, dr, ce, hm, hl, Nat.zero_le _, rfl, hd, hce, Or.inl ⟨rfl, fun hR => (CN_un (rng_Dm hB _)).mpr (Or.inl ((Dm_0 hR.2.2).mpr hc))⟩, rfl, rfl, rfl⟩
    · rintro n lv st w ⟨m, l, j, can, dr, ce, hm, hl, hj, rfl, hd, hce, hcan, rfl, rfl, rfl⟩
      have h01 : can = 0 ∨ can = 1 := hcan.elim (fun z => Or.inr z.1) (fun z => Or.inl z.1)
      conv => whnf
      refine ⟨fun hc => ?_, fun hc => ?_⟩
      · rw [hGG] at hc
        obtain rfl := lp_ge hj (by omega) hc
        conv => whnf
        refine ⟨20 * (8 * m + l) + 5, by omega, m, l, can, dr, ce, hm, hl, rfl, hd, hce, h01, fun hR => ?_, rfl, rfl, rfl⟩
        rcases hcan with ⟨z, z1⟩ | ⟨z, z1, z2⟩
        · rw [z, bp_t (z1 hR)]
        · rw [z, bp_f (lay_end hB hG7 hTG hR z1 (z2 hR))]
      rw [hGG] at hc
      have hlt := lp_lt hj (by omega) hc
      conv => whnf
      refine ⟨fun h1 => ?_, fun h1 => ?_⟩
      · conv => whnf
        refine ⟨20 * (8 * m + l) + 5, by omega, m, l, can, dr, ce, hm, hl, rfl, hd, hce, h01, fun hR => ?_, rfl, rfl, rfl⟩
        rcases hcan with ⟨z, z1⟩ | ⟨z, z1, z2⟩
        · rw [z, bp_t (z1 hR)]
        · exact absurd z h1
      obtain ⟨-, hne, hno⟩ := hcan.resolve_left (fun z => by rw [z.1] at h1; exact absurd h1 (by decide))
      clear hcan h01
      conv => whnf
      refine ⟨fun h7 => ?_, fun h7 => ?_⟩
      · have : 7 ≤ l := (nI_leI (by decide) (by omega)).mp (show nI 7 ≤ nI l from h7)
        conv => whnf
        exact ⟨20 * (8 * m + l) + 5, by omega, m, l, can, dr, ce, hm, hl, rfl, hd, hce, Or.inl h1, fun hR => absurd hR.1 (by omega), rfl, rfl, rfl⟩
      have hl7 : l < 7 := Nat.not_le.mp (fun z => h7 (show nI 7 ≤ nI l from nI_le z (by omega)))
      have next0 : (RLs (iT s) G m l → ¬ MY d (Dm (iT s) m) l j) → ∃ n', n' < 20 * (8 * m + l) + 10 + (G - j) ∧ ∃ (m_1 l_1 j_1 : Nat) (can : Int32) (dr_1 ce_1 : PA), m_1 < 128 ∧ l_1 < 8 ∧ j_1 ≤ G ∧ n' = 20 * (8 * m_1 + l_1) + 10 + (G - j_1) ∧ (∀ g, g < G → dr_1 g = d g) ∧ CEp d (iT s) G ce_1 (8 * m_1 + l_1 + 1) ∧ ((can = 1 ∧ (RLs (iT s) G m_1 l_1 → CN d (Dm (iT s) m_1) l_1)) ∨ (can = 0 ∧ ¬ nI m_1 = iT s ∧ (RLs (iT s) G m_1 l_1 → ∀ g, g < j_1 → ¬ MY d (Dm (iT s) m_1) l_1 g))) ∧ [some (sR 0), some (sI (nI (8 * m + l))), some (sI (nI m)), some (sI (nI l)), some (sI 0), some (sI (nI j + 1)), none] = [some (sR 0), some (sI (nI (8 * m_1 + l_1))), some (sI (nI m_1)), some (sI (nI l_1)), some (sI can), some (sI (nI j_1)), none] ∧ ([] : List sv) = [] ∧ drW s q t dr ce = drW s q t dr_1 ce_1 :=
        fun hn => ⟨20 * (8 * m + l) + 10 + (G - (j + 1)), by omega, m, l, j + 1, 0, dr, ce, hm, hl, hlt, rfl, hd, hce, Or.inr ⟨rfl, hne, fun hR g hg => by
          rcases Nat.lt_or_ge g j with z | z
          · exact hno hR g z
          · have : g = j := by omega
            rw [this]; exact hn hR⟩, by rw [nI_1], rfl, rfl⟩
      conv => whnf
      refine ⟨fun hb => ?_, fun hb => ?_⟩
      · have hb : ¬ tb (Dm (iT s) m) (nI j) := bp_0.mp hb
        conv => whnf
        refine ⟨fun _ => ?_, fun z => absurd rfl z⟩
        conv => whnf
        exact next0 (fun _ z => hb z.1)
      have hb : tb (Dm (iT s) m) (nI j) := bp_n hb
      conv => whnf
      refine ⟨s, q, tsD t dr ce, l, j, rfl, rfl, hl7, by omega, ?_⟩
      conv => whnf
      have hul : RLs (iT s) G m l → ((tDr (tsD t dr ce) l < 0 ∨ ¬ tDr (tsD t dr ce) l = tDr (tsD t dr ce) j) ↔ UL d l j) := fun hR => by
        show (dr l < 0 ∨ ¬ dr l = dr j) ↔ _
        rw [hd l hR.1, hd j hlt]
        exact (UL_un hl7 (hdo l hl7)).symm
      refine ⟨fun hu => ?_, fun hu => ?_⟩
      · conv => whnf
        refine ⟨fun _ => ?_, fun z => absurd rfl z⟩
        conv => whnf
        exact next0 (fun hR z => bp_0.mp hu ((hul hR).mpr z.2.1))
      have hu := bp_n hu
      conv => whnf
      refine ⟨fun z => absurd z (by decide), fun _ => ?_⟩
      conv => whnf
      obtain ⟨o1, o2, -⟩ := orB_0 ⟨m, hm⟩ ⟨j, by omega⟩
      dsimp only at o1 o2
      have eo : 8 * (nI m ||| jshl 1 (nI j)) + nI j = nI (8 * orB m j + j) := by
        rw [o1, show (8 : Int32) = nI 8 by decide, pk_mul, nI_add]
      rw [eo]
      refine ⟨vp_in_nI (by omega) (by decide), ?_⟩
      rw [show (nI (8 * orB m j + j)).toNatClampNeg = 8 * orB m j + j from nI_clamp (by omega)]
      have hcv : RLs (iT s) G m l → tCe (tsD t dr ce) (8 * orB m j + j) = bp (CN d (rmB (Dm (iT s) m) j) j) := fun hR => by
        obtain ⟨r1, r2⟩ := RL_or hm hlt hG7 hb hR.2.2
        rw [← Dm_or hm (by omega)]
        exact hce _ _ o2 (by omega) r1
      conv => whnf
      refine ⟨fun hz => ?_, fun hz => ?_⟩
      · conv => whnf
        exact next0 (fun hR z => bp_0.mp ((hcv hR).symm.trans hz) z.2.2)
      · conv => whnf
        refine ⟨20 * (8 * m + l) + 10 + (G - (j + 1)), by omega, m, l, j + 1, 1, dr, ce, hm, hl, hlt, rfl, hd, hce, Or.inl ⟨rfl, fun hR => ?_⟩, by rw [← nI_1]; rfl, rfl, rfl⟩
        exact (CN_un (rng_Dm hB _)).mpr (Or.inr ⟨j, by omega, hb, (hul hR).mp hu, bp_n (fun z => hz ((hcv hR).trans z))⟩)
    · rintro n lv st w ⟨m, l, can, dr, ce, hm, hl, rfl, hd, hce, h01, hcn, rfl, rfl, rfl⟩
      conv => whnf
      refine ⟨vp_in_nI (by omega) (by decide), ?_⟩
      rw [show (nI (8 * m + l)).toNatClampNeg = 8 * m + l from nI_clamp (by omega)]
      conv => whnf
      refine ⟨h01, ?_⟩
      conv => whnf
      refine ⟨20 * (8 * m + l), by omega, 8 * m + l, dr, upd ce (8 * m + l) can, by omega, rfl, hd, fun m' l' hm' hl' hR => ?_, rfl, rfl, rfl⟩
      by_cases e : 8 * m' + l' = 8 * m + l
      · have hl8 : l' < 8 := by have := hR.1; omega
        have em : m' = m := by omega
        have el : l' = l := by omega
        subst em; subst el
        rw [pk_us]; exact hcn hR
      · rw [pk_un e]; exact hce m' l' hm' (by omega) hR
  · skip
    repeat' ((conv => whnf); (first | refine And.intro (by first | decide | with_reducible assumption) ?_ | with_reducible refine And.intro (fun hc => ?_) (fun hc => ?_) | with_reducible refine And.intro (fun hc => ?_) ?_ | fail))
    all_goals try (conv => whnf)
    exact ⟨30000 + (G - 0), 0, tDr t, Nat.zero_le _, rfl, lt_0, rfl, rfl, rfl⟩
