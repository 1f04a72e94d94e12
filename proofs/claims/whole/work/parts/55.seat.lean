/-! ===== seats: who can sit ===== -/
def UL (d : Nat → Int32) (l g : Nat) : Prop := l = 7 ∨ d g = -4 ∨ ¬ d g = d l
def rmB (x : Int32) (g : Nat) : Int32 := x &&& mkB (nI g)
def cn (d : Nat → Int32) : Nat → Int32 → Nat → Prop
  | 0, x, _ => x = 0
  | f + 1, x, l => x = 0 ∨ ∃ g, g < 7 ∧ tb x (nI g) ∧ UL d l g ∧ cn d f (rmB x g) g
def CN (d : Nat → Int32) (x : Int32) (l : Nat) : Prop := cn d 7 x l
def pc (x : Int32) : Nat := popc (ix x)
theorem pc_rm0 : ∀ a : Fin 128, ∀ g : Fin 7, (jshr (nI a.val) (nI g.val) &&& 1) = 0 ∨ popc (ix (nI a.val &&& (jshl 1 (nI g.val) ^^^ (-1)))) + 1 = popc a.val := by decide +kernel
theorem rng_rm {x : Int32} {g : Nat} (h : rng 128 x) : rng 128 (rmB x g) := rng_and h _
theorem pc_rm {x : Int32} {g : Nat} (h : rng 128 x) (hg : g < 7) (hb : tb x (nI g)) : pc (rmB x g) + 1 = pc x := by
  obtain ⟨a, ha, rfl⟩ := h
  have := (pc_rm0 ⟨a, ha⟩ ⟨g, hg⟩).resolve_left hb
  unfold pc rmB mkB
  rw [this, show ix (nI a) = a from nI_clamp (by omega)]
theorem pc_0 {x : Int32} (h : rng 128 x) (h0 : pc x = 0) : x = 0 := by
  obtain ⟨a, ha, rfl⟩ := h
  unfold pc at h0
  rw [show ix (nI a) = a from nI_clamp (by omega)] at h0
  have : a = 0 := (by decide +kernel : ∀ a : Fin 128, popc a.val = 0 → a.val = 0) ⟨a, ha⟩ h0
  rw [this]; rfl
theorem pc_z : pc 0 = 0 := by decide
theorem pc_7 {x : Int32} (h : rng 128 x) : pc x ≤ 7 := by
  obtain ⟨a, ha, rfl⟩ := h
  unfold pc
  rw [show ix (nI a) = a from nI_clamp (by omega)]
  exact (by decide +kernel : ∀ a : Fin 128, popc a.val ≤ 7) ⟨a, ha⟩
theorem cn_st (d : Nat → Int32) : ∀ (f : Nat) (x : Int32) (l : Nat), rng 128 x → pc x ≤ f → (cn d f x l ↔ cn d (f + 1) x l)
  | 0, x, l, hx, hp => by
    have := pc_0 hx (by omega)
    exact ⟨fun _ => Or.inl this, fun _ => this⟩
  | f + 1, x, l, hx, hp => by
    have key : ∀ g, g < 7 → tb x (nI g) → (cn d f (rmB x g) g ↔ cn d (f + 1) (rmB x g) g) := fun g hg hb => cn_st d f _ _ (rng_rm hx) (by have := pc_rm hx hg hb; omega)
    constructor
    · rintro (h | ⟨g, hg, hb, hu, h⟩)
      · exact Or.inl h
      · exact Or.inr ⟨g, hg, hb, hu, (key g hg hb).mp h⟩
    · rintro (h | ⟨g, hg, hb, hu, h⟩)
      · exact Or.inl h
      · exact Or.inr ⟨g, hg, hb, hu, (key g hg hb).mpr h⟩
theorem CN_un {d : Nat → Int32} {x : Int32} {l : Nat} (hx : rng 128 x) : CN d x l ↔ (x = 0 ∨ ∃ g, g < 7 ∧ tb x (nI g) ∧ UL d l g ∧ CN d (rmB x g) g) := by
  have key : ∀ g, g < 7 → tb x (nI g) → (cn d 6 (rmB x g) g ↔ cn d 7 (rmB x g) g) := fun g hg hb => cn_st d 6 _ _ (rng_rm hx) (by have := pc_rm hx hg hb; have := pc_7 hx; omega)
  constructor
  · rintro (h | ⟨g, hg, hb, hu, h⟩)
    · exact Or.inl h
    · exact Or.inr ⟨g, hg, hb, hu, (key g hg hb).mp h⟩
  · rintro (h | ⟨g, hg, hb, hu, h⟩)
    · exact Or.inl h
    · exact Or.inr ⟨g, hg, hb, hu, (key g hg hb).mpr h⟩
/-- who may sit next -/
def MY (d : Nat → Int32) (x : Int32) (l g : Nat) : Prop := tb x (nI g) ∧ UL d l g ∧ CN d (rmB x g) g
noncomputable def gn (d : Nat → Int32) (x : Int32) (l : Nat) : Nat := fst (MY d x l) 7
noncomputable def sq (d : Nat → Int32) : Int32 → Nat → Nat → Nat
  | x, l, 0 => gn d x l
  | x, l, j + 1 => sq d (rmB x (gn d x l)) (gn d x l) j
noncomputable def stR (s : InnS) (i : Int32) : Int32 := @ite _ (i < 0) (Classical.propDecidable _) (-1) (@ite _ (CN (fun g => ndS s (nI g)) (iT s) 7 ∧ i < pop (iT s)) (Classical.propDecidable _) (nI (sq (fun g => ndS s (nI g)) (iT s) 7 (ix i))) (-4))
def stW (dr od : PA) : List sc := [oC 1 [sR 1, sR 2], aI 7 dr, aI 7 od]
def F_X2_fits : Fn := fun as w K => ∃ (dr od : PA) (at_ l g : Nat), as = [sR 0, sI (nI at_), sI (nI g)] ∧ w = stW dr od ∧ at_ < 7 ∧ g < 7 ∧ ((at_ = 0 ∧ l = 7) ∨ (0 < at_ ∧ l < 7 ∧ od (at_ - 1) = nI l)) ∧ K (some (.inl (bp (UL dr l g)))) w
def ctb_X2_fits : List (Nat × (List sv → List sc → (List sv → List sc → Prop) → Prop)) := []
theorem cok_X2_fits : CallOK cX2_fits 3 (some .boolean) RX2 1 ctb_X2_fits := CallOK_nil
theorem ct_X2_fits : Ct yX2_fits cX2_fits 3 (some .boolean) 1 F_X2_fits := by
  intro l D σ cA sz as w K h
  obtain ⟨dr, od, at_, l', g, rfl, rfl, ha, hg, hl, h⟩ := h
  have hvg : vp_in (nI g) 7 := vp_in_nI hg (by decide)
  have eg : (nI g).toNatClampNeg = g := nI_clamp (by omega)
  refine metL (pr := lkB pX2_fits) (rk := 2) (ct := ctb_X2_fits) (fld := lkB flX2) (cst := lkB csX2) (cstL := lkB clX2) [] pX2_fits_ok kX2_fits.2.2.2.2.2.2.2 fdX2 cdX2 rto2 cok_X2_fits (Nat.le_of_ble_eq_true rfl) cut0 ?_ l D σ cA sz
  conv => whnf
  refine ⟨fun hc => ?_, fun hc => ?_⟩
  · have h0 : at_ = 0 := (nI_eq (by omega) (by decide)).mp (show nI at_ = nI 0 from hc)
    conv => whnf
    exact kB h (Or.inl (hl.resolve_right (fun z => by omega)).2)
  · have h0 : ¬ at_ = 0 := fun z => hc (by rw [z]; rfl)
    obtain ⟨hp, hl7, hod⟩ := hl.resolve_left (fun z => h0 z.1)
    conv => whnf
    refine ⟨hvg, ?_⟩
    rw [eg]
    conv => whnf
    refine ⟨fun h4 => ?_, fun h4 => ?_⟩
    · conv => whnf
      exact kB h (Or.inr (Or.inl h4))
    · have e1 : nI at_ - 1 = nI (at_ - 1) := by
        obtain ⟨b, rfl⟩ : ∃ b, at_ = b + 1 := ⟨at_ - 1, by omega⟩
        rw [nI_pred]; rfl
      have e2 : (nI (at_ - 1)).toNatClampNeg = at_ - 1 := nI_clamp (by omega)
      conv => whnf
      refine ⟨hvg, ?_⟩
      rw [eg]
      conv => whnf
      rw [e1]
      refine ⟨vp_in_nI (by omega) (by decide), ?_⟩
      rw [e2, hod]
      conv => whnf
      refine ⟨vp_in_nI hl7 (by decide), ?_⟩
      rw [show (nI l').toNatClampNeg = l' from nI_clamp (by omega)]
      conv => whnf
      refine ⟨fun h5 => ?_, fun h5 => ?_⟩
      · conv => whnf
        exact kB0 h (fun z => by rcases z with z | z | z
                                 · omega
                                 · exact h4 z
                                 · exact z h5)
      · conv => whnf
        exact kB h (Or.inr (Or.inr h5))
def F_sr (n : Nat) : Fn := fun as w K => ∃ (d dr od : PA) (at_ l : Nat) (x : Int32), as = [sR 0, sI (nI at_), sI x] ∧ w = stW dr od ∧ rng 128 x ∧ pc x < n ∧ at_ + pc x ≤ 7 ∧ ((at_ = 0 ∧ l = 7) ∨ (0 < at_ ∧ l < 7 ∧ od (at_ - 1) = nI l)) ∧ (∀ g, g < 7 → tb x (nI g) → dr g = d g) ∧ (l < 7 → dr l = d l) ∧
  ∀ od', (∀ i, i < at_ → od' i = od i) → (CN d x l → ∀ j, j < pc x → od' (at_ + j) = nI (sq d x l j)) → K (some (.inl (bp (CN d x l)))) (stW dr od')
def ctb_sr (n : Nat) : List (Nat × (List sv → List sc → (List sv → List sc → Prop) → Prop)) := [(39, cS (some 1) 3 F_X2_fits), (63, cS (some 1) 3 (F_sr n))]
theorem cok_sr {n d : Nat} (h : Ct yX2_seatRest cX2_seatRest 4 (some .boolean) d (F_sr n)) (hd : 0 < d) : CallOK cX2_seatRest 4 (some .boolean) RX2 (d + 1) (ctb_sr n) :=
  CallOK_cons (site_same (rnV (pX2_seatRest_ok 39 _ rfl) ct_X2_fits kX2_fits lRX2_40 (by omega))) (CallOK_cons (site_same (rnV (pX2_seatRest_ok 63 _ rfl) h kX2_seatRest lRX2_36 (by omega))) CallOK_nil)
theorem tb_0 (g : Nat) (hg : g < 32) : ¬ tb 0 (nI g) := fun h => by
  have := (tb_bt 0 hg).mp h
  rw [b_0] at this; cases this
theorem tb_rm {x : Int32} {g o : Nat} (hg : g < 32) (ho : o < 32) (h : tb (rmB x g) (nI o)) : tb x (nI o) := by
  rw [tb_bt _ ho] at h ⊢
  rw [rmB, b_and] at h
  exact (Bool.and_eq_true _ _ ▸ h).1
theorem UL_eq {d dr : PA} {l g : Nat} (hg : dr g = d g) (hl : l < 7 → dr l = d l) (hl7 : l = 7 ∨ l < 7) : UL dr l g ↔ UL d l g := by
  unfold UL
  rcases hl7 with e | e
  · simp [e]
  · rw [hg, hl e]
theorem sr_step {d : Nat} (hd : 0 < d) (n : Nat) (ih : Ct yX2_seatRest cX2_seatRest 4 (some .boolean) d (F_sr n)) : Ct yX2_seatRest cX2_seatRest 4 (some .boolean) (d + 1) (F_sr (n + 1)) := by
  intro l D σ cA sz as w K h
  obtain ⟨dd, dr, od, at_, la, x, rfl, rfl, hx, hpn, hp7, hl, hdr, hdl, h⟩ := h
  have hl7 : la = 7 ∨ la < 7 := by rcases hl with z | z <;> omega
  refine metL (pr := lkB pX2_seatRest) (rk := 2) (ct := ctb_sr n) (fld := lkB flX2) (cst := lkB csX2) (cstL := lkB clX2) [(22, ([true, true, true, true], fun y lv st w => ∃ (g : Nat) (od1 : PA), g ≤ 7 ∧ y = 7 - g ∧ ¬ x = 0 ∧ (∀ i, i < at_ → od1 i = od i) ∧ (∀ i, i < g → ¬ MY dd x la i) ∧ lv = [some (sR 0), some (sI (nI at_)), some (sI x), some (sI (nI g))] ∧ st = [] ∧ w = stW dr od1))] pX2_seatRest_ok kX2_seatRest.2.2.2.2.2.2.2 fdX2 cdX2 rto2 (cok_sr ih hd) (Nat.le_of_ble_eq_true rfl) ?_ ?_ l D σ cA sz
  · refine List.forall_mem_cons.mpr ⟨?_, cut0⟩
    rintro y lv st w ⟨g, od1, hg, rfl, hx0, hod, hall, rfl, rfl, rfl⟩
    have hpx : 0 < pc x := Nat.pos_of_ne_zero (fun z => hx0 (pc_0 hx z))
    conv => whnf
    refine ⟨fun hc => ?_, fun hc => ?_⟩
    · obtain rfl := lp_ge hg (by decide) hc
      have hno : ¬ CN dd x la := fun z => by
        rcases (CN_un hx).mp z with z | ⟨g, hg, hb, hu, hcn⟩
        · exact hx0 z
        · exact hall g hg ⟨hb, hu, hcn⟩
      conv => whnf
      exact kB0 (h od1 hod (fun z => absurd z hno)) hno
    · have hlt := lp_lt hg (by decide) hc
      have next : ∀ od2 : PA, (∀ i, i < at_ → od2 i = od i) → ¬ MY dd x la g → ∃ n', n' < 7 - g ∧ ∃ (g_1 : Nat) (od1 : PA), g_1 ≤ 7 ∧ n' = 7 - g_1 ∧ ¬ x = 0 ∧ (∀ i, i < at_ → od1 i = od i) ∧ (∀ i, i < g_1 → ¬ MY dd x la i) ∧ [some (sR 0), some (sI (nI at_)), some (sI x), some (sI (nI g + 1))] = [some (sR 0), some (sI (nI at_)), some (sI x), some (sI (nI g_1))] ∧ ([] : List sv) = [] ∧ stW dr od2 = stW dr od1 :=
        fun od2 ho2 hn => ⟨7 - (g + 1), by omega, g + 1, od2, hlt, rfl, hx0, ho2, lt_s hall hn, by rw [nI_1], rfl, rfl⟩
      conv => whnf
      refine ⟨fun hb => ?_, fun hb => ?_⟩
      · conv => whnf
        exact next od1 hod (fun z => z.1 hb)
      · have hb : tb x (nI g) := hb
        conv => whnf
        have hl1 : (at_ = 0 ∧ la = 7) ∨ (0 < at_ ∧ la < 7 ∧ od1 (at_ - 1) = nI la) := by
          rcases hl with z | ⟨z1, z2, z3⟩
          · exact Or.inl z
          · exact Or.inr ⟨z1, z2, by rw [hod _ (by omega)]; exact z3⟩
        refine ⟨dr, od1, at_, la, g, rfl, rfl, by omega, hlt, hl1, ?_⟩
        rw [bp_iff (UL_eq (hdr g hlt hb) hdl hl7)]
        conv => whnf
        refine ⟨fun hu => ?_, fun hu => ?_⟩
        · conv => whnf
          exact next od1 hod (fun z => bp_0.mp hu z.2.1)
        · have hu := bp_n hu
          have hpr := pc_rm hx hlt hb
          have ea : (nI at_).toNatClampNeg = at_ := nI_clamp (by omega)
          conv => whnf
          refine ⟨vp_in_nI (by omega) (by decide), ?_⟩
          rw [ea]
          conv => whnf
          rw [nI_1]
          refine ⟨dd, dr, upd od1 at_ (nI g), at_ + 1, g, rmB x g, rfl, rfl, rng_rm hx, by omega, by omega, Or.inr ⟨by omega, hlt, by rw [Nat.add_sub_cancel, pk_us]⟩, fun o ho hbo => hdr o ho (tb_rm (by omega) (by omega) hbo), fun _ => hdr g hlt hb, fun od2 ho2 hsq => ?_⟩
          have hod2 : ∀ i, i < at_ → od2 i = od i := fun i hi => by rw [ho2 i (by omega), pk_un (by omega), hod i hi]
          conv => whnf
          refine ⟨fun hcn => ?_, fun hcn => ?_⟩
          · conv => whnf
            exact next od2 hod2 (fun z => bp_0.mp hcn z.2.2)
          · have hcn := bp_n hcn
            have hmy : MY dd x la g := ⟨hb, hu, hcn⟩
            have hgn : gn dd x la = g := fst_some hmy hall hlt
            have hC : CN dd x la := (CN_un hx).mpr (Or.inr ⟨g, hlt, hb, hu, hcn⟩)
            conv => whnf
            refine kB (h od2 hod2 (fun _ j hj => ?_)) hC
            cases j with
            | zero =>
              show od2 (at_ + 0) = nI (gn dd x la)
              rw [hgn, Nat.add_zero, ho2 at_ (by omega), pk_us]
            | succ j =>
              show od2 (at_ + (j + 1)) = nI (sq dd (rmB x (gn dd x la)) (gn dd x la) j)
              rw [hgn, show at_ + (j + 1) = at_ + 1 + j by omega]
              exact hsq hcn j (by omega)
  · conv => whnf
    refine ⟨fun hc => ?_, fun hc => ?_⟩
    · have hC : CN dd x la := (CN_un hx).mpr (Or.inl hc)
      have hp0 : pc x = 0 := by rw [hc]; exact pc_z
      conv => whnf
      refine ⟨fun z => absurd hc z, fun _ => ?_⟩
      conv => whnf
      exact kB (h od (fun _ _ => rfl) (fun _ j hj => by omega)) hC
    · have hpx : 0 < pc x := Nat.pos_of_ne_zero (fun z => hc (pc_0 hx z))
      conv => whnf
      refine ⟨fun _ => ?_, fun z => absurd (show nI at_ < nI 7 from nI_lt (by omega) (by decide)) z⟩
      conv => whnf
      exact ⟨7, 0, od, by decide, rfl, hc, fun _ _ => rfl, lt_0, rfl, rfl, rfl⟩
theorem sr_all : ∀ n, Ct yX2_seatRest cX2_seatRest 4 (some .boolean) (12 + n) (F_sr n)
  | 0 => fun l D σ cA sz as w K h => by
    obtain ⟨dd, dr, od, at_, la, x, -, -, -, h0, -⟩ := h
    exact absurd h0 (Nat.not_lt_zero _)
  | n + 1 => sr_step (d := 12 + n) (by omega) n (sr_all n)
def F_X2_seatRest : Fn := F_sr 8
theorem ct_X2_seatRest : Ct yX2_seatRest cX2_seatRest 4 (some .boolean) 20 F_X2_seatRest := sr_all 8
def innB3 (s : InnS) : List sc := [oC 0 [sR 4, sR 5, sR 6, sR 7, sR 8, sR 9, sI (iG s), sI (iT s), sI (iN s), sI (iS s), sI (iA s), sI (iSn s), sI (iLn s)], aI 7 (iK s), aI 7 (iF s), aI 7 (iW s), aI 7 (iL s), aI 7 (iH s), aI 10 (iP s)]
def F_X2_seat : Fn := fun as w K => ∃ (s : InnS) (N : Nat) (dr od : PA) (i : Int32), as = [sR 0, sR 3, sI i] ∧ w = stW dr od ++ innB3 s ∧ IV s N ∧ TG s ∧ ¬ i < 0 ∧ ∀ dr' od', K (some (.inl (stR s i))) (stW dr' od' ++ innB3 s)
theorem pop_lt {x : Int32} (hx : rng 128 x) {i : Nat} (hi : i < 2 ^ 31) : nI i < pop x ↔ i < pc x := by
  have := pc_7 hx
  exact nI_ltI hi (by show pc x < _; omega)
def ctb_X2_seat : List (Nat × (List sv → List sc → (List sv → List sc → Prop) → Prop)) := [(5, cS none 1 F_J6_bitCount_0f7a4), (31, cG [3, 4, 5, 6, 7, 8, 9] (some 0) 2 F_X0_nextDream), (47, cG [0, 1, 2] (some 1) 3 F_X2_seatRest)]
theorem cok_X2_seat : CallOK cX2_seat 4 (some .int) RX2 21 ctb_X2_seat := CallOK_cons (site_same (rnS (pX2_seat_ok 5 _ rfl) ct_J6_bitCount_0f7a4 kJ6_bitCount_0f7a4 lRX2_24 (by decide))) (CallOK_cons (site_gen [3, 4, 5, 6, 7, 8, 9] (by decide) (rnV (pX2_seat_ok 31 _ rfl) ct_X0_nextDream kX0_nextDream lRX2_33 (by decide))) (CallOK_cons (site_gen [0, 1, 2] (by decide) (rnV (pX2_seat_ok 47 _ rfl) ct_X2_seatRest kX2_seatRest lRX2_36 (by decide))) (CallOK_nil)))
theorem ct_X2_seat : Ct yX2_seat cX2_seat 4 (some .int) 21 F_X2_seat := by
  intro l D σ cA sz as w K h
  obtain ⟨s, N, dr, od, i, rfl, rfl, ⟨hZ, hG, hN, hN9, hB⟩, hTG, hi, h⟩ := h
  obtain ⟨G, hG7, hGG⟩ := hG.2.1
  have eG : ix (iG s) = G := by rw [hGG]; exact nI_clamp (by omega)
  unfold TG at hTG
  rw [eG] at hTG
  have hf2 : ∀ j, j < 7 → 0 < iF s (ix (nI j)) + 2 := fun j hj => by
    rw [show ix (nI j) = j from nI_clamp (by omega)]
    exact rng_f2 (hG.1 j hj).1
  have hr : stR s i = @ite _ (CN (fun g => ndS s (nI g)) (iT s) 7 ∧ i < pop (iT s)) (Classical.propDecidable _) (nI (sq (fun g => ndS s (nI g)) (iT s) 7 (ix i))) (-4) := by
    unfold stR
    rw [if_neg hi]
  have hde : ∀ j, ndS s (nI j) = (fun g => ndS s (nI g)) j := fun j => rfl
  generalize (fun g => ndS s (nI g)) = d at hr hde
  refine metL (pr := lkB pX2_seat) (rk := 1) (ct := ctb_X2_seat) (fld := lkB flX2) (cst := lkB csX2) (cstL := lkB clX2) [(16, ([true, true, true, true], fun n lv st w => ∃ (j : Nat) (dr1 : PA), j ≤ G ∧ n = G - j ∧ i < pop (iT s) ∧ (∀ g, g < j → dr1 g = d g) ∧ lv = [some (sR 0), some (sR 3), some (sI i), some (sI (nI j))] ∧ st = [] ∧ w = stW dr1 od ++ innB3 s))] pX2_seat_ok kX2_seat.2.2.2.2.2.2.2 fdX2 cdX2 rto1 cok_X2_seat (Nat.le_of_ble_eq_true rfl) ?_ ?_ l D σ cA sz
  · refine List.forall_mem_cons.mpr ⟨?_, cut0⟩
    rintro n lv st w ⟨j, dr1, hj, rfl, hip, hd, rfl, rfl, rfl⟩
    conv => whnf
    refine ⟨fun hc => ?_, fun hc => ?_⟩
    · rw [hGG] at hc
      obtain rfl := lp_ge hj (by omega) hc
      obtain ⟨i', hi', ei⟩ := nI_of hi
      have hip' : i' < pc (iT s) := (pop_lt hB hi').mp (ei ▸ hip)
      have hp7 := pc_7 hB
      have eix : ix i = i' := by rw [ei]; exact nI_clamp hi'
      have eix' : i.toNatClampNeg = i' := eix
      conv => whnf
      refine ⟨d, dr1, od, 0, 7, iT s, rfl, rfl, hB, by omega, by omega, Or.inl ⟨rfl, rfl⟩, fun g hg hb => ?_, fun z => absurd z (by decide), fun od' _ hsq => ?_⟩
      · refine hd g (Nat.not_le.mp (fun z => ?_))
        have := (tb_bt _ (by omega)).mp hb
        rw [hTG g z] at this; cases this
      conv => whnf
      refine ⟨fun hcn => ?_, fun hcn => ?_⟩
      · conv => whnf
        exact kI (h dr1 od') (by rw [hr, if_neg (fun z => bp_0.mp hcn z.1)])
      · have hcn := bp_n hcn
        conv => whnf
        refine ⟨by rw [ei]; exact vp_in_nI (by omega) (by decide), ?_⟩
        conv => whnf
        refine kI (h dr1 od') ?_
        rw [hr, if_pos ⟨hcn, hip⟩, eix, eix', ← hsq hcn i' hip', Nat.zero_add]
    · rw [hGG] at hc
      have hlt := lp_lt hj (by omega) hc
      conv => whnf
      refine ⟨s, nI j, rfl, rfl, vp_in_nI (by omega) (by decide), hf2 j (by omega), ?_⟩
      rw [hde]
      conv => whnf
      refine ⟨vp_in_nI (by omega) (by decide), ?_⟩
      rw [show (nI j).toNatClampNeg = j from nI_clamp (by omega)]
      conv => whnf
      refine ⟨G - (j + 1), by omega, j + 1, upd dr1 j (d j), hlt, rfl, hip, fun g hg => ?_, by rw [← nI_1]; rfl, rfl, rfl⟩
      by_cases e : g = j
      · rw [e, pk_us]
      · rw [pk_un e]; exact hd g (by omega)
  · conv => whnf
    refine ⟨hB, ?_⟩
    conv => whnf
    refine ⟨fun hc => ?_, fun hc => ?_⟩
    · conv => whnf
      exact ⟨G, 0, dr, Nat.zero_le _, rfl, hc, lt_0, rfl, rfl, rfl⟩
    · conv => whnf
      exact kI (h dr od) (by rw [hr, if_neg (fun z => hc z.2)])
/-- the object, the inn as it is, the seating -/
def x5W (r1 r2 r3 r5 : sv) (hi : Int32) (s : InnS) (dr od : PA) : List sc := oC 3 [sR 1, r1, r2, sI hi, r3, sR 8, r5] :: (innB1 s ++ [oC 1 [sR 9, sR 10], aI 7 dr, aI 7 od])
def F_X5_seats : Fn := fun as w K => ∃ (r1 r2 r3 r5 : sv) (hi : Int32) (s : InnS) (N : Nat) (dr od : PA) (i : Int32), as = [sR 0, sI i] ∧ w = x5W r1 r2 r3 r5 hi s dr od ∧ IV s N ∧ TG s ∧ ∀ dr' od', K (some (.inl (stR s i))) (x5W r1 r2 r3 r5 hi s dr' od')
def ctb_X5_seats : List (Nat × (List sv → List sc → (List sv → List sc → Prop) → Prop)) := [(15, cG [8, 9, 10, 1, 2, 3, 4, 5, 6, 7] (some 1) 3 F_X2_seat)]
theorem cok_X5_seats : CallOK cX5_seats 2 (some .int) RX5 22 ctb_X5_seats := CallOK_cons (site_gen [8, 9, 10, 1, 2, 3, 4, 5, 6, 7] (by decide) (rnV (pX5_seats_ok 15 _ rfl) ct_X2_seat kX2_seat lRX5_189 (by decide))) (CallOK_nil)
theorem ct_X5_seats : Ct yX5_seats cX5_seats 2 (some .int) 22 F_X5_seats := by
  intro l D σ cA sz as w K h
  obtain ⟨r1, r2, r3, r5, hi, s, N, dr, od, i, rfl, rfl, hIV, hTG, h⟩ := h
  refine metL (pr := lkB pX5_seats) (rk := 1) (ct := ctb_X5_seats) (fld := lkB flX5) (cst := lkB csX5) (cstL := lkB clX5) [] pX5_seats_ok kX5_seats.2.2.2.2.2.2.2 fdX5 cdX5 rto1 cok_X5_seats (Nat.le_of_ble_eq_true rfl) cut0 ?_ l D σ cA sz
  conv => whnf
  refine ⟨fun hc => ?_, fun hc => ?_⟩
  · conv => whnf
    refine ⟨s, N, dr, od, i, rfl, rfl, hIV, hTG, Int32.not_lt.mpr hc, fun dr' od' => ?_⟩
    conv => whnf
    exact h dr' od'
  · conv => whnf
    exact kI (h dr od) (by unfold stR; rw [if_pos (Int32.not_le.mp hc)])
