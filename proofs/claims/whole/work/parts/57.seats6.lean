/-! ===== seats of the reference, the row itself ===== -/
def F_X6_seats : Fn := fun as w K => ∃ (s : InnS) (q : Pm) (t : Tm) (N : Nat) (i : Int32), as = [sR 0, sI i] ∧ w = modW s q t ∧ TZ t ∧ IV s N ∧ TG s ∧ ∀ a b t', TZ t' → K (some (.inl (stR s i))) (modW (snS s a b) q t')
/-- the row so far: k sit, m who, l the last -/
def SO (d : PA) (T : Int32) (G k m l : Nat) : Prop := m < 128 ∧ k ≤ 7 ∧ ((k = 0 ∧ m = 0 ∧ l = 7) ∨ (0 < k ∧ RLs T G m l ∧ CN d (Dm T m) l ∧ CN d T 7 ∧ l = sq d T 7 (k - 1))) ∧ pc (Dm T m) + k = pc T ∧ ∀ j, sq d T 7 (k + j) = sq d (Dm T m) l j
theorem Dm_z (T : Int32) : Dm T 0 = T := by
  apply b_ext
  intro i hi
  rw [Dm_bt _ _ hi, nI_0, b_0]
  cases bt T i <;> rfl
theorem SO_0 {d : PA} {T : Int32} {G : Nat} : SO d T G 0 0 7 := by
  refine ⟨by decide, by decide, Or.inl ⟨rfl, rfl, rfl⟩, ?_, fun j => ?_⟩
  · rw [Dm_z]; rfl
  · rw [Dm_z, Nat.zero_add]
theorem SO_sub {d : PA} {T : Int32} {G k m l : Nat} (h : SO d T G k m l) : ∀ i, bt (nI m) i = true → bt T i = true := by
  rcases h.2.2.1 with ⟨-, z, -⟩ | ⟨-, z, -⟩
  · intro i hi
    rw [z, nI_0, b_0] at hi; cases hi
  · exact z.2.2
theorem SO_s {d : PA} {T : Int32} {G k m l g : Nat} (hT : rng 128 T) (hG : G < 8) (h : SO d T G k m l) (hk : k < 7) (hg : g < G) (hm : MY d (Dm T m) l g) (hb : ∀ i, i < g → ¬ MY d (Dm T m) l i) : SO d T G (k + 1) (orB m g) g := by
  have hs := SO_sub h
  obtain ⟨h1, h2, h3, h4, h5⟩ := h
  have hgn : gn d (Dm T m) l = g := fst_some hm hb (by omega)
  obtain ⟨r1, r2⟩ := RL_or h1 hg hG hm.1 hs
  have hD := Dm_or (T := T) h1 (show g < 7 by omega)
  have hp := pc_rm (x := Dm T m) (rng_Dm hT _) (show g < 7 by omega) hm.1
  have hq := h5 0
  refine ⟨(orB_0 ⟨m, h1⟩ ⟨g, by omega⟩).2.1, hk, Or.inr ⟨by omega, r1, by rw [hD]; exact hm.2.2, ?_, ?_⟩, by rw [hD]; omega, fun j => ?_⟩
  · rcases h3 with ⟨-, zm, zl⟩ | z
    · rw [zm, zl, Dm_z] at hm
      exact (CN_un hT).mpr (Or.inr ⟨g, by omega, hm⟩)
    · exact z.2.2.2.1
  · rw [Nat.add_sub_cancel]
    rw [Nat.add_zero] at hq
    rw [hq]
    exact hgn.symm
  · rw [hD, show k + 1 + j = k + (j + 1) by omega, h5]
    show sq d (rmB (Dm T m) (gn d (Dm T m) l)) (gn d (Dm T m) l) j = _
    rw [hgn]
theorem SO_no {d : PA} {T : Int32} {G k m l i' : Nat} (hT : rng 128 T) (hG : G < 8) (hTG : ∀ i, G ≤ i → bt T i = false) (h : SO d T G k m l) (hk : k ≤ i') (hall : ∀ g, g < G → ¬ MY d (Dm T m) l g) : ¬ (CN d T 7 ∧ i' < pc T) := by
  have key : CN d (Dm T m) l → Dm T m = 0 := fun z => by
    rcases (CN_un (rng_Dm hT _)).mp z with z | ⟨g, hg, hb, hu, hc⟩
    · exact z
    · rcases Nat.lt_or_ge g G with y | y
      · exact absurd ⟨hb, hu, hc⟩ (hall g y)
      · have := (tb_bt _ (by omega)).mp hb
        rw [Dm_bt _ _ (by omega), hTG g y] at this
        cases this
  obtain ⟨h1, h2, h3, h4, h5⟩ := h
  rintro ⟨c1, c2⟩
  have hz : Dm T m = 0 := by
    rcases h3 with ⟨-, zm, zl⟩ | z
    · rw [zm, zl, Dm_z] at key
      rw [zm, Dm_z]; exact key c1
    · exact key z.2.2.1
  rw [hz, pc_z] at h4
  omega
def ctb_X6_seats : List (Nat × (List sv → List sc → (List sv → List sc → Prop) → Prop)) := [(12, cS (some 4) 1 F_X6_laySeats), (63, cS none 2 F_X6_hasBit), (79, cS (some 4) 3 F_X6_isUnlike)]
theorem cok_X6_seats : CallOK cX6_seats 8 (some .int) RX6 4 ctb_X6_seats := CallOK_cons (site_same (rnV (pX6_seats_ok 12 _ rfl) ct_X6_laySeats kX6_laySeats lRX6_252 (by decide))) (CallOK_cons (site_same (rnS (pX6_seats_ok 63 _ rfl) ct_X6_hasBit kX6_hasBit lRX6_105 (by decide))) (CallOK_cons (site_same (rnV (pX6_seats_ok 79 _ rfl) ct_X6_isUnlike kX6_isUnlike lRX6_249 (by decide))) (CallOK_nil)))
theorem ct_X6_seats : Ct yX6_seats cX6_seats 8 (some .int) 4 F_X6_seats := by
  intro l D σ cA sz as w K h
  obtain ⟨s, q, t, N, i, rfl, rfl, hT, hIV, hTG, h⟩ := h
  have hIV' := hIV
  obtain ⟨hZ, hG, hN, hN9, hB⟩ := hIV
  obtain ⟨G, hG7, hGG⟩ := hG.2.1
  have eG : ix (iG s) = G := by rw [hGG]; exact nI_clamp (by omega)
  unfold TG at hTG
  rw [eG] at hTG
  have hr : ¬ i < 0 → stR s i = @ite _ (CN (fun g => ndS s (nI g)) (iT s) 7 ∧ i < pop (iT s)) (Classical.propDecidable _) (nI (sq (fun g => ndS s (nI g)) (iT s) 7 (ix i))) (-4) := fun hi => by
    unfold stR
    rw [if_neg hi]
  have hde : ∀ j, ndS s (nI j) = (fun g => ndS s (nI g)) j := fun j => rfl
  generalize (fun g => ndS s (nI g)) = d at hr hde
  have hdo : ∀ j, j < 7 → d j = -4 ∨ rng 10 (d j) := fun j hj => by rw [← hde]; exact nd_o6 hG hN hN9 hj
  have hp7 := pc_7 hB
  have eg1 : iG s - 1 = nI G + (-1) := by rw [hGG]; exact (by decide : ∀ G : Fin 8, nI G.val - 1 = nI G.val + (-1)) ⟨G, hG7⟩
  refine metL (pr := lkB pX6_seats) (rk := 1) (ct := ctb_X6_seats) (fld := lkB flX6) (cst := lkB csX6) (cstL := lkB clX6) [(23, ([true, true, true, true, true, false, false, false], fun n lv st w => ∃ (i' k m l : Nat) (dr ce : PA), i = nI i' ∧ i' < 2 ^ 31 ∧ k ≤ i' + 1 ∧ n = 20 * (8 - k) ∧ (∀ g, g < G → dr g = d g) ∧ CEp d (iT s) G ce 0 ∧ SO d (iT s) G k m l ∧ lv = [some (sR 0), some (sI i), some (sI (nI m)), some (sI (nI l)), some (sI (nI k)), none, none, none] ∧ st = [] ∧ w = drW s q (tq0 t) dr ce)), (48, ([true, true, true, true, true, true, true, false], fun n lv st w => ∃ (i' k m l jj : Nat) (nx : Int32) (dr ce : PA), i = nI i' ∧ i' < 2 ^ 31 ∧ k ≤ i' ∧ k < 7 ∧ jj ≤ G ∧ n = 20 * (7 - k) + (2 * jj + 2) ∧ (∀ g, g < G → dr g = d g) ∧ CEp d (iT s) G ce 0 ∧ SO d (iT s) G k m l ∧ ((nx = -4 ∧ ∀ g, jj ≤ g → g < G → ¬ MY d (Dm (iT s) m) l g) ∨ (∃ g, jj ≤ g ∧ g < G ∧ nx = nI g ∧ MY d (Dm (iT s) m) l g ∧ ∀ o, jj ≤ o → o < g → ¬ MY d (Dm (iT s) m) l o)) ∧ lv = [some (sR 0), some (sI i), some (sI (nI m)), some (sI (nI l)), some (sI (nI k)), some (sI nx), some (sI (nI jj + (-1))), none] ∧ st = [] ∧ w = drW s q (tq0 t) dr ce)), (97, ([true, true, true, true, true, true, true, false], fun n lv st w => ∃ (i' k m l g : Nat) (nx : Int32) (dr ce : PA), i = nI i' ∧ i' < 2 ^ 31 ∧ k ≤ i' ∧ k < 7 ∧ g < G ∧ n = 20 * (7 - k) + (2 * g + 3) ∧ (∀ g, g < G → dr g = d g) ∧ CEp d (iT s) G ce 0 ∧ SO d (iT s) G k m l ∧ ((nx = -4 ∧ ∀ o, g + 1 ≤ o → o < G → ¬ MY d (Dm (iT s) m) l o) ∨ (∃ g', g + 1 ≤ g' ∧ g' < G ∧ nx = nI g' ∧ MY d (Dm (iT s) m) l g' ∧ ∀ o, g + 1 ≤ o → o < g' → ¬ MY d (Dm (iT s) m) l o)) ∧ tb (Dm (iT s) m) (nI g) ∧ UL d l g ∧ lv = [some (sR 0), some (sI i), some (sI (nI m)), some (sI (nI l)), some (sI (nI k)), some (sI nx), some (sI (nI g)), none] ∧ st = [] ∧ w = drW s q (tq0 t) dr ce))] pX6_seats_ok kX6_seats.2.2.2.2.2.2.2 fdX6 cdX6 rto1 cok_X6_seats (Nat.le_of_ble_eq_true rfl) ?_ ?_ l D σ cA sz
  · refine List.forall_mem_cons.mpr ⟨?_, List.forall_mem_cons.mpr ⟨?_, List.forall_mem_cons.mpr ⟨?_, cut0⟩⟩⟩
    · rintro n lv st w ⟨i', k, m, l, dr, ce, ei, hi', hki, rfl, hd, hce, hSO, rfl, rfl, rfl⟩
      have hi0 : ¬ i < 0 := by rw [ei]; exact nI_pos hi'
      have eix : ix i = i' := by rw [ei]; exact nI_clamp hi'
      have hr := hr hi0
      rw [eix] at hr
      have hk7 := hSO.2.1
      conv => whnf
      refine ⟨fun hc => ?_, fun hc => ?_⟩
      · rw [ei] at hc
        have hlt := (nI_ltI hi' (by omega)).mp hc
        have ek : k = i' + 1 := by omega
        conv => whnf
        refine ⟨fun h7 => ?_, fun h7 => ?_⟩
        · rw [ei] at h7
          have := (nI_leI (by decide) hi').mp (show nI 7 ≤ nI i' from h7)
          omega
        · conv => whnf
          refine kI (h (iSn s) (iLn s) (tsD (tq0 t) dr ce) hT) ?_
          obtain ⟨z1, z2, z3, z4, z5⟩ := hSO.2.2.1.resolve_left (fun z => by omega)
          have hp := hSO.2.2.2.1
          rw [hr, if_pos ⟨z4, by rw [ei]; exact (pop_lt hB hi').mpr (by omega)⟩, z5, ek, Nat.add_sub_cancel]
      · rw [ei] at hc
        have hle : k ≤ i' := Nat.not_lt.mp (fun z => hc (nI_lt z (by omega)))
        conv => whnf
        refine ⟨fun h7 => ?_, fun h7 => ?_⟩
        · have h7 : 7 ≤ k := (nI_leI (by decide) (by omega)).mp (show nI 7 ≤ nI k from h7)
          have h7i : nI 7 ≤ i := by rw [ei]; exact nI_le (by omega) hi'
          conv => whnf
          refine ⟨fun _ => ?_, fun z => absurd h7i z⟩
          conv => whnf
          refine kI (h (iSn s) (iLn s) (tsD (tq0 t) dr ce) hT) ?_
          rw [hr, if_neg (fun z => by
            have := (pop_lt hB hi').mp (ei ▸ z.2)
            omega)]
        · have hk : k < 7 := Nat.not_le.mp (fun z => h7 (show nI 7 ≤ nI k from nI_le z (by omega)))
          conv => whnf
          refine ⟨20 * (7 - k) + (2 * G + 2), by omega, i', k, m, l, G, -4, dr, ce, ei, hi', hle, hk, Nat.le_refl _, rfl, hd, hce, hSO, Or.inl ⟨rfl, fun g h1 h2 => by omega⟩, ?_, rfl, rfl⟩
          rw [← eg1]
          rfl
    · rintro n lv st w ⟨i', k, m, l, jj, nx, dr, ce, ei, hi', hki, hk, hjj, rfl, hd, hce, hSO, hnx, rfl, rfl, rfl⟩
      have hi0 : ¬ i < 0 := by rw [ei]; exact nI_pos hi'
      have eix : ix i = i' := by rw [ei]; exact nI_clamp hi'
      have hr := hr hi0
      rw [eix] at hr
      cases jj with
      | zero =>
        conv => whnf
        refine ⟨fun _ => ?_, fun z => absurd (by decide) z⟩
        conv => whnf
        rcases hnx with ⟨e4, hall⟩ | ⟨g, -, hg, eg, hmy, hb⟩
        · refine ⟨fun z => absurd z (by rw [e4]; decide), fun _ => ?_⟩
          conv => whnf
          refine kI (h (iSn s) (iLn s) (tsD (tq0 t) dr ce) hT) ?_
          rw [hr, if_neg (fun z => SO_no hB hG7 hTG hSO hki (fun g hg => hall g (Nat.zero_le _) hg) ⟨z.1, (pop_lt hB hi').mp (ei ▸ z.2)⟩)]
        · refine ⟨fun _ => ?_, fun z => absurd (by rw [eg]; exact nI_pos' (by omega)) z⟩
          conv => whnf
          have hS2 := SO_s hB hG7 hSO hk hg hmy (fun o ho => hb o (Nat.zero_le _) ho)
          have o1 := (orB_0 ⟨m, hSO.1⟩ ⟨g, by omega⟩).1
          dsimp only at o1
          rw [eg, o1, nI_1]
          exact ⟨20 * (8 - (k + 1)), by omega, i', k + 1, orB m g, g, dr, ce, ei, hi', by omega, rfl, hd, hce, hS2, rfl, rfl, rfl⟩
      | succ g =>
        rw [pk_m1]
        have hgl : g < G := hjj
        have no : ¬ MY d (Dm (iT s) m) l g → ∃ n', n' < 20 * (7 - k) + (2 * (g + 1) + 2) ∧ ∃ (i'_1 k_1 m_1 l_1 jj : Nat) (nx_1 : Int32) (dr_1 ce_1 : PA), i = nI i'_1 ∧ i'_1 < 2 ^ 31 ∧ k_1 ≤ i'_1 ∧ k_1 < 7 ∧ jj ≤ G ∧ n' = 20 * (7 - k_1) + (2 * jj + 2) ∧ (∀ g, g < G → dr_1 g = d g) ∧ CEp d (iT s) G ce_1 0 ∧ SO d (iT s) G k_1 m_1 l_1 ∧ ((nx_1 = -4 ∧ ∀ g, jj ≤ g → g < G → ¬ MY d (Dm (iT s) m_1) l_1 g) ∨ (∃ g, jj ≤ g ∧ g < G ∧ nx_1 = nI g ∧ MY d (Dm (iT s) m_1) l_1 g ∧ ∀ o, jj ≤ o → o < g → ¬ MY d (Dm (iT s) m_1) l_1 o)) ∧ [some (sR 0), some (sI i), some (sI (nI m)), some (sI (nI l)), some (sI (nI k)), some (sI nx), some (sI (nI g + (-1))), none] = [some (sR 0), some (sI i), some (sI (nI m_1)), some (sI (nI l_1)), some (sI (nI k_1)), some (sI nx_1), some (sI (nI jj + (-1))), none] ∧ ([] : List sv) = [] ∧ drW s q (tq0 t) dr ce = drW s q (tq0 t) dr_1 ce_1 := fun hn =>
          ⟨20 * (7 - k) + (2 * g + 2), by omega, i', k, m, l, g, nx, dr, ce, ei, hi', hki, hk, by omega, rfl, hd, hce, hSO, by
            have ex : ∀ o, g ≤ o → g + 1 ≤ o ∨ o = g := fun o ho => by omega
            rcases hnx with ⟨z1, z2⟩ | ⟨g', z1, z2, z3, z4, z5⟩
            · exact Or.inl ⟨z1, fun o h1 h2 => (ex o h1).elim (fun y => z2 o y h2) (fun y => by rw [y]; exact hn)⟩
            · exact Or.inr ⟨g', by omega, z2, z3, z4, fun o h1 h2 => (ex o h1).elim (fun y => z5 o y h2) (fun y => by rw [y]; exact hn)⟩, rfl, rfl, rfl⟩
        conv => whnf
        refine ⟨fun z => absurd z (nI_pos (by omega)), fun _ => ?_⟩
        conv => whnf
        refine ⟨fun hb => ?_, fun hb => ?_⟩
        · have hb : ¬ tb (Dm (iT s) m) (nI g) := bp_0.mp hb
          conv => whnf
          refine ⟨fun _ => ?_, fun z => absurd rfl z⟩
          conv => whnf
          exact no (fun z => hb z.1)
        have hb : tb (Dm (iT s) m) (nI g) := bp_n hb
        conv => whnf
        refine ⟨fun h7 => ?_, fun h7 => ?_⟩
        · have hl7 : l = 7 := by
            have hl8 : l < 8 := by
              rcases hSO.2.2.1 with ⟨-, -, z⟩ | ⟨-, z, -⟩
              · omega
              · have := z.1; omega
            exact (nI_eq (by omega) (by decide)).mp (show nI l = nI 7 from h7)
          conv => whnf
          refine ⟨fun z => absurd z (by decide), fun _ => ?_⟩
          conv => whnf
          exact ⟨20 * (7 - k) + (2 * g + 3), by omega, i', k, m, l, g, nx, dr, ce, ei, hi', hki, hk, hgl, rfl, hd, hce, hSO, hnx, hb, Or.inl hl7, rfl, rfl, rfl⟩
        have hRL : RLs (iT s) G m l := by
          rcases hSO.2.2.1 with ⟨-, -, z⟩ | ⟨-, z, -⟩
          · exact absurd (by rw [z]; rfl) h7
          · exact z
        have hl7 : l < 7 := by have := hRL.1; omega
        conv => whnf
        refine ⟨s, q, tsD (tq0 t) dr ce, l, g, rfl, rfl, hl7, by omega, ?_⟩
        have hul : (tDr (tsD (tq0 t) dr ce) l < 0 ∨ ¬ tDr (tsD (tq0 t) dr ce) l = tDr (tsD (tq0 t) dr ce) g) ↔ UL d l g := by
          show (dr l < 0 ∨ ¬ dr l = dr g) ↔ _
          rw [hd l hRL.1, hd g hgl]
          exact (UL_un hl7 (hdo l hl7)).symm
        conv => whnf
        refine ⟨fun hu => ?_, fun hu => ?_⟩
        · conv => whnf
          refine ⟨fun _ => ?_, fun z => absurd rfl z⟩
          conv => whnf
          exact no (fun z => bp_0.mp hu (hul.mpr z.2.1))
        · conv => whnf
          refine ⟨fun z => absurd z (by decide), fun _ => ?_⟩
          conv => whnf
          exact ⟨20 * (7 - k) + (2 * g + 3), by omega, i', k, m, l, g, nx, dr, ce, ei, hi', hki, hk, hgl, rfl, hd, hce, hSO, hnx, hb, hul.mp (bp_n hu), rfl, rfl, rfl⟩
    · rintro n lv st w ⟨i', k, m, l, g, nx, dr, ce, ei, hi', hki, hk, hgl, rfl, hd, hce, hSO, hnx, hb, hu, rfl, rfl, rfl⟩
      have hm := hSO.1
      obtain ⟨o1, o2, -⟩ := orB_0 ⟨m, hm⟩ ⟨g, by omega⟩
      dsimp only at o1 o2
      have eo : 8 * (nI m ||| jshl 1 (nI g)) + nI g = nI (8 * orB m g + g) := by
        rw [o1, show (8 : Int32) = nI 8 by decide, pk_mul, nI_add]
      have hcv : tCe (tsD (tq0 t) dr ce) (8 * orB m g + g) = bp (CN d (rmB (Dm (iT s) m) g) g) := by
        obtain ⟨r1, r2⟩ := RL_or hm hgl hG7 hb (SO_sub hSO)
        rw [← Dm_or hm (by omega)]
        exact hce _ _ o2 (Nat.zero_le _) r1
      have ex : ∀ o, g ≤ o → g + 1 ≤ o ∨ o = g := fun o ho => by omega
      conv => whnf
      rw [eo]
      refine ⟨vp_in_nI (by omega) (by decide), ?_⟩
      rw [show (nI (8 * orB m g + g)).toNatClampNeg = 8 * orB m g + g from nI_clamp (by omega)]
      conv => whnf
      refine ⟨fun hz => ?_, fun hz => ?_⟩
      · have hn : ¬ MY d (Dm (iT s) m) l g := fun z => bp_0.mp (hcv.symm.trans hz) z.2.2
        conv => whnf
        refine ⟨20 * (7 - k) + (2 * g + 2), by omega, i', k, m, l, g, nx, dr, ce, ei, hi', hki, hk, by omega, rfl, hd, hce, hSO, ?_, rfl, rfl, rfl⟩
        rcases hnx with ⟨z1, z2⟩ | ⟨g', z1, z2, z3, z4, z5⟩
        · exact Or.inl ⟨z1, fun o h1 h2 => (ex o h1).elim (fun y => z2 o y h2) (fun y => by rw [y]; exact hn)⟩
        · exact Or.inr ⟨g', by omega, z2, z3, z4, fun o h1 h2 => (ex o h1).elim (fun y => z5 o y h2) (fun y => by rw [y]; exact hn)⟩
      · have hy : MY d (Dm (iT s) m) l g := ⟨hb, hu, bp_n (fun z => hz (hcv.trans z))⟩
        conv => whnf
        exact ⟨20 * (7 - k) + (2 * g + 2), by omega, i', k, m, l, g, nI g, dr, ce, ei, hi', hki, hk, by omega, rfl, hd, hce, hSO, Or.inr ⟨g, Nat.le_refl _, hgl, rfl, hy, fun o h1 h2 => by omega⟩, rfl, rfl, rfl⟩
  · conv => whnf
    refine ⟨fun hc => ?_, fun hc => ?_⟩
    · obtain ⟨i', hi', ei⟩ := nI_of (Int32.not_lt.mpr hc)
      conv => whnf
      refine ⟨s, q, tq0 t, N, G, d, rfl, rfl, hIV', hGG, hG7, hTG, hde, fun dr ce hd hce => ?_⟩
      conv => whnf
      exact ⟨20 * (8 - 0), i', 0, 0, 7, dr, ce, ei, hi', Nat.zero_le _, rfl, hd, hce, SO_0, rfl, rfl, rfl⟩
    · conv => whnf
      exact kI (h (iSn s) (iLn s) (tq0 t) hT) (by unfold stR; rw [if_pos (Int32.not_le.mp hc)])
