/-! ===== calls of the law on the reference: a stretch of the world, shifted ===== -/
theorem tv_sh (σ : Nat → Nat) (n : Nat) (v : sv) : tv (fun i => σ (n + i)) v = tv σ (shv n v) := by
  rcases v with x | x | x
  · rfl
  · rfl
  · cases x <;> rfl
theorem tc_sh (σ : Nat → Nat) (cA : Nat → ClassId) (n : Nat) (c : sc) : tc (fun i => σ (n + i)) cA c = tc σ cA (shc n c) := by
  rcases c with ⟨ci, fs⟩ | ⟨t, m, f | f | f⟩
  · refine congrArg (fun z => (.inr (ci, z) : va_E)) ?_
    rw [List.map_map]
    exact List.map_congr_left (fun v _ => tv_sh σ n v)
  · rfl
  · rfl
  · have e : (fun i => ((f i).map (fun k => n + k)).map σ) = (fun i => (f i).map (fun i => σ (n + i))) := by
      funext i
      cases f i <;> rfl
    show _ = (.inl (cA t, m, .inr (.inr (.inr (.inr (fun i => ((f i).map (fun k => n + k)).map σ))))) : va_E)
    rw [e]
    rfl
def cSE (vk : Option Nat) (F : Fn) (as : List sv) (w : List sc) (kk : Option sv → List sc → Prop) : Prop := ∃ (n : Nat) (w0 w1 w2 : List sc) (as' : List sv), w0.length = n ∧ w = w0 ++ (w1.map (shc n) ++ w2) ∧ as = as'.map (shv n) ∧ rok vk as' w1 True ∧ F as' w1 fun r w1' => w1'.length = w1.length ∧ kk (r.map (shv n)) (w0 ++ (w1'.map (shc n) ++ w2))
def cM (Rc Rs : Nat) (vk : Option Nat) (na : Nat) (F : Fn) (mc ms : Nat) (_ : List (Option sv)) (st : List sv) (w : List sc) (cl sl : Nat) (kk : List sv → List sc → Nat → Nat → Prop) : Prop :=
  popN na st [] fun as rest => ck (Nat.ble (rcat rest) 8) ((cl + mc ≤ Rc ∧ sl + ms ≤ Rs) ∧ cSE vk F as w fun r w' => kk (oL r ++ rest) w' (cl + mc) (sl + ms))
theorem nth_mid {w0 w1 w2 : List sc} {n k : Nat} {c : sc} (hn : w0.length = n) (h : nth w1 k = some c) : nth (w0 ++ (w1.map (shc n) ++ w2)) (n + k) = some (shc n c) := by
  rw [nth_eq] at h ⊢
  have hk := (List.getElem?_eq_some_iff.mp h).1
  rw [List.getElem?_append_right (by omega), show n + k - w0.length = k by omega, List.getElem?_append_left (by rw [List.length_map]; exact hk), List.getElem?_map, h]
  rfl
theorem nth_mid_e {w0 w1 w1' w2 : List sc} {n j : Nat} {c : sc} (hn : w0.length = n) (hl : w1'.length = w1.length) (h : nth (w0 ++ (w1'.map (shc n) ++ w2)) j = some c) : (∃ k c', j = n + k ∧ nth w1' k = some c' ∧ c = shc n c') ∨ ((∀ k, k < w1.length → j ≠ n + k) ∧ nth (w0 ++ (w1.map (shc n) ++ w2)) j = some c) := by
  rw [nth_eq] at h
  by_cases h1 : j < n
  · refine Or.inr ⟨fun k _ => by omega, ?_⟩
    rw [nth_eq]
    rw [List.getElem?_append_left (by omega)] at h ⊢
    exact h
  · rw [List.getElem?_append_right (by omega)] at h
    by_cases h2 : j - n < w1.length
    · refine Or.inl ⟨j - n, ?_⟩
      rw [List.getElem?_append_left (by rw [List.length_map]; omega), List.getElem?_map, hn] at h
      obtain ⟨c', h3, h4⟩ := Option.map_eq_some_iff.mp h
      exact ⟨c', by omega, by rw [nth_eq]; exact h3, h4.symm⟩
    · refine Or.inr ⟨fun k hk => by omega, ?_⟩
      rw [nth_eq, List.getElem?_append_right (by omega)]
      rw [List.getElem?_append_right (by rw [List.length_map]; omega)] at h ⊢
      rw [List.length_map] at h ⊢
      rw [hl] at h
      exact h
theorem site_M {cc : ByteArray} {nL n0 pc na mc ms : Nat} {rt : Option FieldType} {own : String} {R : Room} {vk : Option Nat} {F : Fn} (hR : RunZ cc nL rt own R pc vk na mc ms F) : SiteZ cc nL rt own R n0 pc (cM R.cells R.slots vk na F mc ms) := by
  intro p l e s m args below meth c D σ0 cA A Q X hnw hex hA lv st w cl sl kk h hk σ hσ H locs ls hP hD hS hlv
  obtain ⟨as, rest, rfl, hlen, hh⟩ := popN_e h
  rw [List.append_nil] at hh
  obtain ⟨hrc, ⟨hc0, hs0⟩, n, w0, w1, w2, as', hn, rfl, rfl, hrok, hF⟩ := ck_e hh
  have hrc := Nat.le_of_ble_eq_true hrc
  have hPc : va_P D vwCl (tw (fun k => σ (n + k)) cA 0 w1) H := by
    intro k q hq
    obtain ⟨c', h1, rfl⟩ := tw_of hq
    have := hP (n + k) _ (tw_nth (σ := σ) (cA := cA) (k := 0) (nth_mid (w2 := w2) hn h1))
    rw [Nat.zero_add] at this ⊢
    rw [tc_sh]
    exact this
  have hDc : va_D A (tw (fun k => σ (n + k)) cA 0 w1) := by
    refine ⟨fun k1 k2 q1 q2 h1 h2 e => ?_, fun k q hq => ?_⟩
    · obtain ⟨c1, a1, rfl⟩ := tw_of h1
      obtain ⟨c2, a2, rfl⟩ := tw_of h2
      simp only [Nat.zero_add] at e
      have := hD.1 (n + k1) (n + k2) _ _ (tw_nth (σ := σ) (cA := cA) (k := 0) (nth_mid (w2 := w2) hn a1)) (tw_nth (σ := σ) (cA := cA) (k := 0) (nth_mid (w2 := w2) hn a2)) (by simpa using e)
      omega
    · obtain ⟨c1, a1, rfl⟩ := tw_of hq
      have := hD.2 (n + k) _ (tw_nth (σ := σ) (cA := cA) (k := 0) (nth_mid (w2 := w2) hn a1))
      simpa using this
  have hrun := hR p l e s m args below meth c D (fun k => σ (n + k)) cA X hnw hex H locs ls _ _ _ A (rest.map (tv σ)) cl sl hF (by rw [List.length_map] at hlen; exact hlen) hrok hPc hDc hlv.1 (by rw [rcat_ok]; exact hrc) hc0 hs0
  have hFc : ∀ q, va_A (tw (fun k => σ (n + k)) cA 0 w1) H.size q → A q := by
    intro q h
    rcases h with ⟨k, e, h⟩ | h
    · exact hDc.2 k _ h
    · exact hA q (Nat.le_trans hS.1 h)
  have has : as'.map (tv (fun k => σ (n + k))) = (as'.map (shv n)).map (tv σ) := by
    rw [List.map_map]
    exact List.map_congr_left (fun v _ => tv_sh σ n v)
  rw [has] at hrun
  rw [List.map_append, List.map_reverse]
  refine run_goZ hrun hS (fun q _ h => hFc q h) hFc (fun r wc H1 locs1 hK1 hP1 hD1 _ hkp hS1 => ?_)
  obtain ⟨hl1, hK1⟩ := hK1
  have hP2 : va_P D vwCl (tw σ cA 0 (w0 ++ (wc.map (shc n) ++ w2))) H1 := by
    intro j q hq
    obtain ⟨c, h1, rfl⟩ := tw_of hq
    rw [Nat.zero_add]
    rcases nth_mid_e (w1 := w1) hn hl1 h1 with ⟨k, c', rfl, g2, rfl⟩ | ⟨g1, g2⟩
    · have := hP1 k _ (tw_nth (σ := fun k => σ (n + k)) (cA := cA) (k := 0) g2)
      rw [← tc_sh]
      simp only [Nat.zero_add] at this
      exact this
    · have h2 := hP j _ (tw_nth (σ := σ) (cA := cA) (k := 0) g2)
      rw [Nat.zero_add] at h2
      refine h2.kept (hkp _ h2.lt ?_)
      rintro (⟨k, e, h3⟩ | h3)
      · obtain ⟨c1, a1, a2⟩ := tw_of h3
        have e1 : σ j = σ (n + k) := by
          have := congrArg Prod.fst a2
          simpa using this
        have := hD.1 j (n + k) _ _ (tw_nth (σ := σ) (cA := cA) (k := 0) g2) (tw_nth (σ := σ) (cA := cA) (k := 0) (nth_mid (w2 := w2) hn a1)) (by simpa using e1)
        refine g1 k ?_ this
        rw [nth_eq] at a1
        exact (List.getElem?_eq_some_iff.mp a1).1
      · exact absurd h2.lt (Nat.not_lt.mpr h3)
  have hdom : ∀ {j : Nat} {c : sc}, nth (w0 ++ (wc.map (shc n) ++ w2)) j = some c → ∃ c', nth (w0 ++ (w1.map (shc n) ++ w2)) j = some c' := by
    intro j c hj
    rcases nth_mid_e (w1 := w1) hn hl1 hj with ⟨k, c', rfl, g2, rfl⟩ | ⟨g1, g2⟩
    · rw [nth_eq] at g2
      have := (List.getElem?_eq_some_iff.mp g2).1
      exact ⟨_, nth_mid hn (by rw [nth_eq]; exact List.getElem?_eq_getElem (i := k) (l := w1) (by omega))⟩
    · exact ⟨_, g2⟩
  have hD2 : va_D A (tw σ cA 0 (w0 ++ (wc.map (shc n) ++ w2))) := by
    refine ⟨fun k1 k2 q1 q2 h1 h2 e => ?_, fun k q hq => ?_⟩
    · obtain ⟨c1, a1, rfl⟩ := tw_of h1
      obtain ⟨c2, a2, rfl⟩ := tw_of h2
      obtain ⟨d1, b1⟩ := hdom a1
      obtain ⟨d2, b2⟩ := hdom a2
      exact hD.1 k1 k2 _ _ (tw_nth (σ := σ) (cA := cA) (k := 0) b1) (tw_nth (σ := σ) (cA := cA) (k := 0) b2) e
    · obtain ⟨c1, a1, rfl⟩ := tw_of hq
      obtain ⟨d1, b1⟩ := hdom a1
      have h9 := hD.2 k _ (tw_nth (σ := σ) (cA := cA) (k := 0) b1)
      exact h9
  have := hk _ _ _ _ hK1 σ hσ H1 locs1 ls hP2 hD2 hS1 hlv
  rw [oL_ok] at this
  have e2 : (r.map (shv n)).map (tv σ) = r.map (tv (fun k => σ (n + k))) := by
    cases r with
    | none => rfl
    | some v => simp [tv_sh]
  rwa [e2] at this
