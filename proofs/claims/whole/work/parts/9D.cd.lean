/-! ===== calls of the law: on a part of the world that is chosen at the call ===== -/
def cE (vk : Option Nat) (F : Fn) (as : List sv) (w : List sc) (kk : Option sv → List sc → Prop) : Prop := ∃ is : List Nat, va_nd is = true ∧ pick is w fun cs => rok vk (as.map (renv is)) (cs.map (renc is)) (F (as.map (renv is)) (cs.map (renc is)) fun r wc => ck (Nat.beq is.length wc.length) (kk (r.map (unrv is)) (putw is is w wc)))
def cD (Rc Rs : Nat) (vk : Option Nat) (na : Nat) (F : Fn) (mc ms : Nat) (_ : List (Option sv)) (st : List sv) (w : List sc) (cl sl : Nat) (kk : List sv → List sc → Nat → Nat → Prop) : Prop :=
  popN na st [] fun as rest => ck (Nat.ble (rcat rest) 8) ((cl + mc ≤ Rc ∧ sl + ms ≤ Rs) ∧ cE vk F as w fun r w' => kk (oL r ++ rest) w' (cl + mc) (sl + ms))
def RunZ (cc : ByteArray) (nL : Nat) (rt : Option FieldType) (own : String) (R : Room) (pc : Nat) (vk : Option Nat) (na mc ms : Nat) (F : Fn) : Prop :=
  ∀ (p : Program) (l : Launch) (e : Env) (s : State) (m : MethodId) (args : Array Value) (below : List Frame) (meth : Method) (c : Code) (D : va_G) (σ : Nat → Nat) (cA : Nat → ClassId), Cx p s m args meth c D cA cc nL rt own → NW s → EX s →
    ∀ (H : Heap) (locs : List Loc) (ls : Array Slot) (as : List sv) (w : List sc) (K : Option sv → List sc → Prop) (B : Nat → Prop) (restV : List Value) (cl sl : Nat), F as w K → as.length = na → rok vk as w True → va_P D vwCl (tw σ cA 0 w) H → va_D B (tw σ cA 0 w) → ls.size = nL → (restV.map fun v => v.category).sum ≤ 8 → cl + mc ≤ R.cells → sl + ms ≤ R.slots →
      va_Run p l e R s m args below meth c H locs cl sl mc ms (F0 m pc ls ((as.map (tv σ)).reverse ++ restV)) restV (Qg D σ cA (va_A (tw σ cA 0 w) H.size) K (as.map (tv σ)).toArray) (va_A (tw σ cA 0 w) H.size)
theorem run_VZ {cc cc' : ByteArray} {nL nL' d' pc idx na ci nx tg : Nat} {li : Int32} {rt rt' : Option FieldType} {own : String} {R : Room} {y : MethodName} {F : Fn} (hd : xdec cc pc = some (.invokevirtual idx, nx, tg, li)) (hct : Ct y cc' nL' rt' d' F) (k : KV y cc' nL' rt' na ci) (hl : Cond.methodLink own idx y ∈ uW) (hR : d' + 1 ≤ R.frames ∧ 100 * d' + 200 ≤ R.locals) : RunZ cc nL rt own R pc (some ci) (na + 1) 0 0 F := by
  obtain ⟨hcode, hst, hse, hin, hdd, ⟨T, N, hci⟩, hnl, -⟩ := k
  have hdg := xd_V hd
  intro p l e s m args below meth c D σ cA X hnw hex H locs ls as w K B restV cl sl hF hlen hrok hP hD hls hrc hc0 hs0
  obtain ⟨hx, hb, hml, hown, hts, hK, hlocks, hr⟩ := X
  have hM := hct l D σ cA H.size as w K hF
  have cb : CallB R s args own idx y cc' nL' rt' (.code y cc' nL' rt' :: uW) (rmd d') 0 0 na := callB_of na hts (good_code hcode) rfl rfl rfl (hts _ hin) (hts _ hl) hdd ⟨hR.1, by show 8 + (nL' + 11) + 100 * d' ≤ R.locals; omega⟩
  match as, hrok with
  | .inr (.inr (some k)) :: as', hrok =>
    obtain ⟨cj, fs, hw, hcj⟩ := cO_e hrok; obtain ⟨rfl, -⟩ := cq_e hcj
    have he := tw_nth (σ := σ) (cA := cA) (k := 0) hw
    rw [Nat.zero_add] at he
    have hst' : (((.inr (.inr (some k)) :: as' : List sv).map (tv σ)).reverse ++ restV) = (as'.map (tv σ)).reverse ++ Value.ref (σ k) :: restV := by simp [tv, va_rf]
    rw [hst']
    exact va_runV (C := y.cls) (As := as'.map (tv σ)) (rest := restV) (nL := nL) (n := na) ⟨hx, hb, hml, hown, hts⟩ hM ⟨cb, hts _ hst, hts _ hse⟩ ⟨wPre_blind, va_recv hK hP hci he, fun U hU hW => ⟨rfl, wPre_at hK hnw hP hD U hU hW⟩⟩ rfl (by rw [List.length_map]; simpa using hlen) hls rfl (lv_room hrc) hdg ⟨by simpa using hc0, by simpa using hs0⟩
section RUNZ
variable {p : Program} {l : Launch} {e : Env} {R : Room} {s : State} {m : MethodId} {args : Array Value} {below : List Frame} {meth : Method} {c : Code} {D : va_G} {σ : Nat → Nat} {cA : Nat → ClassId} {A0 A1 : Nat → Prop} {H0 H : Heap} {nL : Nat} {locs : List Loc} {Q : State → Prop}
theorem run_goZ {K : Option sv → List sc → Prop} {free : Addr → Prop} {a : Array Value} {pc cl sl mc ms : Nat} {ls : Array Slot} {st0 rest : List Value} (hr : va_Run p l e R s m args below meth c H locs cl sl mc ms (F0 m pc ls st0) rest (Qg D σ cA A1 K a) free) (hS : va_S A0 H0 H locs) (hA : ∀ q, q < H.size → A1 q → A0 q) (hf : ∀ q, free q → A0 q)
    (kk : ∀ (r : Option sv) (w' : List sc) (H1 : Heap) (locs1 : List Loc), K r w' → va_P D vwCl (tw σ cA 0 w') H1 → va_D A1 (tw σ cA 0 w') → H.size ≤ H1.size → (∀ q : Nat, q < H.size → ¬ A1 q → H1[q]? = H[q]?) → va_S A0 H0 H1 locs1 → W p l e R s m args below meth c H1 locs1 (cl + mc) (sl + ms) Q (F0 m (pc + 3) ls ((r.map (tv σ)).toList ++ rest))) : W p l e R s m args below meth c H locs cl sl Q (F0 m pc ls st0) := by
  intro T hT X
  obtain ⟨v, st₀, t, T', L, h0, X', hL, e1, e2, ⟨⟨r, w', hv, hk, hp, hd⟩, hz, hkp⟩, st⟩ := hr T hT X
  cases hv
  rw [h0] at hz hkp
  obtain ⟨t2, a1, b1⟩ := kk r w' T'.heap (locs ++ L) hk (by rw [e1]; exact hp) hd (by rw [e1]; exact hz) (fun q h1 h2 => by rw [e1]; exact hkp q h1 h2)
    ⟨Nat.le_trans hS.1 (by rw [e1]; exact hz), fun q h1 h2 => by rw [e1, hkp q (Nat.lt_of_lt_of_le h1 hS.1) (fun z => h2 (hA q (Nat.lt_of_lt_of_le h1 hS.1) z))]; exact hS.2.1 q h1 h2, fun q hq => by
      rcases List.mem_append.mp hq with h | h
      · exact hS.2.2 q h
      · exact hf _ (hL q h)⟩ T' rfl X'
  exact ⟨t2, st t2 a1, b1⟩
end RUNZ
theorem site_D {cc : ByteArray} {nL n0 pc na mc ms : Nat} {rt : Option FieldType} {own : String} {R : Room} {vk : Option Nat} {F : Fn} (hR : RunZ cc nL rt own R pc vk na mc ms F) : SiteZ cc nL rt own R n0 pc (cD R.cells R.slots vk na F mc ms) := by
  intro p l e s m args below meth c D σ0 cA A Q X hnw hex hA lv st w cl sl kk h hk σ hσ H locs ls hP hD hS hlv
  obtain ⟨as, rest, rfl, hlen, hh⟩ := popN_e h
  rw [List.append_nil] at hh
  obtain ⟨hrc, ⟨hc0, hs0⟩, is, hn, hh⟩ := ck_e hh
  have hrc := Nat.le_of_ble_eq_true hrc
  obtain ⟨cs, hh, hcl, hcs⟩ := pick_e hh
  obtain ⟨hrok, hF⟩ := rok_e hh
  have hcell : ∀ k c', nth (cs.map (renc is)) k = some c' → ∃ i c, nth is k = some i ∧ nth w i = some c ∧ c' = renc is c := by
    intro k c' hk
    rw [nth_eq, List.getElem?_map] at hk
    obtain ⟨c, hc, rfl⟩ := Option.map_eq_some_iff.mp hk
    have hk2 : k < is.length := by
      rw [← hcl]
      exact (List.getElem?_eq_some_iff.mp hc).1
    obtain ⟨c2, g1, g2⟩ := hcs k is[k] (by rw [nth_eq]; exact List.getElem?_eq_getElem hk2)
    rw [nth_eq, hc] at g2
    cases g2
    exact ⟨is[k], c, by rw [nth_eq]; exact List.getElem?_eq_getElem hk2, g1, rfl⟩
  have hun : ∀ k i, nth is k = some i → un is k = i := fun k i hk => by simp [un, hk, unO]
  have hPc : va_P D vwCl (tw (fun k => σ (un is k)) cA 0 (cs.map (renc is))) H := by
    intro k q hq
    obtain ⟨c', h1, rfl⟩ := tw_of hq
    obtain ⟨i, c, g1, g2, rfl⟩ := hcell k c' h1
    have := hP i _ (tw_nth (σ := σ) (cA := cA) (k := 0) g2)
    rw [Nat.zero_add] at this ⊢
    rw [tc_ren]
    show va_at D vwCl (σ (un is k), _) H
    rw [hun k i g1]; exact this
  have hDc : va_D A (tw (fun k => σ (un is k)) cA 0 (cs.map (renc is))) := by
    refine ⟨fun k1 k2 q1 q2 h1 h2 e => ?_, fun k q hq => ?_⟩
    · obtain ⟨c1, a1, rfl⟩ := tw_of h1
      obtain ⟨c2, a2, rfl⟩ := tw_of h2
      obtain ⟨i1, d1, b1, b2, -⟩ := hcell k1 c1 a1
      obtain ⟨i2, d2, b3, b4, -⟩ := hcell k2 c2 a2
      simp only [Nat.zero_add, hun _ _ b1, hun _ _ b3] at e
      have := hD.1 i1 i2 _ _ (tw_nth (σ := σ) (cA := cA) (k := 0) b2) (tw_nth (σ := σ) (cA := cA) (k := 0) b4) (by simpa using e)
      subst this
      exact nodup_nth hn b1 b3
    · obtain ⟨c1, a1, rfl⟩ := tw_of hq
      obtain ⟨i1, d1, b1, b2, -⟩ := hcell k c1 a1
      have := hD.2 i1 _ (tw_nth (σ := σ) (cA := cA) (k := 0) b2)
      simpa [hun _ _ b1] using this
  have hrun := hR p l e s m args below meth c D (fun k => σ (un is k)) cA X hnw hex H locs ls _ _ _ A (rest.map (tv σ)) cl sl hF (by rw [List.length_map]; exact hlen) hrok hPc hDc hlv.1 (by rw [rcat_ok]; exact hrc) hc0 hs0
  have hFc : ∀ q, va_A (tw (fun k => σ (un is k)) cA 0 (cs.map (renc is))) H.size q → A q := by
    intro q h
    rcases h with ⟨k, e, h⟩ | h
    · exact hDc.2 k _ h
    · exact hA q (Nat.le_trans hS.1 h)
  have has : (as.map (renv is)).map (tv (fun k => σ (un is k))) = as.map (tv σ) := by
    rw [List.map_map]
    exact List.map_congr_left (fun v _ => tv_ren σ is v)
  rw [has] at hrun
  rw [List.map_append, List.map_reverse]
  refine run_goZ hrun hS (fun q _ h => hFc q h) hFc (fun r wc H1 locs1 hK1 hP1 hD1 _ hkp hS1 => ?_)
  obtain ⟨hl1, hK1⟩ := ck_e hK1
  have hl1 := Nat.eq_of_beq_eq_true hl1
  have hP2 : va_P D vwCl (tw σ cA 0 (putw is is w wc)) H1 := by
    intro j q hq
    obtain ⟨c, h1, rfl⟩ := tw_of hq
    rw [Nat.zero_add]
    rcases putw_e is hl1 h1 with ⟨k, c', g1, g2, rfl⟩ | ⟨g1, g2⟩
    · have := hP1 k _ (tw_nth (σ := fun k => σ (un is k)) (cA := cA) (k := 0) g2)
      rw [tc_unr]
      simp only [Nat.zero_add, hun _ _ g1] at this
      exact this
    · have h2 := hP j _ (tw_nth (σ := σ) (cA := cA) (k := 0) g2)
      rw [Nat.zero_add] at h2
      refine h2.kept (hkp _ h2.lt ?_)
      rintro (⟨k, e, h3⟩ | h3)
      · obtain ⟨c1, a1, a2⟩ := tw_of h3
        obtain ⟨i1, d1, b1, b2, -⟩ := hcell k c1 a1
        have e1 : σ j = σ i1 := by
          have := congrArg Prod.fst a2
          simpa [hun _ _ b1] using this
        have := hD.1 j i1 _ _ (tw_nth (σ := σ) (cA := cA) (k := 0) g2) (tw_nth (σ := σ) (cA := cA) (k := 0) b2) (by simpa using e1)
        subst this
        rw [nth_eq] at b1
        exact g1 (List.mem_of_getElem? b1)
      · exact absurd h2.lt (Nat.not_lt.mpr h3)
  have hD2 : va_D A (tw σ cA 0 (putw is is w wc)) := by
    refine ⟨fun k1 k2 q1 q2 h1 h2 e => ?_, fun k q hq => ?_⟩
    · obtain ⟨c1, a1, rfl⟩ := tw_of h1
      obtain ⟨c2, a2, rfl⟩ := tw_of h2
      obtain ⟨d1, b1⟩ := putw_d is a1
      obtain ⟨d2, b2⟩ := putw_d is a2
      exact hD.1 k1 k2 _ _ (tw_nth (σ := σ) (cA := cA) (k := 0) b1) (tw_nth (σ := σ) (cA := cA) (k := 0) b2) e
    · obtain ⟨c1, a1, rfl⟩ := tw_of hq
      obtain ⟨d1, b1⟩ := putw_d is a1
      have h9 := hD.2 k _ (tw_nth (σ := σ) (cA := cA) (k := 0) b1)
      exact h9
  have := hk _ _ _ _ hK1 σ hσ H1 locs1 ls hP2 hD2 hS1 hlv
  rw [oL_ok] at this
  have e2 : (r.map (unrv is)).map (tv σ) = r.map (tv (fun k => σ (un is k))) := by
    cases r with
    | none => rfl
    | some v => simp [tv_unr]
  rwa [e2] at this
