/-! ===== calls in a context: one σ, any room; what a throw leaves ===== -/
theorem tl_st0 {σ : Nat → Nat} {lv : List (Option sv)} {i : Nat} : ∀ q ∈ tl σ 0 (sl (kl2 lv i) i none), q ∈ (tl σ 0 lv).filter (fun q => !(q.1 == i) && !(q.1 + 1 == i && q.2.category == 2)) := by
  intro q hq
  obtain ⟨j, u, h1, h2⟩ := tl_of hq
  rw [lk_sl] at h2
  by_cases e : j = i
  · rw [if_pos e] at h2; cases h2
  · rw [if_neg e] at h2
    obtain ⟨h3, h4⟩ := lk_kl2 _ _ _ _ h2
    refine List.mem_filter.mpr ⟨?_, ?_⟩
    · rw [h1]; exact tl_mem h3
    · rw [h1]
      simp only [Nat.zero_add]
      by_cases e2 : j + 1 = i
      · simp [e, tv_cat σ u (h4 e2)]
      · simp [e, e2]
section SUBW
variable {D : va_G} {σ : Nat → Nat} {cA : Nat → ClassId} {A : Nat → Prop} {H : Heap}
/-- a part of the world, and back -/
theorem subw {is : List Nat} {w cs : List sc} (hn : va_nd is = true) (hcl : cs.length = is.length) (hcs : ∀ k i, nth is k = some i → ∃ c, nth w i = some c ∧ nth cs k = some c) (hP : va_P D vwCl (tw σ cA 0 w) H) (hD : va_D A (tw σ cA 0 w)) :
    va_P D vwCl (tw (fun k => σ (un is k)) cA 0 (cs.map (renc is))) H ∧ va_D A (tw (fun k => σ (un is k)) cA 0 (cs.map (renc is))) ∧
    ∀ (wc : List sc) (H1 : Heap), is.length = wc.length → va_P D vwCl (tw (fun k => σ (un is k)) cA 0 wc) H1 → (∀ q : Nat, q < H.size → ¬ va_A (tw (fun k => σ (un is k)) cA 0 (cs.map (renc is))) H.size q → H1[q]? = H[q]?) → va_P D vwCl (tw σ cA 0 (putw is is w wc)) H1 ∧ va_D A (tw σ cA 0 (putw is is w wc)) := by
  have hcell : ∀ k c', nth (cs.map (renc is)) k = some c' → ∃ i c, nth is k = some i ∧ nth w i = some c ∧ c' = renc is c := by
    intro k c' hk
    rw [nth_eq, List.getElem?_map] at hk
    obtain ⟨c, hc, rfl⟩ := Option.map_eq_some_iff.mp hk
    have hk2 : k < is.length := by
      rw [← hcl]
      exact (List.getElem?_eq_some_iff.mp hc).1
    obtain ⟨c2, g1, g2⟩ := hcs k is[k] (by rw [nth_eq]; exact List.getElem?_eq_getElem hk2)
    rw [nth_eq, hc] at g2
    cases g2
    exact ⟨is[k], c, by rw [nth_eq]; exact List.getElem?_eq_getElem hk2, g1, rfl⟩
  have hun : ∀ k i, nth is k = some i → un is k = i := fun k i hk => by simp [un, hk, unO]
  have hPc : va_P D vwCl (tw (fun k => σ (un is k)) cA 0 (cs.map (renc is))) H := by
    intro k q hq
    obtain ⟨c', h1, rfl⟩ := tw_of hq
    obtain ⟨i, c, g1, g2, rfl⟩ := hcell k c' h1
    have := hP i _ (tw_nth (σ := σ) (cA := cA) (k := 0) g2)
    rw [Nat.zero_add] at this ⊢
    rw [tc_ren]
    show va_at D vwCl (σ (un is k), _) H
    rw [hun k i g1]; exact this
  have hDc : va_D A (tw (fun k => σ (un is k)) cA 0 (cs.map (renc is))) := by
    refine ⟨fun k1 k2 q1 q2 h1 h2 e => ?_, fun k q hq => ?_⟩
    · obtain ⟨c1, a1, rfl⟩ := tw_of h1
      obtain ⟨c2, a2, rfl⟩ := tw_of h2
      obtain ⟨i1, d1, b1, b2, -⟩ := hcell k1 c1 a1
      obtain ⟨i2, d2, b3, b4, -⟩ := hcell k2 c2 a2
      simp only [Nat.zero_add, hun _ _ b1, hun _ _ b3] at e
      have := hD.1 i1 i2 _ _ (tw_nth (σ := σ) (cA := cA) (k := 0) b2) (tw_nth (σ := σ) (cA := cA) (k := 0) b4) (by simpa using e)
      subst this
      exact nodup_nth hn b1 b3
    · obtain ⟨c1, a1, rfl⟩ := tw_of hq
      obtain ⟨i1, d1, b1, b2, -⟩ := hcell k c1 a1
      have := hD.2 i1 _ (tw_nth (σ := σ) (cA := cA) (k := 0) b2)
      simpa [hun _ _ b1] using this
  refine ⟨hPc, hDc, fun wc H1 hl1 hP1 hkp => ⟨?_, ?_⟩⟩
  · intro j q hq
    obtain ⟨c, h1, rfl⟩ := tw_of hq
    rw [Nat.zero_add]
    rcases putw_e is hl1 h1 with ⟨k, c', g1, g2, rfl⟩ | ⟨g1, g2⟩
    · have := hP1 k _ (tw_nth (σ := fun k => σ (un is k)) (cA := cA) (k := 0) g2)
      rw [tc_unr]
      simp only [Nat.zero_add, hun _ _ g1] at this
      exact this
    · have h2 := hP j _ (tw_nth (σ := σ) (cA := cA) (k := 0) g2)
      rw [Nat.zero_add] at h2
      refine h2.kept (hkp _ h2.lt ?_)
      rintro (⟨k, e, h3⟩ | h3)
      · obtain ⟨c1, a1, a2⟩ := tw_of h3
        obtain ⟨i1, d1, b1, b2, -⟩ := hcell k c1 a1
        have e1 : σ j = σ i1 := by
          have := congrArg Prod.fst a2
          simpa [hun _ _ b1] using this
        have := hD.1 j i1 _ _ (tw_nth (σ := σ) (cA := cA) (k := 0) g2) (tw_nth (σ := σ) (cA := cA) (k := 0) b2) (by simpa using e1)
        subst this
        rw [nth_eq] at b1
        exact g1 (List.mem_of_getElem? b1)
      · exact absurd h2.lt (Nat.not_lt.mpr h3)
  · refine ⟨fun k1 k2 q1 q2 h1 h2 e => ?_, fun k q hq => ?_⟩
    · obtain ⟨c1, a1, rfl⟩ := tw_of h1
      obtain ⟨c2, a2, rfl⟩ := tw_of h2
      obtain ⟨d1, b1⟩ := putw_d is a1
      obtain ⟨d2, b2⟩ := putw_d is a2
      exact hD.1 k1 k2 _ _ (tw_nth (σ := σ) (cA := cA) (k := 0) b1) (tw_nth (σ := σ) (cA := cA) (k := 0) b2) e
    · obtain ⟨c1, a1, rfl⟩ := tw_of hq
      obtain ⟨d1, b1⟩ := putw_d is a1
      have h9 := hD.2 k _ (tw_nth (σ := σ) (cA := cA) (k := 0) b1)
      exact h9
theorem as_ren {is : List Nat} {as : List sv} : (as.map (renv is)).map (tv (fun k => σ (un is k))) = as.map (tv σ) := by
  rw [List.map_map]
  exact List.map_congr_left (fun v _ => tv_ren σ is v)
theorem r_unr {is : List Nat} (r : Option sv) : (r.map (unrv is)).map (tv σ) = r.map (tv (fun k => σ (un is k))) := by
  cases r with
  | none => rfl
  | some v => simp [tv_unr]
end SUBW
theorem XB_warm {s U : State} (hW : s.WarmedH U.vm) (h : XB s) : XB U := by
  unfold XB XBl at h ⊢
  exact List.forall_mem_cons.mpr ⟨va_Nw.warmD hW (h _ (List.mem_of_getElem? (i := 0) rfl)), List.forall_mem_cons.mpr ⟨va_Nw.warmD hW (h _ (List.mem_of_getElem? (i := 1) rfl)), List.forall_mem_cons.mpr ⟨va_Nw.warmD hW (h _ (List.mem_of_getElem? (i := 2) rfl)), List.forall_mem_cons.mpr ⟨va_Nw.warmC hW (h _ (List.mem_of_getElem? (i := 3) rfl)), List.forall_mem_cons.mpr ⟨va_Nw.warmC hW (h _ (List.mem_of_getElem? (i := 4) rfl)), List.forall_mem_cons.mpr ⟨va_Nw.warmC hW (h _ (List.mem_of_getElem? (i := 5) rfl)), fun _ h => nomatch h⟩⟩⟩⟩⟩⟩
theorem XN_moved {s U : State} (hW : s.vm.Alike U.vm) (h : XN s) : XN U := ⟨⟨va_Nc.moved hW h.1.1, va_Nc.moved hW h.1.2⟩, ⟨va_Nc.moved hW h.2.1.1, va_Nc.moved hW h.2.1.2⟩, va_Nc.moved hW h.2.2.1, va_Nc.moved hW h.2.2.2⟩
theorem XP_at {A B : Nat → Prop} {s U : State} {H : Heap} {locs : List Loc} (h : XP A s) (hS : va_S A s.heap H locs) (hB : ∀ q, B q → A q) (hU : U.heap = H) (hW : s.WarmedH U.vm) : XP B U := by
  obtain ⟨⟨h1, h2⟩, h3, h4, h5⟩ := h
  refine ⟨⟨?_, ?_⟩, fun q hq => ?_, XB_warm hW h4, XN_moved hW.alike h5⟩
  · rw [hU]; exact vx_Zq.narrow (vx_Zq.moved hW.alike (vx_Zq.kept h1 hS.2.1)) hB
  · rw [hU]; exact vx_Zq.narrow (vx_Zq.moved hW.alike (vx_Zq.kept h2 hS.2.1)) hB
  · obtain ⟨a, ha⟩ := h3 q hq
    exact ⟨a, vk_R.warm hW ha⟩
theorem XP_blind {D : va_G} {σ : Nat → Nat} {cA : Nat → ClassId} {sz : Nat} {w : List sc} {av : List Value} {A : Nat → Prop} : FrameBlind (va_Pc av (fun U => wPre D σ cA sz w U ∧ XP A U)) := by
  intro a U g mk q
  obtain ⟨q0, q1, ⟨h1, h2⟩, h3, h4, h5⟩ := q
  refine ⟨q0, (wPre_blind (av := av) a U g mk ⟨q0, q1⟩).2, ⟨vx_Zq.moved (u := U) (U := U.calling g mk a) (Vm.Alike.refl U.vm) h1, vx_Zq.moved (u := U) (U := U.calling g mk a) (Vm.Alike.refl U.vm) h2⟩, fun q hq => ?_, fun w hw => va_Nw.same (u := U) (U := U.calling g mk a) (List.all_eq_true.mp (show (XBl.all fun w => w.onTables) = true by decide +kernel) w hw) rfl (h4 w hw), XN_moved (s := U) (U := U.calling g mk a) (Vm.Alike.refl U.vm) h5⟩
  obtain ⟨b, hb⟩ := h3 q hq
  exact ⟨b, vk_R.same rfl hb⟩
section RUNC
variable {p : Program} {l : Launch} {e : Env} {R : Room} {s : State} {m : MethodId} {args : Array Value} {below : List Frame} {meth : Method} {c : Code} {D : va_G} {σ : Nat → Nat} {cA : Nat → ClassId} {A : Nat → Prop} {nL : Nat} {Q : State → Prop}
def RunC (p : Program) (l : Launch) (e : Env) (R : Room) (s : State) (m : MethodId) (args : Array Value) (below : List Frame) (meth : Method) (c : Code) (D : va_G) (cA : Nat → ClassId) (A : Nat → Prop) (nL pc : Nat) (vk : Option Nat) (na mc ms : Nat) (F : Fn) : Prop :=
  ∀ (σ : Nat → Nat) (H : Heap) (locs : List Loc) (ls : Array Slot) (as : List sv) (w : List sc) (K : Option sv → List sc → Prop) (restV : List Value) (cl sl : Nat), F as w K → as.length = na → rok vk as w True → va_P D vwCl (tw σ cA 0 w) H → va_D A (tw σ cA 0 w) → va_S A s.heap H locs → ls.size = nL → (restV.map fun v => v.category).sum ≤ 8 → cl + mc ≤ R.cells → sl + ms ≤ R.slots →
    va_Run p l e R s m args below meth c H locs cl sl mc ms (F0 m pc ls ((as.map (tv σ)).reverse ++ restV)) restV (Qg D σ cA (va_A (tw σ cA 0 w) H.size) K (as.map (tv σ)).toArray) (va_A (tw σ cA 0 w) H.size)
def RunX (p : Program) (l : Launch) (e : Env) (R : Room) (s : State) (m : MethodId) (args : Array Value) (below : List Frame) (meth : Method) (c : Code) (D : va_G) (cA : Nat → ClassId) (A : Nat → Prop) (nL pc : Nat) (vk : Option Nat) (na mc ms : Nat) (F : Fx) : Prop :=
  ∀ (σ : Nat → Nat) (H : Heap) (locs : List Loc) (ls : Array Slot) (as : List sv) (w : List sc) (K : Option sv → List sc → Prop) (KX : String → List sc → Prop) (restV : List Value) (cl sl : Nat), F as w K KX → as.length = na → rok vk as w True → va_P D vwCl (tw σ cA 0 w) H → va_D A (tw σ cA 0 w) → va_S A s.heap H locs → ls.size = nL → (restV.map fun v => v.category).sum ≤ 8 → cl + mc ≤ R.cells → sl + ms ≤ R.slots →
    vx_Run p l e R s m args below meth c H locs cl sl mc ms (F0 m pc ls ((as.map (tv σ)).reverse ++ restV)) restV (Qg D σ cA (va_A (tw σ cA 0 w) H.size) K (as.map (tv σ)).toArray) (XG D σ cA (va_A (tw σ cA 0 w) H.size) KX) (va_A (tw σ cA 0 w) H.size)
theorem A_sub {w : List sc} {H : Heap} {locs : List Loc} (hA : ∀ q, s.heap.size ≤ q → A q) (hD : va_D A (tw σ cA 0 w)) (hS : va_S A s.heap H locs) : ∀ q, va_A (tw σ cA 0 w) H.size q → A q := by
  intro q h
  rcases h with ⟨k, e, h⟩ | h
  · exact hD.2 k _ h
  · exact hA q (Nat.le_trans hS.1 h)
/-- methods without throws -/
theorem run_VC {cc cc' : ByteArray} {nL' d' pc idx na ci nx tg : Nat} {li : Int32} {rt rt' : Option FieldType} {own : String} {y : MethodName} {F : Fn} (X : Cx p s m args meth c D cA cc nL rt own) (hnw : NW s) (hd : xdec cc pc = some (.invokevirtual idx, nx, tg, li)) (hct : Ct y cc' nL' rt' d' F) (k : KV y cc' nL' rt' na ci) (hl : Cond.methodLink own idx y ∈ uW) (hR : d' + 1 ≤ R.frames ∧ 100 * d' + 100 ≤ R.locals) : RunC p l e R s m args below meth c D cA A nL pc (some ci) (na + 1) 0 0 F := by
  obtain ⟨hcode, hst, hse, hin, hdd, ⟨T, N, hci⟩, hnl, -⟩ := k
  have hdg := xd_V hd
  intro σ H locs ls as w K restV cl sl hF hlen hrok hP hD hS hls hrc hc0 hs0
  obtain ⟨hx, hb, hml, hown, hts, hK, hlocks, hr⟩ := X
  have hM := hct l D σ cA H.size as w K hF
  have cb : CallB R s args own idx y cc' nL' rt' (.code y cc' nL' rt' :: uW) (rmd d') 0 0 na := callB_of na hts (good_code hcode) rfl rfl rfl (hts _ hin) (hts _ hl) hdd ⟨hR.1, by show 8 + (nL' + 11) + 100 * d' ≤ R.locals; omega⟩
  match as, hrok with
  | .inr (.inr (some k)) :: as', hrok =>
    obtain ⟨cj, fs, hw, hcj⟩ := cO_e hrok; obtain ⟨rfl, -⟩ := cq_e hcj
    have he := tw_nth (σ := σ) (cA := cA) (k := 0) hw
    rw [Nat.zero_add] at he
    have hst' : (((.inr (.inr (some k)) :: as' : List sv).map (tv σ)).reverse ++ restV) = (as'.map (tv σ)).reverse ++ Value.ref (σ k) :: restV := by simp [tv, va_rf]
    rw [hst']
    exact va_runV (C := y.cls) (As := as'.map (tv σ)) (rest := restV) (nL := nL) (n := na) ⟨hx, hb, hml, hown, hts⟩ hM ⟨cb, hts _ hst, hts _ hse⟩ ⟨wPre_blind, va_recv hK hP hci he, fun U hU hW => ⟨rfl, wPre_at hK hnw hP hD U hU hW⟩⟩ rfl (by rw [List.length_map]; simpa using hlen) hls rfl (lv_room hrc) hdg ⟨by simpa using hc0, by simpa using hs0⟩
theorem run_SC {cc cc' : ByteArray} {nL' d' pc idx na nx tg : Nat} {li : Int32} {rt rt' : Option FieldType} {own : String} {y : MethodName} {F : Fn} (X : Cx p s m args meth c D cA cc nL rt own) (hnw : NW s) (hd : xdec cc pc = some (.invokestatic idx, nx, tg, li)) (hct : Ct y cc' nL' rt' d' F) (k : KS y cc' nL' rt' na) (hl : Cond.methodLink own idx y ∈ uW) (hR : d' + 1 ≤ R.frames ∧ 100 * d' + 100 ≤ R.locals) : RunC p l e R s m args below meth c D cA A nL pc none na 0 0 F := by
  obtain ⟨hcode, hst, hin, hdd, hnl, -⟩ := k
  have hdg := xd_S hd
  intro σ H locs ls as w K restV cl sl hF hlen hrok hP hD hS hls hrc hc0 hs0
  obtain ⟨hx, hb, hml, hown, hts, hK, hlocks, hr⟩ := X
  have hM := hct l D σ cA H.size as w K hF
  have cb : CallB R s args own idx y cc' nL' rt' (.code y cc' nL' rt' :: uW) (rmd d') 0 0 na := callB_of na hts (good_code hcode) rfl rfl rfl (hts _ hin) (hts _ hl) hdd ⟨hR.1, by show 8 + (nL' + 11) + 100 * d' ≤ R.locals; omega⟩
  exact va_runS (As := as.map (tv σ)) (rest := restV) (nL := nL) ⟨hx, hb, hml, hown, hts⟩ hM ⟨cb, hts _ hst⟩ ⟨wPre_blind, fun U hU hW => ⟨rfl, wPre_at hK hnw hP hD U hU hW⟩⟩ rfl (by rw [List.length_map]; exact hlen) hls rfl (lv_room hrc) hdg ⟨by simpa using hc0, by simpa using hs0⟩
/-- methods that throw -/
theorem run_VX {cc cc' : ByteArray} {nL' d' pc idx na ci nx tg : Nat} {li : Int32} {rt rt' : Option FieldType} {own : String} {y : MethodName} {F : Fx} (hl0 : l.stackTraces = false) (X : Cx p s m args meth c D cA cc nL rt own) (hnw : NW s) (hXP : XP A s) (hA : ∀ q, s.heap.size ≤ q → A q) (hd : xdec cc pc = some (.invokevirtual idx, nx, tg, li)) (hct : CtX y cc' nL' rt' d' F) (k : KV y cc' nL' rt' na ci) (hl : Cond.methodLink own idx y ∈ uW) (hR : d' + 1 ≤ R.frames ∧ 100 * d' + 100 ≤ R.locals) : RunX p l e R s m args below meth c D cA A nL pc (some ci) (na + 1) 1 6 F := by
  obtain ⟨hcode, hst, hse, hin, hdd, ⟨T, N, hci⟩, hnl, -⟩ := k
  have hdg := xd_V hd
  intro σ H locs ls as w K KX restV cl sl hF hlen hrok hP hD hS hls hrc hc0 hs0
  obtain ⟨hx, hb, hml, hown, hts, hK, hlocks, hr⟩ := X
  have hM := hct l D σ cA H.size as w K KX hl0 hF
  have cb : CallB R s args own idx y cc' nL' rt' (.code y cc' nL' rt' :: uW) (rmN d' 1 6) 1 6 na := callB_of na hts (good_code hcode) rfl rfl rfl (hts _ hin) (hts _ hl) hdd ⟨hR.1, by show 8 + (nL' + 11) + 100 * d' ≤ R.locals; omega⟩
  match as, hrok with
  | .inr (.inr (some k)) :: as', hrok =>
    obtain ⟨cj, fs, hw, hcj⟩ := cO_e hrok; obtain ⟨rfl, -⟩ := cq_e hcj
    have he := tw_nth (σ := σ) (cA := cA) (k := 0) hw
    rw [Nat.zero_add] at he
    have hst' : (((.inr (.inr (some k)) :: as' : List sv).map (tv σ)).reverse ++ restV) = (as'.map (tv σ)).reverse ++ Value.ref (σ k) :: restV := by simp [tv, va_rf]
    rw [hst']
    exact vx_runV (C := y.cls) (As := as'.map (tv σ)) (rest := restV) (nL := nL) (n := na) ⟨hx, hb, hml, hown, hts⟩ hM ⟨cb, hts _ hst, hts _ hse⟩ ⟨XP_blind, va_recv hK hP hci he, fun U hU hW => ⟨rfl, wPre_at hK hnw hP hD U hU hW, XP_at hXP hS (A_sub hA hD hS) hU hW⟩⟩ rfl (by rw [List.length_map]; simpa using hlen) hls rfl (lv_room hrc) hdg ⟨hc0, hs0⟩
theorem run_SX {cc cc' : ByteArray} {nL' d' pc idx na nx tg : Nat} {li : Int32} {rt rt' : Option FieldType} {own : String} {y : MethodName} {F : Fx} (hl0 : l.stackTraces = false) (X : Cx p s m args meth c D cA cc nL rt own) (hnw : NW s) (hXP : XP A s) (hA : ∀ q, s.heap.size ≤ q → A q) (hd : xdec cc pc = some (.invokestatic idx, nx, tg, li)) (hct : CtX y cc' nL' rt' d' F) (k : KS y cc' nL' rt' na) (hl : Cond.methodLink own idx y ∈ uW) (hR : d' + 1 ≤ R.frames ∧ 100 * d' + 100 ≤ R.locals) : RunX p l e R s m args below meth c D cA A nL pc none na 1 6 F := by
  obtain ⟨hcode, hst, hin, hdd, hnl, -⟩ := k
  have hdg := xd_S hd
  intro σ H locs ls as w K KX restV cl sl hF hlen hrok hP hD hS hls hrc hc0 hs0
  obtain ⟨hx, hb, hml, hown, hts, hK, hlocks, hr⟩ := X
  have hM := hct l D σ cA H.size as w K KX hl0 hF
  have cb : CallB R s args own idx y cc' nL' rt' (.code y cc' nL' rt' :: uW) (rmN d' 1 6) 1 6 na := callB_of na hts (good_code hcode) rfl rfl rfl (hts _ hin) (hts _ hl) hdd ⟨hR.1, by show 8 + (nL' + 11) + 100 * d' ≤ R.locals; omega⟩
  exact vx_runS (As := as.map (tv σ)) (rest := restV) (nL := nL) ⟨hx, hb, hml, hown, hts⟩ hM ⟨cb, hts _ hst⟩ ⟨XP_blind, fun U hU hW => ⟨rfl, wPre_at hK hnw hP hD U hU hW, XP_at hXP hS (A_sub hA hD hS) hU hW⟩⟩ rfl (by rw [List.length_map]; exact hlen) hls rfl (lv_room hrc) hdg ⟨hc0, hs0⟩
/-- a call on a chosen part of the world -/
theorem site_C {pc na mc ms : Nat} {vk : Option Nat} {F : Fn} (hA : ∀ q, s.heap.size ≤ q → A q) (hR : RunC p l e R s m args below meth c D cA A nL pc vk na mc ms F) {lv : List (Option sv)} {st : List sv} {w : List sc} {cl sl : Nat} {kk : List sv → List sc → Nat → Nat → Prop} (h : cD R.cells R.slots vk na F mc ms lv st w cl sl kk) (hk : ∀ st' w' cl' sl', kk st' w' cl' sl' → Zy p l e R s m args below meth c D σ cA A s.heap nL cl' sl' Q (pc + 3) lv st' w') : Zy p l e R s m args below meth c D σ cA A s.heap nL cl sl Q pc lv st w := by
  intro H locs ls hP hD hS hlv
  obtain ⟨as, rest, rfl, hlen, hh⟩ := popN_e h
  rw [List.append_nil] at hh
  obtain ⟨hrc, ⟨hc0, hs0⟩, is, hn, hh⟩ := ck_e hh
  have hrc := Nat.le_of_ble_eq_true hrc
  obtain ⟨cs, hh, hcl, hcs⟩ := pick_e hh
  obtain ⟨hrok, hF⟩ := rok_e hh
  obtain ⟨hPc, hDc, hback⟩ := subw hn hcl hcs hP hD
  have hrun := hR (fun k => σ (un is k)) H locs ls _ _ _ (rest.map (tv σ)) cl sl hF (by rw [List.length_map]; exact hlen) hrok hPc hDc hS hlv.1 (by rw [rcat_ok]; exact hrc) hc0 hs0
  have hFc := A_sub hA hDc hS
  rw [as_ren] at hrun
  rw [List.map_append, List.map_reverse]
  refine run_goZ hrun hS (fun q _ h => hFc q h) hFc (fun r wc H1 locs1 hK1 hP1 hD1 _ hkp hS1 => ?_)
  obtain ⟨hl1, hK1⟩ := ck_e hK1
  obtain ⟨hP2, hD2⟩ := hback wc H1 (Nat.eq_of_beq_eq_true hl1) hP1 hkp
  have := hk _ _ _ _ hK1 H1 locs1 ls hP2 hD2 hS1 hlv
  rwa [oL_ok, r_unr] at this
/-- a call on the whole world -/
def cDs (Rc Rs : Nat) (vk : Option Nat) (na : Nat) (F : Fn) (mc ms : Nat) (_ : List (Option sv)) (st : List sv) (w : List sc) (cl sl : Nat) (kk : List sv → List sc → Nat → Nat → Prop) : Prop :=
  popN na st [] fun as rest => ck (Nat.ble (rcat rest) 8) ((cl + mc ≤ Rc ∧ sl + ms ≤ Rs) ∧ rok vk as w (F as w fun r w' => kk (oL r ++ rest) w' (cl + mc) (sl + ms)))
theorem site_Cs {pc na mc ms : Nat} {vk : Option Nat} {F : Fn} (hA : ∀ q, s.heap.size ≤ q → A q) (hR : RunC p l e R s m args below meth c D cA A nL pc vk na mc ms F) {lv : List (Option sv)} {st : List sv} {w : List sc} {cl sl : Nat} {kk : List sv → List sc → Nat → Nat → Prop} (h : cDs R.cells R.slots vk na F mc ms lv st w cl sl kk) (hk : ∀ st' w' cl' sl', kk st' w' cl' sl' → Zy p l e R s m args below meth c D σ cA A s.heap nL cl' sl' Q (pc + 3) lv st' w') : Zy p l e R s m args below meth c D σ cA A s.heap nL cl sl Q pc lv st w := by
  intro H locs ls hP hD hS hlv
  obtain ⟨as, rest, rfl, hlen, hh⟩ := popN_e h
  rw [List.append_nil] at hh
  obtain ⟨hrc, ⟨hc0, hs0⟩, hh⟩ := ck_e hh
  have hrc := Nat.le_of_ble_eq_true hrc
  obtain ⟨hrok, hF⟩ := rok_e hh
  have hrun := hR σ H locs ls _ _ _ (rest.map (tv σ)) cl sl hF hlen hrok hP hD hS hlv.1 (by rw [rcat_ok]; exact hrc) hc0 hs0
  have hFc := A_sub hA hD hS
  rw [List.map_append, List.map_reverse]
  refine run_goZ hrun hS (fun q _ h => hFc q h) hFc (fun r w' H1 locs1 hK1 hP1 hD1 _ _ hS1 => ?_)
  have := hk _ _ _ _ hK1 H1 locs1 ls hP1 (hD1.weaken (fun _ _ _ h => hFc _ h)) hS1 hlv
  rwa [oL_ok] at this
/-- a call that throws: what is thrown over the frame -/
def ZX (p : Program) (l : Launch) (e : Env) (R : Room) (s : State) (m : MethodId) (args : Array Value) (below : List Frame) (meth : Method) (c : Code) (D : va_G) (σ : Nat → Nat) (cA : Nat → ClassId) (A : Nat → Prop) (H0 : Heap) (nL cl sl : Nat) (Q : State → Prop) (E : String) (pc : Nat) (lv : List (Option sv)) (rest : List sv) (w : List sc) : Prop :=
  ∀ (H : Heap) (locs : List Loc) (ls : Array Slot) (q : Addr) (ce : Cell), va_P D vwCl (tw σ cA 0 w) H → va_D A (tw σ cA 0 w) → va_S A H0 H locs → lv_has ls nL (tl σ 0 lv) → H[q]? = some ce → ce.vm = .none → s.vm.findClass E = some ce.cls → vx_W p l e R s m args below meth c H locs cl sl Q (F0 m pc ls (rest.map (tv σ))) q
def cEX (vk : Option Nat) (F : Fx) (as : List sv) (w : List sc) (kk : Option sv → List sc → Prop) (kx : String → List sc → Prop) : Prop := ∃ is : List Nat, va_nd is = true ∧ pick is w fun cs => rok vk (as.map (renv is)) (cs.map (renc is)) (F (as.map (renv is)) (cs.map (renc is)) (fun r wc => ck (Nat.beq is.length wc.length) (kk (r.map (unrv is)) (putw is is w wc))) (fun E wc => ck (Nat.beq is.length wc.length) (kx E (putw is is w wc))))
theorem run_goX {A0 A1 : Nat → Prop} {H0 H : Heap} {locs : List Loc} {K : Option sv → List sc → Prop} {KX : String → List sc → Prop} {free : Addr → Prop} {a : Array Value} {pc cl sl mc ms : Nat} {ls : Array Slot} {st0 rest : List Value} (hr : vx_Run p l e R s m args below meth c H locs cl sl mc ms (F0 m pc ls st0) rest (Qg D σ cA A1 K a) (XG D σ cA A1 KX) free) (hS : va_S A0 H0 H locs) (hA : ∀ q, q < H.size → A1 q → A0 q) (hf : ∀ q, free q → A0 q)
    (kk : ∀ (r : Option sv) (w' : List sc) (H1 : Heap) (locs1 : List Loc), K r w' → va_P D vwCl (tw σ cA 0 w') H1 → (∀ q : Nat, q < H.size → ¬ A1 q → H1[q]? = H[q]?) → va_S A0 H0 H1 locs1 → W p l e R s m args below meth c H1 locs1 (cl + mc) (sl + ms) Q (F0 m (pc + 3) ls ((r.map (tv σ)).toList ++ rest)))
    (kx : ∀ (E : String) (w' : List sc) (H1 : Heap) (locs1 : List Loc) (q : Addr) (ce : Cell), KX E w' → va_P D vwCl (tw σ cA 0 w') H1 → (∀ q : Nat, q < H.size → ¬ A1 q → H1[q]? = H[q]?) → va_S A0 H0 H1 locs1 → H1[q]? = some ce → ce.vm = .none → s.vm.findClass E = some ce.cls → vx_W p l e R s m args below meth c H1 locs1 (cl + mc) (sl + ms) Q (F0 m pc ls rest) q) : W p l e R s m args below meth c H locs cl sl Q (F0 m pc ls st0) := by
  intro T hT X
  rcases hr T hT X with ⟨v, st₀, t, T', L, h0, X', hL, e1, e2, ⟨⟨r, w', hv, hk, hp, hd⟩, hF⟩, st⟩ | ⟨q, st₀, t, T', L, E, ce, h0, X', hL, e1, e2, ⟨w', hk, hp, hd, hF⟩, hce, hcv, hcl, st⟩
  · cases hv
    obtain ⟨k1, k2, k3⟩ := vx_keep h0 e1 hS hA hf hL hF
    obtain ⟨t2, a1, b1⟩ := kk r w' T'.heap (locs ++ L) hk (by rw [e1]; exact hp) k2 k3 T' rfl X'
    exact ⟨t2, st t2 a1, b1⟩
  · obtain ⟨k1, k2, k3⟩ := vx_keep h0 e1 hS hA hf hL hF
    obtain ⟨t2, a1, b1⟩ := kx E w' T'.heap (locs ++ L) q ce hk (by rw [e1]; exact hp) k2 k3 (by rw [e1]; exact hce) hcv hcl T' rfl X'
    exact ⟨t2, st.trans a1, b1⟩
theorem site_X {pc na mc ms : Nat} {vk : Option Nat} {F : Fx} (hA : ∀ q, s.heap.size ≤ q → A q) (hR : RunX p l e R s m args below meth c D cA A nL pc vk na mc ms F) {lv : List (Option sv)} {as rest : List sv} {w : List sc} {cl sl : Nat} {kk : Option sv → List sc → Prop} {kx : String → List sc → Prop} (h : cEX vk F as w kk kx) (hlen : as.length = na) (hrc : rcat rest ≤ 8) (hc0 : cl + mc ≤ R.cells) (hs0 : sl + ms ≤ R.slots)
    (hk : ∀ r w', kk r w' → Zy p l e R s m args below meth c D σ cA A s.heap nL (cl + mc) (sl + ms) Q (pc + 3) lv (oL r ++ rest) w') (hx : ∀ E w', kx E w' → ZX p l e R s m args below meth c D σ cA A s.heap nL (cl + mc) (sl + ms) Q E pc lv rest w') : Zy p l e R s m args below meth c D σ cA A s.heap nL cl sl Q pc lv (as.reverse ++ rest) w := by
  intro H locs ls hP hD hS hlv
  obtain ⟨is, hn, hh⟩ := h
  obtain ⟨cs, hh, hcl, hcs⟩ := pick_e hh
  obtain ⟨hrok, hF⟩ := rok_e hh
  obtain ⟨hPc, hDc, hback⟩ := subw hn hcl hcs hP hD
  have hrun := hR (fun k => σ (un is k)) H locs ls _ _ _ _ (rest.map (tv σ)) cl sl hF (by rw [List.length_map]; exact hlen) hrok hPc hDc hS hlv.1 (by rw [rcat_ok]; exact hrc) hc0 hs0
  have hFc := A_sub hA hDc hS
  rw [as_ren] at hrun
  rw [List.map_append, List.map_reverse]
  refine run_goX hrun hS (fun q _ h => hFc q h) hFc (fun r wc H1 locs1 hK1 hP1 hkp hS1 => ?_) (fun E wc H1 locs1 q ce hK1 hP1 hkp hS1 h1 h2 h3 => ?_)
  · obtain ⟨hl1, hK1⟩ := ck_e hK1
    obtain ⟨hP2, hD2⟩ := hback wc H1 (Nat.eq_of_beq_eq_true hl1) hP1 hkp
    have := hk _ _ hK1 H1 locs1 ls hP2 hD2 hS1 hlv
    rwa [oL_ok, r_unr] at this
  · obtain ⟨hl1, hK1⟩ := ck_e hK1
    obtain ⟨hP2, hD2⟩ := hback wc H1 (Nat.eq_of_beq_eq_true hl1) hP1 hkp
    exact hx _ _ hK1 H1 locs1 ls q ce hP2 hD2 hS1 hlv h1 h2 h3
/-- caught, and put away -/
theorem z_catch {cc : ByteArray} {rt : Option FieldType} {own name E : String} {pc n hp c0 s0 : Nat} {lv : List (Option sv)} {rest : List sv} {w : List sc} (X : Cx p s m args meth c D cA cc nL rt own) (pre : List ExceptionTableEntry) (x : ExceptionTableEntry) (suf : List ExceptionTableEntry) (hsplit : c.exceptionTable.toList = pre ++ x :: suf)
    (hpass : ∀ z ∈ pre, covers z pc = false ∨ (z.catchType ≠ 0 ∧ ∃ nm : String, (Cond.classLink own z.catchType nm).before args s = true ∧ va_Nc E nm s)) (hx : covers x pc = true) (h0 : x.catchType ≠ 0) (hlink : Cond.classLink own x.catchType name ∈ uW) (hcast : (Cond.castable E name).before args s = true) (hh : x.handlerPc = hp)
    (hdg : decode cc hp = .ok (.astore n, 2)) (hn : n < nL) (k : Zy p l e R s m args below meth c D σ cA A s.heap nL c0 s0 Q (hp + 2) (sl (kl2 lv n) n none) [] w) : ZX p l e R s m args below meth c D σ cA A s.heap nL c0 s0 Q E pc lv rest w := by
  obtain ⟨hx1, hb, hml, hown, hts, hK, hlocks, hr⟩ := X
  intro H locs ls q ce hP hD hS hlv g1 g2 g3
  refine vx_catch hown pre x suf hsplit hpass hx h0 (hts _ hlink) hcast g1 g2 g3 ?_
  rw [hh]
  exact lv_astore hx1 hb hdg hlv hn rfl (fun ls' hl' => k H locs ls' hP hD hS (lvh_sub hl' (fun q hq => List.mem_cons_of_mem _ (tl_st0 q hq))))
end RUNC
