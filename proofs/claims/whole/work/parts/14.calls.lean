/-! ===== calls: in the same world, in a part of it ===== -/
def popN : Nat → List sv → List sv → (List sv → List sv → Prop) → Prop
  | 0, st, acc, f => f acc st
  | n + 1, v :: st, acc, f => popN n st (v :: acc) f
  | _ + 1, [], _, _ => False
theorem popN_e : ∀ {n : Nat} {st acc : List sv} {f : List sv → List sv → Prop}, popN n st acc f → ∃ as rest, st = as.reverse ++ rest ∧ as.length = n ∧ f (as ++ acc) rest
  | 0, st, acc, f, h => ⟨[], st, rfl, rfl, h⟩
  | n + 1, [], acc, f, h => h.elim
  | n + 1, v :: st, acc, f, h => by
    obtain ⟨as, rest, h1, h2, h3⟩ := popN_e (show popN n st (v :: acc) f from h)
    exact ⟨as ++ [v], rest, by rw [h1]; simp, by simp [h2], by simpa using h3⟩
def rcat : List sv → Nat
  | [] => 0
  | .inl _ :: r => rcat r + 1
  | .inr (.inl _) :: r => rcat r + 2
  | .inr (.inr _) :: r => rcat r + 1
theorem rcat_ok (σ : Nat → Nat) : ∀ (st : List sv), ((st.map (tv σ)).map fun v => v.category).sum = rcat st
  | [] => rfl
  | .inl x :: r => by simp [rcat, tv, Value.category, ← rcat_ok σ r]; omega
  | .inr (.inl x) :: r => by simp [rcat, tv, Value.category, ← rcat_ok σ r]; omega
  | .inr (.inr x) :: r => by simp [rcat, tv, rf_cat, ← rcat_ok σ r]; omega
def rok : Option Nat → List sv → List sc → Prop → Prop
  | none, _, _, A => A
  | some ci, .inr (.inr (some k)) :: _, w, A => cO (nth w k) fun cj _ => cq cj ci A
  | _, _, _, _ => False
theorem rok_e {vk : Option Nat} {as : List sv} {w : List sc} {A : Prop} (h : rok vk as w A) : rok vk as w True ∧ A := by
  unfold rok at h; split at h
  · exact ⟨trivial, h⟩
  · obtain ⟨ci, fs, h1, h2⟩ := cO_e h
    obtain ⟨rfl, h3⟩ := cq_e h2
    refine ⟨?_, h3⟩
    show cO _ _
    rw [h1]
    show ck (Nat.beq _ _) True
    rw [Nat.beq_refl]
    trivial
  · exact h.elim
def oL : Option sv → List sv
  | none => []
  | some v => [v]
theorem oL_ok (σ : Nat → Nat) (r : Option sv) (rest : List sv) : (oL r ++ rest).map (tv σ) = (r.map (tv σ)).toList ++ rest.map (tv σ) := by cases r <;> simp [oL]
/-- a call on the whole world -/
def cS (vk : Option Nat) (na : Nat) (F : Fn) (st : List sv) (w : List sc) (kk : List sv → List sc → Prop) : Prop :=
  popN na st [] fun as rest => ck (Nat.ble (rcat rest) 8) (rok vk as w (F as w fun r w' => kk (oL r ++ rest) w'))
def ixo : List Nat → Nat → Nat → Nat → Nat
  | [], x, _, n => n + x
  | a :: r, x, k, n => if x = a then k else ixo r x (k + 1) n
def rn (is : List Nat) (x : Nat) : Nat := ixo is x 0 is.length
def unO (n k : Nat) : Option Nat → Nat
  | some i => i
  | none => k - n
def un (is : List Nat) (k : Nat) : Nat := unO is.length k (nth is k)
theorem ixo_un : ∀ (pre r : List Nat) (x : Nat), un (pre ++ r) (ixo r x pre.length (pre ++ r).length) = x
  | pre, [], x => by
    have h : nth pre (pre.length + x) = none := by rw [nth_eq]; simp
    simp [ixo, un, h, unO]
  | pre, a :: r, x => by
    unfold ixo
    by_cases e : x = a
    · subst e
      simp [un, nth_eq, unO]
    · rw [if_neg e]
      have := ixo_un (pre ++ [a]) r x
      simpa using this
theorem un_rn (is : List Nat) (x : Nat) : un is (rn is x) = x := ixo_un [] is x
def renv (is : List Nat) : sv → sv
  | .inl x => .inl x
  | .inr (.inl x) => .inr (.inl x)
  | .inr (.inr none) => .inr (.inr none)
  | .inr (.inr (some x)) => .inr (.inr (some (rn is x)))
def unrv (is : List Nat) : sv → sv
  | .inl x => .inl x
  | .inr (.inl x) => .inr (.inl x)
  | .inr (.inr none) => .inr (.inr none)
  | .inr (.inr (some x)) => .inr (.inr (some (un is x)))
def renc (is : List Nat) : sc → sc
  | .inl (ci, fs) => .inl (ci, fs.map (renv is))
  | .inr (t, n, .inl f) => .inr (t, n, .inl f)
  | .inr (t, n, .inr (.inl f)) => .inr (t, n, .inr (.inl f))
  | .inr (t, n, .inr (.inr f)) => .inr (t, n, .inr (.inr (fun i => (f i).map (rn is))))
def unrc (is : List Nat) : sc → sc
  | .inl (ci, fs) => .inl (ci, fs.map (unrv is))
  | .inr (t, n, .inl f) => .inr (t, n, .inl f)
  | .inr (t, n, .inr (.inl f)) => .inr (t, n, .inr (.inl f))
  | .inr (t, n, .inr (.inr f)) => .inr (t, n, .inr (.inr (fun i => (f i).map (un is))))
theorem tv_ren (σ : Nat → Nat) (is : List Nat) (v : sv) : tv (fun k => σ (un is k)) (renv is v) = tv σ v := by
  rcases v with x | x | x
  · rfl
  · rfl
  · cases x with
    | none => rfl
    | some x => simp [renv, tv, un_rn]
theorem tv_unr (σ : Nat → Nat) (is : List Nat) (v : sv) : tv σ (unrv is v) = tv (fun k => σ (un is k)) v := by
  rcases v with x | x | x
  · rfl
  · rfl
  · cases x <;> rfl
theorem tc_ren (σ : Nat → Nat) (cA : Nat → ClassId) (is : List Nat) (c : sc) : tc (fun k => σ (un is k)) cA (renc is c) = tc σ cA c := by
  rcases c with ⟨ci, fs⟩ | ⟨t, n, f | f | f⟩
  · simp [renc, tc, tv_ren]
  · rfl
  · rfl
  · have e : (fun i => ((f i).map (rn is)).map (fun k => σ (un is k))) = (fun i => (f i).map σ) := by
      funext i
      cases f i with
      | none => rfl
      | some x => simp [un_rn]
    simp only [renc, tc]
    rw [e]
theorem tc_unr (σ : Nat → Nat) (cA : Nat → ClassId) (is : List Nat) (c : sc) : tc σ cA (unrc is c) = tc (fun k => σ (un is k)) cA c := by
  rcases c with ⟨ci, fs⟩ | ⟨t, n, f | f | f⟩
  · have e : (fs.map (unrv is)).map (tv σ) = fs.map (tv (fun k => σ (un is k))) := by
      rw [List.map_map]
      exact List.map_congr_left (fun v _ => tv_unr σ is v)
    simp only [unrc, tc]
    rw [e]
  · rfl
  · rfl
  · have e : (fun i => ((f i).map (un is)).map σ) = (fun i => (f i).map (fun k => σ (un is k))) := by
      funext i
      cases f i <;> rfl
    simp only [unrc, tc]
    rw [e]
def pick : List Nat → List sc → (List sc → Prop) → Prop
  | [], _, f => f []
  | i :: r, w, f => oO (nth w i) fun c => pick r w fun cs => f (c :: cs)
theorem pick_e : ∀ {is : List Nat} {w : List sc} {f : List sc → Prop}, pick is w f → ∃ cs, f cs ∧ cs.length = is.length ∧ ∀ k i, nth is k = some i → ∃ c, nth w i = some c ∧ nth cs k = some c
  | [], w, f, h => ⟨[], h, rfl, fun k i hk => by cases k <;> cases hk⟩
  | i :: r, w, f, h => by
    obtain ⟨c, hc, h⟩ := oO_e h
    obtain ⟨cs, h1, h2, h3⟩ := pick_e h
    refine ⟨c :: cs, h1, by simp [h2], fun k j hk => ?_⟩
    cases k with
    | zero => cases hk; exact ⟨c, hc, rfl⟩
    | succ k => exact h3 k j hk
def putw (is0 : List Nat) : List Nat → List sc → List sc → List sc
  | i :: r, w, c :: cs => putw is0 r (snth w i (unrc is0 c)) cs
  | _, w, _ => w
theorem nth_snth {α : Type} : ∀ (l : List α) (i j : Nat) (x c : α), nth (snth l i x) j = some c → (j = i ∧ c = x ∧ ∃ c', nth l j = some c') ∨ (j ≠ i ∧ nth l j = some c)
  | [], i, j, x, c, h => by simp [snth, nth] at h
  | a :: r, 0, 0, x, c, h => by cases h; exact Or.inl ⟨rfl, rfl, a, rfl⟩
  | a :: r, 0, j + 1, x, c, h => Or.inr ⟨by omega, h⟩
  | a :: r, i + 1, 0, x, c, h => Or.inr ⟨by omega, h⟩
  | a :: r, i + 1, j + 1, x, c, h => by
    rcases nth_snth r i j x c h with ⟨h1, h2, h3⟩ | ⟨h1, h2⟩
    · exact Or.inl ⟨by omega, h2, h3⟩
    · exact Or.inr ⟨by omega, h2⟩
theorem putw_e (is0 : List Nat) : ∀ {r : List Nat} {w cs : List sc} {j : Nat} {c : sc}, r.length = cs.length → nth (putw is0 r w cs) j = some c → (∃ k c', nth r k = some j ∧ nth cs k = some c' ∧ c = unrc is0 c') ∨ (j ∉ r ∧ nth w j = some c)
  | [], w, [], j, c, _, h => Or.inr ⟨by simp, h⟩
  | i :: r, w, c0 :: cs, j, c, hl, h => by
    rcases putw_e is0 (r := r) (by simpa using hl) (show nth (putw is0 r (snth w i (unrc is0 c0)) cs) j = some c from h) with ⟨k, c', h1, h2, h3⟩ | ⟨h1, h2⟩
    · exact Or.inl ⟨k + 1, c', h1, h2, h3⟩
    · rcases nth_snth _ _ _ _ _ h2 with ⟨e, h3, -⟩ | ⟨e, h3⟩
      · exact Or.inl ⟨0, c0, by rw [e]; rfl, rfl, h3⟩
      · exact Or.inr ⟨by simp [e, h1], h3⟩
theorem putw_d (is0 : List Nat) : ∀ {r : List Nat} {w cs : List sc} {j : Nat} {c : sc}, nth (putw is0 r w cs) j = some c → ∃ c', nth w j = some c'
  | [], w, cs, j, c, h => by cases cs <;> exact ⟨c, h⟩
  | i :: r, w, [], j, c, h => ⟨c, h⟩
  | i :: r, w, c0 :: cs, j, c, h => by
    obtain ⟨c1, h1⟩ := putw_d is0 (r := r) (cs := cs) (show nth (putw is0 r (snth w i (unrc is0 c0)) cs) j = some c from h)
    rcases nth_snth _ _ _ _ _ h1 with ⟨-, -, h3⟩ | ⟨-, h3⟩
    · exact h3
    · exact ⟨_, h3⟩
/-- a call on a part of the world: the cells of the list -/
def cG (is : List Nat) (vk : Option Nat) (na : Nat) (F : Fn) (st : List sv) (w : List sc) (kk : List sv → List sc → Prop) : Prop :=
  popN na st [] fun as rest => ck (Nat.ble (rcat rest) 8) (pick is w fun cs => rok vk (as.map (renv is)) (cs.map (renc is)) (F (as.map (renv is)) (cs.map (renc is)) fun r wc => ck (Nat.beq is.length wc.length) (kk (oL (r.map (unrv is)) ++ rest) (putw is is w wc))))
theorem wPre_blind {D : va_G} {σ : Nat → Nat} {cA : Nat → ClassId} {sz : Nat} {w : List sc} {av : List Value} : FrameBlind (va_Pc av (wPre D σ cA sz w)) := by
  intro a U g mk q
  obtain ⟨q0, q1, qP, qK, qD, qN⟩ := q
  exact ⟨q0, q1, qP, va_K.moved (u := U) (U := U.calling g mk a) (Vm.Alike.refl U.vm) qK, qD, fun q hq => va_Nw.same rfl rfl (qN q hq)⟩
section RUN
variable {p : Program} {l : Launch} {e : Env} {R : Room} {s : State} {m : MethodId} {args : Array Value} {below : List Frame} {meth : Method} {c : Code} {D : va_G} {σ : Nat → Nat} {cA : Nat → ClassId} {A0 A1 : Nat → Prop} {H0 H : Heap} {nL : Nat} {locs : List Loc} {Q : State → Prop}
theorem wPre_at {w : List sc} (hK : va_K D vwCl (tysL cA) s) (hnw : NW s) (hP : va_P D vwCl (tw σ cA 0 w) H) (hD : va_D A0 (tw σ cA 0 w)) (U : State) (hU : U.heap = H) (hW : s.WarmedH U.vm) : wPre D σ cA H.size w U :=
  ⟨by rw [hU], by rw [hU]; exact hP, va_K.moved hW.alike hK, hD.weaken (fun _ _ _ _ => trivial), fun q hq => va_Nw.warmM hW (hnw q hq)⟩
theorem run_go {K : Option sv → List sc → Prop} {free : Addr → Prop} {a : Array Value} {pc : Nat} {ls : Array Slot} {st0 rest : List Value} (hr : va_Run p l e R s m args below meth c H locs 0 0 0 0 (F0 m pc ls st0) rest (Qg D σ cA A1 K a) free) (hS : va_S A0 H0 H locs) (hA : ∀ q, q < H.size → A1 q → A0 q) (hf : ∀ q, free q → A0 q)
    (kk : ∀ (r : Option sv) (w' : List sc) (H1 : Heap) (locs1 : List Loc), K r w' → va_P D vwCl (tw σ cA 0 w') H1 → va_D A1 (tw σ cA 0 w') → H.size ≤ H1.size → (∀ q : Nat, q < H.size → ¬ A1 q → H1[q]? = H[q]?) → va_S A0 H0 H1 locs1 → W p l e R s m args below meth c H1 locs1 0 0 Q (F0 m (pc + 3) ls ((r.map (tv σ)).toList ++ rest))) : W p l e R s m args below meth c H locs 0 0 Q (F0 m pc ls st0) := by
  intro T hT X
  obtain ⟨v, st₀, t, T', L, h0, X', hL, e1, e2, ⟨⟨r, w', hv, hk, hp, hd⟩, hz, hkp⟩, st⟩ := hr T hT X
  cases hv
  rw [h0] at hz hkp
  obtain ⟨t2, a1, b1⟩ := kk r w' T'.heap (locs ++ L) hk (by rw [e1]; exact hp) hd (by rw [e1]; exact hz) (fun q h1 h2 => by rw [e1]; exact hkp q h1 h2)
    ⟨Nat.le_trans hS.1 (by rw [e1]; exact hz), fun q h1 h2 => by rw [e1, hkp q (Nat.lt_of_lt_of_le h1 hS.1) (fun z => h2 (hA q (Nat.lt_of_lt_of_le h1 hS.1) z))]; exact hS.2.1 q h1 h2, fun q hq => by
      rcases List.mem_append.mp hq with h | h
      · exact hS.2.2 q h
      · exact hf _ (hL q h)⟩ T' rfl X'
  exact ⟨t2, st t2 a1, b1⟩
end RUN
def RunOK (cc : ByteArray) (nL : Nat) (rt : Option FieldType) (own : String) (d pc : Nat) (vk : Option Nat) (na : Nat) (F : Fn) : Prop :=
  ∀ (p : Program) (l : Launch) (e : Env) (s : State) (m : MethodId) (args : Array Value) (below : List Frame) (meth : Method) (c : Code) (D : va_G) (σ : Nat → Nat) (cA : Nat → ClassId), Cx p s m args meth c D cA cc nL rt own → NW s →
    ∀ (H : Heap) (locs : List Loc) (ls : Array Slot) (as : List sv) (w : List sc) (K : Option sv → List sc → Prop) (B : Nat → Prop) (restV : List Value), F as w K → as.length = na → rok vk as w True → va_P D vwCl (tw σ cA 0 w) H → va_D B (tw σ cA 0 w) → ls.size = nL → (restV.map fun v => v.category).sum ≤ 8 →
      va_Run p l e (rmd d) s m args below meth c H locs 0 0 0 0 (F0 m pc ls ((as.map (tv σ)).reverse ++ restV)) restV (Qg D σ cA (va_A (tw σ cA 0 w) H.size) K (as.map (tv σ)).toArray) (va_A (tw σ cA 0 w) H.size)
theorem good_code {y : MethodName} {cc : ByteArray} {nL : Nat} {rt : Option FieldType} (h : Cond.code y cc nL rt ∈ uW) : GoodIn uW (.code y cc nL rt :: uW) := by
  intro w hw
  rcases List.mem_cons.mp hw with rfl | hw
  · exact uW_good _ h
  · exact uW_good _ hw
theorem run_S {cc cc' : ByteArray} {nL nL' d d' pc idx na : Nat} {rt rt' : Option FieldType} {own : String} {y : MethodName} {F : Fn} (hdg : decode cc pc = .ok (.invokestatic idx, 3)) (hct : Ct y cc' nL' rt' d' F) (hcode : Cond.code y cc' nL' rt' ∈ uW) (hl : Cond.methodLink own idx y ∈ uW) (hst : Cond.static y ∈ uW) (hin : Cond.initialized y.cls ∈ uW)
    (hd : y.cls ≠ "java/lang/invoke/MethodHandle" ∧ y.cls ≠ "java/lang/invoke/VarHandle" ∧ (parseMethodDescriptor y.desc).map (fun d => d.parameters.length) = some na) (hdd : d' + 1 ≤ d) (hnl : nL' ≤ 81) : RunOK cc nL rt own d pc none na F := by
  intro p l e s m args below meth c D σ cA X hnw H locs ls as w K B restV hF hlen _ hP hD hls hrc
  obtain ⟨hx, hb, hml, hown, hts, hK, hlocks, hr⟩ := X
  have hM := hct l D σ cA H.size as w K hF
  have cb : CallB (rmd d) s args own idx y cc' nL' rt' (.code y cc' nL' rt' :: uW) (rmd d') 0 0 na := callB_of na hts (good_code hcode) rfl rfl rfl (hts _ hin) (hts _ hl) hd ⟨hdd, by show 8 + (nL' + 11) + 100 * d' ≤ 100 * d; omega⟩
  exact va_runS (As := as.map (tv σ)) (rest := restV) (nL := nL) ⟨hx, hb, hml, hown, hts⟩ hM ⟨cb, hts _ hst⟩ ⟨wPre_blind, fun U hU hW => ⟨rfl, wPre_at hK hnw hP hD U hU hW⟩⟩ rfl (by rw [List.length_map]; exact hlen) hls rfl (lv_room hrc) hdg ⟨Nat.le_refl 0, Nat.le_refl 0⟩
theorem run_N {cc cc' : ByteArray} {nL nL' d d' pc idx na : Nat} {rt rt' : Option FieldType} {own host : String} {y : MethodName} {F : Fn} (hdg : decode cc pc = .ok (.invokestatic idx, 3)) (hct : Ct y cc' nL' rt' d' F) (hcode : Cond.code y cc' nL' rt' ∈ uW) (hl : (own, idx, y, host) ∈ NWl) (hst : Cond.static y ∈ uW) (hin : Cond.initialized y.cls ∈ uW)
    (hd : y.cls ≠ "java/lang/invoke/MethodHandle" ∧ y.cls ≠ "java/lang/invoke/VarHandle" ∧ (parseMethodDescriptor y.desc).map (fun d => d.parameters.length) = some na) (hdd : d' + 1 ≤ d) (hnl : nL' ≤ 81) : RunOK cc nL rt own d pc none na F := by
  intro p l e s m args below meth c D σ cA X hnw H locs ls as w K B restV hF hlen _ hP hD hls hrc
  obtain ⟨hx, hb, hml, hown, hts, hK, hlocks, hr⟩ := X
  have hM := hct l D σ cA H.size as w K hF
  have cb := va_cnB (R := rmd d) (s := s) (args := args) (own := own) (host := host) (index := idx) (maxL := nL') (mc := 0) (ms := 0) (y := y) (bytes := cc') (ret := rt') (Ts := uW) (ws := .code y cc' nL' rt' :: uW) (rm := rmd d') na hts (good_code hcode) rfl rfl rfl (hnw _ hl) (hts _ hin) hd ⟨hdd, by show 8 + (nL' + 11) + 100 * d' ≤ 100 * d; omega⟩
  exact va_runSN (As := as.map (tv σ)) (rest := restV) (nL := nL) ⟨hx, hb, hml, hown, hts⟩ hM ⟨cb, hts _ hst, trivial⟩ ⟨wPre_blind, fun U hU hW => ⟨rfl, wPre_at hK hnw hP hD U hU hW⟩⟩ rfl (by rw [List.length_map]; exact hlen) hls rfl (lv_room hrc) hdg ⟨Nat.le_refl 0, Nat.le_refl 0⟩
theorem run_V {cc cc' : ByteArray} {nL nL' d d' pc idx na ci N : Nat} {T : u_T} {rt rt' : Option FieldType} {own : String} {y : MethodName} {F : Fn} (hdg : decode cc pc = .ok (.invokevirtual idx, 3)) (hct : Ct y cc' nL' rt' d' F) (hcode : Cond.code y cc' nL' rt' ∈ uW) (hl : Cond.methodLink own idx y ∈ uW) (hst : Cond.instanceMethod y ∈ uW) (hse : Cond.selects y.cls y y ∈ uW) (hin : Cond.initialized y.cls ∈ uW)
    (hci : vwCl[ci]? = some (y.cls, T, N)) (hd : y.cls ≠ "java/lang/invoke/MethodHandle" ∧ y.cls ≠ "java/lang/invoke/VarHandle" ∧ (parseMethodDescriptor y.desc).map (fun d => d.parameters.length) = some na) (hdd : d' + 1 ≤ d) (hnl : nL' ≤ 81) : RunOK cc nL rt own d pc (some ci) (na + 1) F := by
  intro p l e s m args below meth c D σ cA X hnw H locs ls as w K B restV hF hlen hrok hP hD hls hrc
  obtain ⟨hx, hb, hml, hown, hts, hK, hlocks, hr⟩ := X
  have hM := hct l D σ cA H.size as w K hF
  have cb : CallB (rmd d) s args own idx y cc' nL' rt' (.code y cc' nL' rt' :: uW) (rmd d') 0 0 na := callB_of na hts (good_code hcode) rfl rfl rfl (hts _ hin) (hts _ hl) hd ⟨hdd, by show 8 + (nL' + 11) + 100 * d' ≤ 100 * d; omega⟩
  match as, hrok with
  | .inr (.inr (some k)) :: as', hrok =>
    obtain ⟨cj, fs, hw, hcj⟩ := cO_e hrok; obtain ⟨rfl, -⟩ := cq_e hcj
    have he := tw_nth (σ := σ) (cA := cA) (k := 0) hw
    rw [Nat.zero_add] at he
    have hst' : (((.inr (.inr (some k)) :: as' : List sv).map (tv σ)).reverse ++ restV) = (as'.map (tv σ)).reverse ++ Value.ref (σ k) :: restV := by simp [tv, va_rf]
    rw [hst']
    exact va_runV (C := y.cls) (As := as'.map (tv σ)) (rest := restV) (nL := nL) (n := na) ⟨hx, hb, hml, hown, hts⟩ hM ⟨cb, hts _ hst, hts _ hse⟩ ⟨wPre_blind, va_recv hK hP hci he, fun U hU hW => ⟨rfl, wPre_at hK hnw hP hD U hU hW⟩⟩ rfl (by rw [List.length_map]; simpa using hlen) hls rfl (lv_room hrc) hdg ⟨Nat.le_refl 0, Nat.le_refl 0⟩
theorem site_same {cc : ByteArray} {nL d pc na : Nat} {rt : Option FieldType} {own : String} {vk : Option Nat} {F : Fn} (hR : RunOK cc nL rt own d pc vk na F) : SiteOK cc nL rt own d pc (cS vk na F) := by
  intro p l e s m args below meth c D σ cA A Q X hnw hA st w kk h lv hk H locs ls hP hD hS hlv
  obtain ⟨as, rest, rfl, hlen, hh⟩ := popN_e h
  rw [List.append_nil] at hh
  obtain ⟨hrc, hh⟩ := ck_e hh
  have hrc := Nat.le_of_ble_eq_true hrc
  obtain ⟨hrok, hF⟩ := rok_e hh
  have hrun := hR p l e s m args below meth c D σ cA X hnw H locs ls as w _ A (rest.map (tv σ)) hF hlen hrok hP hD hlv.1 (by rw [rcat_ok]; exact hrc)
  have hFc : ∀ q, va_A (tw σ cA 0 w) H.size q → A q := by
    intro q h
    rcases h with ⟨k, e, h⟩ | h
    · exact hD.2 k _ h
    · exact hA q (Nat.le_trans hS.1 h)
  rw [List.map_append, List.map_reverse]
  refine run_go hrun hS (fun q _ h => hFc q h) hFc (fun r w' H1 locs1 hK1 hP1 hD1 _ _ hS1 => ?_)
  have := hk _ _ hK1 H1 locs1 ls hP1 (hD1.weaken (fun _ _ _ h => hFc _ h)) hS1 hlv
  rwa [oL_ok] at this
theorem nodup_nth {is : List Nat} (hn : va_nd is = true) {k1 k2 i : Nat} (h1 : nth is k1 = some i) (h2 : nth is k2 = some i) : k1 = k2 := by
  rw [nth_eq] at h1 h2
  exact va_nd_inj is hn k1 k2 i h1 h2
theorem site_gen {cc : ByteArray} {nL d pc na : Nat} {rt : Option FieldType} {own : String} {vk : Option Nat} {F : Fn} (is : List Nat) (hn : va_nd is = true) (hR : RunOK cc nL rt own d pc vk na F) : SiteOK cc nL rt own d pc (cG is vk na F) := by
  intro p l e s m args below meth c D σ cA A Q X hnw hA st w kk h lv hk H locs ls hP hD hS hlv
  obtain ⟨as, rest, rfl, hlen, hh⟩ := popN_e h
  rw [List.append_nil] at hh
  obtain ⟨hrc, hh⟩ := ck_e hh
  have hrc := Nat.le_of_ble_eq_true hrc
  obtain ⟨cs, hh, hcl, hcs⟩ := pick_e hh
  obtain ⟨hrok, hF⟩ := rok_e hh
  have hcell : ∀ k c', nth (cs.map (renc is)) k = some c' → ∃ i c, nth is k = some i ∧ nth w i = some c ∧ c' = renc is c := by
    intro k c' hk
    rw [nth_eq, List.getElem?_map] at hk
    obtain ⟨c, hc, rfl⟩ := Option.map_eq_some_iff.mp hk
    have hk2 : k < is.length := by
      rw [← hcl]
      exact (List.getElem?_eq_some_iff.mp hc).1
    obtain ⟨c2, g1, g2⟩ := hcs k is[k] (by rw [nth_eq]; exact List.getElem?_eq_getElem hk2)
    rw [nth_eq, hc] at g2
    cases g2
    exact ⟨is[k], c, by rw [nth_eq]; exact List.getElem?_eq_getElem hk2, g1, rfl⟩
  have hun : ∀ k i, nth is k = some i → un is k = i := fun k i hk => by simp [un, hk, unO]
  have hPc : va_P D vwCl (tw (fun k => σ (un is k)) cA 0 (cs.map (renc is))) H := by
    intro k q hq
    obtain ⟨c', h1, rfl⟩ := tw_of hq
    obtain ⟨i, c, g1, g2, rfl⟩ := hcell k c' h1
    have := hP i _ (tw_nth (σ := σ) (cA := cA) (k := 0) g2)
    rw [Nat.zero_add] at this ⊢
    rw [tc_ren]
    show va_at D vwCl (σ (un is k), _) H
    rw [hun k i g1]; exact this
  have hDc : va_D A (tw (fun k => σ (un is k)) cA 0 (cs.map (renc is))) := by
    refine ⟨fun k1 k2 q1 q2 h1 h2 e => ?_, fun k q hq => ?_⟩
    · obtain ⟨c1, a1, rfl⟩ := tw_of h1
      obtain ⟨c2, a2, rfl⟩ := tw_of h2
      obtain ⟨i1, d1, b1, b2, -⟩ := hcell k1 c1 a1
      obtain ⟨i2, d2, b3, b4, -⟩ := hcell k2 c2 a2
      simp only [Nat.zero_add, hun _ _ b1, hun _ _ b3] at e
      have := hD.1 i1 i2 _ _ (tw_nth (σ := σ) (cA := cA) (k := 0) b2) (tw_nth (σ := σ) (cA := cA) (k := 0) b4) (by simpa using e)
      subst this
      exact nodup_nth hn b1 b3
    · obtain ⟨c1, a1, rfl⟩ := tw_of hq
      obtain ⟨i1, d1, b1, b2, -⟩ := hcell k c1 a1
      have := hD.2 i1 _ (tw_nth (σ := σ) (cA := cA) (k := 0) b2)
      simpa [hun _ _ b1] using this
  have hrun := hR p l e s m args below meth c D (fun k => σ (un is k)) cA X hnw H locs ls _ _ _ A (rest.map (tv σ)) hF (by rw [List.length_map]; exact hlen) hrok hPc hDc hlv.1 (by rw [rcat_ok]; exact hrc)
  have hFc : ∀ q, va_A (tw (fun k => σ (un is k)) cA 0 (cs.map (renc is))) H.size q → A q := by
    intro q h
    rcases h with ⟨k, e, h⟩ | h
    · exact hDc.2 k _ h
    · exact hA q (Nat.le_trans hS.1 h)
  have has : (as.map (renv is)).map (tv (fun k => σ (un is k))) = as.map (tv σ) := by
    rw [List.map_map]
    exact List.map_congr_left (fun v _ => tv_ren σ is v)
  rw [has] at hrun
  rw [List.map_append, List.map_reverse]
  refine run_go hrun hS (fun q _ h => hFc q h) hFc (fun r wc H1 locs1 hK1 hP1 hD1 _ hkp hS1 => ?_)
  obtain ⟨hl1, hK1⟩ := ck_e hK1
  have hl1 := Nat.eq_of_beq_eq_true hl1
  have hP2 : va_P D vwCl (tw σ cA 0 (putw is is w wc)) H1 := by
    intro j q hq
    obtain ⟨c, h1, rfl⟩ := tw_of hq
    rw [Nat.zero_add]
    rcases putw_e is hl1 h1 with ⟨k, c', g1, g2, rfl⟩ | ⟨g1, g2⟩
    · have := hP1 k _ (tw_nth (σ := fun k => σ (un is k)) (cA := cA) (k := 0) g2)
      rw [tc_unr]
      simp only [Nat.zero_add, hun _ _ g1] at this
      exact this
    · have h2 := hP j _ (tw_nth (σ := σ) (cA := cA) (k := 0) g2)
      rw [Nat.zero_add] at h2
      refine h2.kept (hkp _ h2.lt ?_)
      rintro (⟨k, e, h3⟩ | h3)
      · obtain ⟨c1, a1, a2⟩ := tw_of h3
        obtain ⟨i1, d1, b1, b2, -⟩ := hcell k c1 a1
        have e1 : σ j = σ i1 := by
          have := congrArg Prod.fst a2
          simpa [hun _ _ b1] using this
        have := hD.1 j i1 _ _ (tw_nth (σ := σ) (cA := cA) (k := 0) g2) (tw_nth (σ := σ) (cA := cA) (k := 0) b2) (by simpa using e1)
        subst this
        rw [nth_eq] at b1
        exact g1 (List.mem_of_getElem? b1)
      · exact absurd h2.lt (Nat.not_lt.mpr h3)
  have hD2 : va_D A (tw σ cA 0 (putw is is w wc)) := by
    refine ⟨fun k1 k2 q1 q2 h1 h2 e => ?_, fun k q hq => ?_⟩
    · obtain ⟨c1, a1, rfl⟩ := tw_of h1
      obtain ⟨c2, a2, rfl⟩ := tw_of h2
      obtain ⟨d1, b1⟩ := putw_d is a1
      obtain ⟨d2, b2⟩ := putw_d is a2
      exact hD.1 k1 k2 _ _ (tw_nth (σ := σ) (cA := cA) (k := 0) b1) (tw_nth (σ := σ) (cA := cA) (k := 0) b2) e
    · obtain ⟨c1, a1, rfl⟩ := tw_of hq
      obtain ⟨d1, b1⟩ := putw_d is a1
      have h9 := hD.2 k _ (tw_nth (σ := σ) (cA := cA) (k := 0) b1)
      exact h9
  have := hk _ _ hK1 H1 locs1 ls hP2 hD2 hS1 hlv
  rw [oL_ok] at this
  have e2 : (r.map (unrv is)).map (tv σ) = r.map (tv (fun k => σ (un is k))) := by
    cases r with
    | none => rfl
    | some v => simp [tv_unr]
  rwa [e2] at this
