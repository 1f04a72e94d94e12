/-! ===== the step with making, and its soundness ===== -/
def oN : Option (Nat × List sv × Nat) → (Nat → List sv → Nat → Prop) → Prop
  | some (a, b, c), f => f a b c
  | none, _ => False
theorem oN_e {o : Option (Nat × List sv × Nat)} {f : Nat → List sv → Nat → Prop} (h : oN o f) : ∃ a b c, o = some (a, b, c) ∧ f a b c := by
  unfold oN at h; split at h
  · exact ⟨_, _, _, rfl, h⟩
  · exact h.elim
def nwA : ArrayType → Nat → (sc → Prop) → Prop
  | .int, n, f => f (aI n (fun _ => 0))
  | .long, n, f => f (aL n (fun _ => 0))
  | .boolean, n, f => f (aZ n (fun _ => 0))
  | _, _, _ => False
def cbz : Bool → Prop → Prop → Prop
  | true, a, _ => a
  | false, _, b => b
theorem cbz_e {b : Bool} {A B : Prop} (h : cbz b A B) : (b = true ∧ A) ∨ (b = false ∧ B) := by
  cases b with
  | true => exact Or.inl ⟨rfl, h⟩
  | false => exact Or.inr ⟨rfl, h⟩
def oS : Option (Nat × (Nat → Int32)) → (Nat → (Nat → Int32) → Prop) → Prop
  | some (L, xs), f => f L xs
  | none, _ => False
theorem oS_e {o : Option (Nat × (Nat → Int32))} {f : Nat → (Nat → Int32) → Prop} (h : oS o f) : ∃ L xs, o = some (L, xs) ∧ f L xs := by
  unfold oS at h; split at h
  · exact ⟨_, _, rfl, h⟩
  · exact h.elim
def stpz (nL : Nat) (fin an : Option Nat) (n0 Rc Rs : Nat) (nw : Nwt) (fld : Ft) (cst : Nat → Option Int32) (cstL : Nat → Option Int64) (call : Clz) (scr : Option (Nat × (Nat → Int32))) (k : Kz) (i : Instr) (nx tg : Nat) (li : Int32) (pc : Nat) (lv : List (Option sv)) (st : List sv) (w : List sc) (cl sl : Nat) : Prop := match i with
  | .new idx => oN (nw idx) fun ci fs N => okA w.length lv st w ∧ ck (Nat.ble n0 w.length && Nat.blt w.length 1000 && Nat.ble (cl + 1) Rc && Nat.ble (sl + N) Rs) (k nx lv (sR w.length :: st) (w ++ [oC ci fs]) (cl + 1) (sl + N))
  | .newarray ty => pI st fun x r => okA w.length lv r w ∧ ¬ x < 0 ∧ ck (Nat.ble n0 w.length && Nat.blt w.length 1000 && Nat.ble x.toNatClampNeg 5000 && Nat.ble (cl + 1) Rc && Nat.ble (sl + x.toNatClampNeg) Rs) (nwA ty x.toNatClampNeg fun c => k nx lv (sR w.length :: r) (w ++ [c]) (cl + 1) (sl + x.toNatClampNeg))
  | .anewarray idx => pI st fun x r => oO an fun ix0 => okA w.length lv r w ∧ ¬ x < 0 ∧ ck (Nat.ble n0 w.length && Nat.blt w.length 1000 && Nat.ble x.toNatClampNeg 5000 && Nat.ble (cl + 1) Rc && Nat.ble (sl + x.toNatClampNeg) Rs) (cq idx ix0 (k nx lv (sR w.length :: r) (w ++ [aR x.toNatClampNeg (fun _ => none)]) (cl + 1) (sl + x.toNatClampNeg)))
  | .aastore => pR st fun v r => pI r fun x r => pR r fun a r => cR (nth w a) fun n f => cO (nth w v) fun cj _ => cq cj 2 (vp_in x n ∧ k nx lv r (snth w a (.inr (3, n, .inr (.inr (va_up f x.toNatClampNeg (some v)))))) cl sl)
  | .putfield _ => pA st fun v r => pR r fun a r' => oF (fld tg) fun ci kf ty => cbz (Nat.beq ty 9) (oO fin fun cf => cq ci cf (okv 2 v (cO (nth w a) fun cj fs => cq cj ci (oO (nth fs kf) fun _ => k nx lv r' (snth w a (.inl (ci, snth fs kf v))) cl sl)))) (stpi nL 9 fld cst cstL (fun _ _ _ _ => False) (fun _ _ => False) (fun pc lv st w => k pc lv st w cl sl) i nx tg li pc lv st w)
  | .iaload => pI st fun x r => pR r fun a r' => cbz (Nat.beq a 1000) (oS scr fun L xs => vp_in x L ∧ k nx lv (sI (xs x.toNatClampNeg) :: r') w cl sl) (stpi nL 9 fld cst cstL (fun _ _ _ _ => False) (fun _ _ => False) (fun pc lv st w => k pc lv st w cl sl) i nx tg li pc lv st w)
  | .arraylength => pR st fun a r' => cbz (Nat.beq a 1000) (oS scr fun L _ => k nx lv (sI (Int32.ofNat L) :: r') w cl sl) (stpi nL 9 fld cst cstL (fun _ _ _ _ => False) (fun _ _ => False) (fun pc lv st w => k pc lv st w cl sl) i nx tg li pc lv st w)
  | .invokevirtual _ => call pc lv st w cl sl fun st' w' cl' sl' => k (pc + 3) lv st' w' cl' sl'
  | .invokestatic _ => call pc lv st w cl sl fun st' w' cl' sl' => k (pc + 3) lv st' w' cl' sl'
  | .invokespecial _ => call pc lv st w cl sl fun st' w' cl' sl' => k (pc + 3) lv st' w' cl' sl'
  | _ => stpi nL 9 fld cst cstL (fun _ _ _ _ => False) (fun _ _ => False) (fun pc lv st w => k pc lv st w cl sl) i nx tg li pc lv st w
abbrev Cut : Type := Nat → Option (List Bool × (List (Option sv) → List sv → List sc → Nat → Nat → Prop))
def wpcz (lv : List (Option sv)) (st : List sv) (w : List sc) (cl sl : Nat) (B : Prop) : Option (List Bool × (List (Option sv) → List sv → List sc → Nat → Nat → Prop)) → Prop
  | some (m, P) => P (msk m lv) st w cl sl
  | none => B
def wpz (pr : Pg) (nL : Nat) (fin an : Option Nat) (n0 Rc Rs : Nat) (nw : Nwt) (fld : Ft) (cst : Nat → Option Int32) (cstL : Nat → Option Int64) (call : Clz) (scr : Option (Nat × (Nat → Int32))) (cut : Cut) : Nat → Kz
  | 0, _, _, _, _, _, _ => False
  | n + 1, pc, lv, st, w, cl, sl => wpcz lv st w cl sl (oP (pr pc) fun i nx tg li => stpz nL fin an n0 Rc Rs nw fld cst cstL call scr (wpz pr nL fin an n0 Rc Rs nw fld cst cstL call scr cut n) i nx tg li pc lv st w cl sl) (cut pc)
/-- the classes that are made -/
def nwo (own : String) (nw : Nwt) : Prop := ∀ idx ci fs N, nw idx = some (ci, fs, N) → ∃ (C : String) (T : u_T) (t0 : Nat → FieldType), vwCl[ci]? = some (C, T, N) ∧ (∀ w ∈ u_ws C T N, w ∈ uW) ∧ (∀ k, k < N → parseFieldDescriptor (T k).2.2.1 = some (t0 k)) ∧ Cond.classLink own idx C ∈ uW ∧ Cond.instantiable C N ∈ uW ∧ Cond.initialized C ∈ uW ∧ fs.all (okB 0) = true ∧ ∀ (σ : Nat → Nat) (j : Nat), j < N → defaultValue (t0 j) = vp_V (fs.map (tv σ)) j
def isRefT : FieldType → Bool
  | .array _ => true
  | .object _ => true
  | _ => false
/-- the final fields of the class itself -/
def fdf (own : String) (cf : Nat) (fld : Ft) : Prop := ∀ idx kf, fld idx = some (cf, kf, 9) → ∀ C T N, vwCl[cf]? = some (C, T, N) → C = own ∧ (T kf).2.2.2 = true ∧ ∃ tt, parseFieldDescriptor (T kf).2.2.1 = some tt ∧ isRefT tt = true
theorem isRefT_n {tt : FieldType} (h : isRefT tt = true) (a : Nat) : narrow tt (.ref a) = .ref a ∧ fits tt (.ref a) = true := by
  cases tt <;> first | exact ⟨rfl, rfl⟩ | (simp [isRefT] at h)
section SZ
variable {p : Program} {l : Launch} {e : Env} {R : Room} {s : State} {m : MethodId} {args : Array Value} {below : List Frame} {meth : Method} {c : Code} {D : va_G} {σ0 : Nat → Nat} {cA : Nat → ClassId} {A : Nat → Prop} {H0 : Heap} {nL n0 : Nat} {Q : State → Prop}
def ZY (p : Program) (l : Launch) (e : Env) (R : Room) (s : State) (m : MethodId) (args : Array Value) (below : List Frame) (meth : Method) (c : Code) (D : va_G) (σ0 : Nat → Nat) (n0 : Nat) (cA : Nat → ClassId) (A : Nat → Prop) (H0 : Heap) (nL : Nat) (Q : State → Prop) : Kz := fun pc lv st w cl sl =>
  ∀ σ, ag n0 σ0 σ → Zy p l e R s m args below meth c D σ cA A H0 nL cl sl Q pc lv st w
theorem ZY_mask {pc cl sl : Nat} {lv : List (Option sv)} {st : List sv} {w : List sc} (mm : List Bool) (h : ZY p l e R s m args below meth c D σ0 n0 cA A H0 nL Q pc (msk mm lv) st w cl sl) : ZY p l e R s m args below meth c D σ0 n0 cA A H0 nL Q pc lv st w cl sl :=
  fun σ hσ H locs ls hP hD hS hl => h σ hσ H locs ls hP hD hS (lvh_sub hl (tl_sub (lk_msk mm lv)))
theorem and4 {a b c d : Bool} (h : (a && b && c && d) = true) : a = true ∧ b = true ∧ c = true ∧ d = true := by
  cases a <;> cases b <;> cases c <;> cases d <;> simp_all
theorem and5 {a b c d e : Bool} (h : (a && b && c && d && e) = true) : a = true ∧ b = true ∧ c = true ∧ d = true ∧ e = true := by
  cases a <;> cases b <;> cases c <;> cases d <;> cases e <;> simp_all
theorem arr_c {t : Nat} {ty : FieldType} {q : ClassId} (hK : va_K D vwCl (tysL cA) s) (ht : (tysL cA)[t]? = some (cA t, ty)) (hty : isRefT ty = false) (h1 : va_K D vwCl (tysL cA ++ [(q, ty)]) s) : q = cA t := by
  have a1 := (hK.2 t _ ht).2
  have a2 := (h1.2 4 (q, ty) rfl).2
  cases ty <;> first | exact Option.some.inj (a2.symm.trans a1) | (simp [isRefT] at hty)
theorem new_arr {cc : ByteArray} {pc : Nat} {ty : ArrayType} {rt : Option FieldType} {own : String} {ct : Nat} {fty : FieldType} {x : Int32} {cl sl : Nat} {r : List sv} {lv : List (Option sv)} {w : List sc} {cell : sc} {σ : Nat → Nat} (X : Cx p s m args meth c D cA cc nL rt own) (hA : ∀ q, H0.size ≤ q → A q)
    (harr : Cond.arrayClass (newarray.typeOf ty) ∈ uW) (hty : newarray.typeOf ty = fty) (hct : (tysL cA)[ct]? = some (cA ct, fty)) (hrf : isRefT fty = false) {a0 : vp_A} (ha : ∀ q : ClassId, vp_cell q a0 = arrV q x.toNatClampNeg (fun _ => defaultValue fty)) (hbytes : x.toNatClampNeg * componentBytes fty ≤ 536870912)
    (hcell : ∀ τ : Nat → Nat, tc τ cA cell = .inl (cA ct, a0)) (hx0 : ¬ x < 0) (hok : okA w.length lv r w) (hn0 : n0 ≤ w.length) (hn1 : w.length < 1000) (hc1 : cl + 1 ≤ R.cells) (hs1 : sl + x.toNatClampNeg ≤ R.slots) (hdg : decode cc pc = .ok (.newarray ty, 2))
    (hσ : ag n0 σ0 σ) (hk : ZY p l e R s m args below meth c D σ0 n0 cA A H0 nL Q (pc + 2) lv (sR w.length :: r) (w ++ [cell]) (cl + 1) (sl + x.toNatClampNeg)) : Zy p l e R s m args below meth c D σ cA A H0 nL cl sl Q pc lv (.inl x :: r) w := by
  obtain ⟨hx, hb, hml, hown, hts, hK, hlocks, hr⟩ := id X
  intro H locs ls hP hD hS hl
  refine va_newa (a0 := a0) hx hb (hts _ harr) hty hK hP hD hS hA ha hx0 rfl hbytes hc1 hs1 hdg (fun q cq H1 hK1 hP1 hD1 hS1 => ?_)
  obtain rfl := arr_c hK hct hrf hK1
  have hag := fr_ag (σ := σ) (q := q) hn1
  have e1 : tw (fr σ w.length q) cA 0 (w ++ [cell]) = tw σ cA 0 w ++ [(q, .inl (cA ct, a0))] := by rw [tw_push hn1 hok.2, hcell]
  have h2 := hk (fr σ w.length q) (hσ.tr hag hn0) H1 locs ls (by rw [e1]; exact hP1) (by rw [e1]; exact hD1) hS1 (by rw [tl_ag hag hok.1.1]; exact hl)
  have e2 : (sR w.length :: r).map (tv (fr σ w.length q)) = .ref q :: r.map (tv σ) := by
    rw [List.map_cons, st_ag hag hok.1.2]
    show va_rf (some (fr σ w.length q w.length)) :: _ = _
    rw [fr_n]
    rfl
  rw [e2] at h2
  exact h2
set_option maxHeartbeats 1000000 in
theorem stpz_sound {cc : ByteArray} {fin an : Option Nat} {nw : Nwt} {fld : Ft} {cst : Nat → Option Int32} {cstL : Nat → Option Int64} {call : Clz} {scr : Option (Nat × (Nat → Int32))} {k : Kz} {rt : Option FieldType} {own : String}
    (X : Cx p s m args meth c D cA cc nL rt own) (hf : fdo own fld) (hc : cdo own cst cstL) (hnw : nwo own nw) (hfin : ∀ cf, fin = some cf → meth.name = "<init>" ∧ fdf own cf fld) (hA : ∀ q, H0.size ≤ q → A q) (hscr : ∀ L xs, scr = some (L, xs) → va_X (σ0 1000) L xs s H0 ∧ σ0 1000 < H0.size ∧ ¬ A (σ0 1000))
    (han : ∀ i, an = some i → Cond.classLink own i RX3 ∈ uW ∧ va_AO RX3 s) (harI : Cond.arrayClass .int ∈ uW) (harL : Cond.arrayClass .long ∈ uW) (harZ : Cond.arrayClass .boolean ∈ uW)
    (hk : ∀ pc lv st w cl sl, k pc lv st w cl sl → ZY p l e R s m args below meth c D σ0 n0 cA A H0 nL Q pc lv st w cl sl)
    (hcall : ∀ pc lv st w cl sl kk, call pc lv st w cl sl kk → (∀ st' w' cl' sl', kk st' w' cl' sl' → ZY p l e R s m args below meth c D σ0 n0 cA A H0 nL Q (pc + 3) lv st' w' cl' sl') → ZY p l e R s m args below meth c D σ0 n0 cA A H0 nL Q pc lv st w cl sl)
    {pc cl sl : Nat} {lv : List (Option sv)} {st : List sv} {w : List sc} {i : Instr} {nx tg : Nat} {li : Int32} (hd : xdec cc pc = some (i, nx, tg, li)) (h : stpz nL fin an n0 R.cells R.slots nw fld cst cstL call scr k i nx tg li pc lv st w cl sl) :
    ZY p l e R s m args below meth c D σ0 n0 cA A H0 nL Q pc lv st w cl sl := by
  obtain ⟨hx, hb, hml, hown, hts, hK, hlocks, hr⟩ := id X
  have base : stpi nL 9 fld cst cstL (fun _ _ _ _ => False) (fun _ _ => False) (fun pc lv st w => k pc lv st w cl sl) i nx tg li pc lv st w → ZY p l e R s m args below meth c D σ0 n0 cA A H0 nL Q pc lv st w cl sl := fun z σ hσ => stpy_sound (call := fun _ _ _ _ => False) X hf hc (fun pc lv st w q => hk pc lv st w cl sl q σ hσ) (fun _ _ _ _ q => q.elim) hd z
  obtain ⟨len, hdg, hlen, hps, rfl, rfl, rfl⟩ := xdec_ok hd
  unfold stpz at h
  split at h
  · rename_i idx
    obtain rfl : len = 3 := hlen.resolve_right (Nat.succ_ne_zero _)
    obtain ⟨ci, fs, N, hq, hok, hh⟩ := oN_e h
    obtain ⟨hb1, hh⟩ := ck_e hh
    obtain ⟨b1, b2, b3, b4⟩ := and4 hb1
    have b1 := Nat.le_of_ble_eq_true b1
    have b2 := Nat.le_of_ble_eq_true b2
    have b3 := Nat.le_of_ble_eq_true b3
    have b4 := Nat.le_of_ble_eq_true b4
    obtain ⟨C, T, t0, g1, g2, g3, g4, g5, g6, g8, g7⟩ := hnw _ _ _ _ hq
    intro σ hσ H locs ls hP hD hS hl
    refine va_new (fs := fs.map (tv σ)) hx hb hts g2 t0 g3 hown (hts _ g4) (hts _ g5) (hts _ g6) hK hP hD hS hA g1 (g7 σ) b3 b4 hdg (fun q H1 hP1 hD1 hS1 => ?_)
    have hag := fr_ag (σ := σ) (q := q) b2
    have e0 : fs.map (tv (fr σ w.length q)) = fs.map (tv σ) := st_ag (n := 0) (fun i hi => hag i (hi.elim (fun z => absurd z (Nat.not_lt_zero _)) Or.inr)) g8
    have e1 : tw (fr σ w.length q) cA 0 (w ++ [oC ci fs]) = tw σ cA 0 w ++ [(q, .inr (ci, fs.map (tv σ)))] := by
      rw [tw_push b2 hok.2]
      show _ ++ [(q, (.inr (ci, fs.map (tv (fr σ w.length q))) : va_E))] = _
      rw [e0]
    have h2 := hk _ _ _ _ _ _ hh (fr σ w.length q) (hσ.tr hag b1) H1 locs ls (by rw [e1]; exact hP1) (by rw [e1]; exact hD1) hS1 (by rw [tl_ag hag hok.1.1]; exact hl)
    have e2 : (sR w.length :: st).map (tv (fr σ w.length q)) = .ref q :: st.map (tv σ) := by
      rw [List.map_cons, st_ag hag hok.1.2]
      show va_rf (some (fr σ w.length q w.length)) :: _ = _
      rw [fr_n]
      rfl
    rw [e2] at h2
    exact h2
  · rename_i ty
    obtain rfl : len = 2 := hlen.resolve_right (Nat.succ_ne_zero _)
    obtain ⟨x, r, rfl, hok, hx0, hh⟩ := pI_e h
    obtain ⟨hb1, hh⟩ := ck_e hh
    obtain ⟨b1, b2, b5, b3, b4⟩ := and5 hb1
    have b1 := Nat.le_of_ble_eq_true b1
    have b2 := Nat.le_of_ble_eq_true b2
    have b3 := Nat.le_of_ble_eq_true b3
    have b4 := Nat.le_of_ble_eq_true b4
    have b5 := Nat.le_of_ble_eq_true b5
    intro σ hσ
    cases ty
    all_goals first | exact hh.elim | skip
    · exact new_arr (ty := .boolean) (cell := aZ x.toNatClampNeg (fun _ => 0)) (ct := 2) (fty := .boolean) (a0 := (x.toNatClampNeg, .inl (fun _ => 0))) X hA harZ rfl rfl rfl (fun q => rfl) (by show _ * 1 ≤ _; omega) (fun τ => rfl) hx0 hok b1 b2 b3 b4 hdg hσ (hk _ _ _ _ _ _ hh)
    · exact new_arr (ty := .int) (cell := aI x.toNatClampNeg (fun _ => 0)) (ct := 0) (fty := .int) (a0 := (x.toNatClampNeg, .inl (fun _ => 0))) X hA harI rfl rfl rfl (fun q => rfl) (by show _ * 4 ≤ _; omega) (fun τ => rfl) hx0 hok b1 b2 b3 b4 hdg hσ (hk _ _ _ _ _ _ hh)
    · exact new_arr (ty := .long) (cell := aL x.toNatClampNeg (fun _ => 0)) (ct := 1) (fty := .long) (a0 := (x.toNatClampNeg, .inr (.inl (fun _ => 0)))) X hA harL rfl rfl rfl (fun q => rfl) (by show _ * 8 ≤ _; omega) (fun τ => rfl) hx0 hok b1 b2 b3 b4 hdg hσ (hk _ _ _ _ _ _ hh)
  · rename_i idx
    obtain rfl : len = 3 := hlen.resolve_right (Nat.succ_ne_zero _)
    obtain ⟨x, r, rfl, h1⟩ := pI_e h
    obtain ⟨ix0, ea, hok, hx0, hh⟩ := oO_e h1
    obtain ⟨hb1, hh⟩ := ck_e hh
    obtain ⟨b1, b2, b5, b3, b4⟩ := and5 hb1
    have b1 := Nat.le_of_ble_eq_true b1
    have b2 := Nat.le_of_ble_eq_true b2
    have b3 := Nat.le_of_ble_eq_true b3
    have b4 := Nat.le_of_ble_eq_true b4
    have b5 := Nat.le_of_ble_eq_true b5
    obtain ⟨rfl, hh9⟩ := cq_e hh
    obtain ⟨hcl, hao⟩ := han _ ea
    intro σ hσ H locs ls hP hD hS hl
    refine va_newq hx hb hown (hts _ hcl) hao hK hP hD hS hA hx0 rfl (by omega) b3 b4 hdg (fun q cq H1 hK1 hP1 hD1 hS1 => ?_)
    have ec : cq = cA 3 := by
      obtain ⟨_, _, -, -, -, a1⟩ := (hK.2 3 _ rfl).2
      obtain ⟨_, _, -, -, -, a2⟩ := (hK1.2 4 (cq, .object RX3) rfl).2
      exact Option.some.inj (a2.symm.trans a1)
    subst ec
    have hag := fr_ag (σ := σ) (q := q) b2
    have e1 : tw (fr σ w.length q) cA 0 (w ++ [aR x.toNatClampNeg (fun _ => none)]) = tw σ cA 0 w ++ [(q, .inl (cA 3, x.toNatClampNeg, .inr (.inr (.inr (.inr (fun _ => none))))))] := by
      rw [tw_push b2 hok.2]
      rfl
    have h2 := hk _ _ _ _ _ _ hh9 (fr σ w.length q) (hσ.tr hag b1) H1 locs ls (by rw [e1]; exact hP1) (by rw [e1]; exact hD1) hS1 (by rw [tl_ag hag hok.1.1]; exact hl)
    have e2 : (sR w.length :: r).map (tv (fr σ w.length q)) = .ref q :: r.map (tv σ) := by
      rw [List.map_cons, st_ag hag hok.1.2]
      show va_rf (some (fr σ w.length q w.length)) :: _ = _
      rw [fr_n]
      rfl
    rw [e2] at h2
    exact h2
  · obtain rfl : len = 1 := hlen.resolve_right (Nat.succ_ne_zero _)
    obtain ⟨v, r, rfl, h1⟩ := pR_e h
    obtain ⟨x, r, rfl, h2⟩ := pI_e h1
    obtain ⟨a, r, rfl, h3⟩ := pR_e h2
    obtain ⟨n, f, hw, h4⟩ := cR_e h3
    obtain ⟨cj, vs, hwv, h5⟩ := cO_e h4
    obtain ⟨rfl, hin, hh⟩ := cq_e h5
    intro σ hσ H locs ls hP hD hS hl
    have he := tw_nth (σ := σ) (cA := cA) (k := 0) hw
    have hv := tw_nth (σ := σ) (cA := cA) (k := 0) hwv
    rw [Nat.zero_add] at he hv
    refine va_astq (a := σ a) (v := σ v) hx hb hK hP hD hS a 3 v 2 he rfl hv rfl hin hdg (fun H1 locs1 hP1 hD1 hS1 => ?_)
    have e1 := tw_snth (σ := σ) (cA := cA) w 0 a (.inr (3, n, .inr (.inr (va_up f x.toNatClampNeg (some v)))))
    rw [Nat.zero_add] at e1
    have e2 : (fun i => (va_up f x.toNatClampNeg (some v) i).map σ) = va_up (fun i => (f i).map σ) x.toNatClampNeg (some (σ v)) := by
      funext i
      unfold va_up
      by_cases hi : i = x.toNatClampNeg
      · simp [hi]
      · simp [hi]
    have e3 : tc σ cA (.inr (3, n, .inr (.inr (va_up f x.toNatClampNeg (some v))))) = .inl (cA 3, n, .inr (.inr (.inr (.inr (va_up (fun i => (f i).map σ) x.toNatClampNeg (some (σ v))))))) := by
      rw [← e2]
      rfl
    rw [e3] at e1
    exact hk _ _ _ _ _ _ hh σ hσ H1 locs1 ls (by rw [e1]; exact hP1) (by rw [e1]; exact hD1) hS1 hl
  · obtain rfl : len = 3 := hlen.resolve_right (Nat.succ_ne_zero _)
    obtain ⟨v, r, rfl, hv1, h1⟩ := pA_e h
    obtain ⟨a, r', rfl, h2⟩ := pR_e h1
    obtain ⟨ci, kf, ty, hq, h3⟩ := oF_e h2
    rcases cbz_e h3 with ⟨e9, h4⟩ | ⟨-, h4⟩
    · obtain rfl := Nat.eq_of_beq_eq_true e9
      obtain ⟨cf, ef, h5⟩ := oO_e h4
      obtain ⟨rfl, h6⟩ := cq_e h5
      obtain ⟨hok, h7⟩ := okv_e h6
      obtain ⟨cj, fs, hw, q2⟩ := cO_e h7
      obtain ⟨e1, q3⟩ := cq_e q2
      subst e1
      obtain ⟨u, hv, hh⟩ := oO_e q3
      obtain ⟨hname, hfd⟩ := hfin _ ef
      obtain ⟨C, T, N, t0, g1, g2, g3, g4, g5, g6, g7, -⟩ := hf _ _ _ _ hq
      obtain ⟨rfl, f1, tt, f2, f3⟩ := hfd _ _ hq _ _ _ g1
      intro σ hσ H locs ls hP hD hS hl
      have he := tw_nth (σ := σ) (cA := cA) (k := 0) hw
      rw [Nat.zero_add] at he
      rw [nth_eq] at hv
      have hlt : kf < (fs.map (tv σ)).length := by
        rw [List.length_map]
        exact (List.getElem?_eq_some_iff.mp hv).1
      match v, hok with
      | .inr (.inr (some y)), _ =>
        obtain ⟨n1, n2⟩ := isRefT_n f3 (σ y)
        refine va_putF (a := σ a) (v := .ref (σ y)) hx hb hts g3 t0 g6 g7 hown hK hP hD hS a he g1 kf g2 (hts _ g5) (fun x q => by rw [g4] at q; exact q) f1 hname g4 f2 n1 n2 hlt hdg (fun H1 locs1 hP1 hD1 hS1 => ?_)
        have e1 : (tw σ cA 0 w).set a (σ a, .inr (cj, (fs.map (tv σ)).set kf (.ref (σ y)))) = tw σ cA 0 (snth w a (.inl (cj, snth fs kf (.inr (.inr (some y)))))) := by
          rw [tw_snth, Nat.zero_add, snth_eq]
          show _ = (tw σ cA 0 w).set a (σ a, .inr (cj, (fs.set kf (.inr (.inr (some y)))).map (tv σ)))
          rw [List.map_set]
          rfl
        rw [e1] at hP1 hD1
        exact hk _ _ _ _ _ _ hh σ hσ H1 locs1 ls hP1 hD1 hS1 hl
    · exact base h4
  · obtain ⟨x, r, rfl, h1⟩ := pI_e h
    obtain ⟨a, r', rfl, h2⟩ := pR_e h1
    rcases cbz_e h2 with ⟨e9, h4⟩ | ⟨-, h4⟩
    · obtain rfl := Nat.eq_of_beq_eq_true e9
      obtain rfl : len = 1 := hlen.resolve_right (Nat.succ_ne_zero _)
      obtain ⟨L, xs, es, hin, hh⟩ := oS_e h4
      obtain ⟨s1, s2, s3⟩ := hscr _ _ es
      intro σ hσ H locs ls hP hD hS hl
      have e1 : σ 1000 = σ0 1000 := hσ 1000 (Or.inr rfl)
      have h5 := hk _ _ _ _ _ _ hh σ hσ H locs ls hP hD hS hl
      exact va_sld (b := σ 1000) hx hb (by rw [e1]; exact s1) (by rw [e1]; exact s2) (by rw [e1]; exact s3) hS hin hdg h5
    · exact base h4
  · obtain ⟨a, r', rfl, h2⟩ := pR_e h
    rcases cbz_e h2 with ⟨e9, h4⟩ | ⟨-, h4⟩
    · obtain rfl := Nat.eq_of_beq_eq_true e9
      obtain rfl : len = 1 := hlen.resolve_right (Nat.succ_ne_zero _)
      obtain ⟨L, xs, es, hh⟩ := oS_e h4
      obtain ⟨s1, s2, s3⟩ := hscr _ _ es
      intro σ hσ H locs ls hP hD hS hl
      have e1 : σ 1000 = σ0 1000 := hσ 1000 (Or.inr rfl)
      have h5 := hk _ _ _ _ _ _ hh σ hσ H locs ls hP hD hS hl
      exact va_slen (b := σ 1000) hx hb (by rw [e1]; exact s1) (by rw [e1]; exact s2) (by rw [e1]; exact s3) hS hdg h5
    · exact base h4
  · exact hcall _ _ _ _ _ _ _ h (fun st' w' cl' sl' q => hk _ _ _ _ _ _ q)
  · exact hcall _ _ _ _ _ _ _ h (fun st' w' cl' sl' q => hk _ _ _ _ _ _ q)
  · exact hcall _ _ _ _ _ _ _ h (fun st' w' cl' sl' q => hk _ _ _ _ _ _ q)
  · exact base h
end SZ
