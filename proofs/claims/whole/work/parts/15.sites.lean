/-! ===== call sites by the tables; Math.max, Math.min, System.arraycopy ===== -/
theorem xd_S {cc : ByteArray} {pc idx nx tg : Nat} {li : Int32} (h : xdec cc pc = some (.invokestatic idx, nx, tg, li)) : decode cc pc = .ok (.invokestatic idx, 3) := by
  obtain ⟨len, h1, h2, -⟩ := xdec_ok h
  obtain rfl : len = 3 := h2.resolve_right (Nat.succ_ne_zero _)
  exact h1
theorem xd_V {cc : ByteArray} {pc idx nx tg : Nat} {li : Int32} (h : xdec cc pc = some (.invokevirtual idx, nx, tg, li)) : decode cc pc = .ok (.invokevirtual idx, 3) := by
  obtain ⟨len, h1, h2, -⟩ := xdec_ok h
  obtain rfl : len = 3 := h2.resolve_right (Nat.succ_ne_zero _)
  exact h1
theorem rnS {cc cc' : ByteArray} {nL nL' d d' pc idx na nx tg : Nat} {li : Int32} {rt rt' : Option FieldType} {own : String} {y : MethodName} {F : Fn} (hd : xdec cc pc = some (.invokestatic idx, nx, tg, li)) (hct : Ct y cc' nL' rt' d' F) (k : KS y cc' nL' rt' na) (hl : Cond.methodLink own idx y ∈ uW) (hdd : d' + 1 ≤ d) : RunOK cc nL rt own d pc none na F :=
  run_S (xd_S hd) hct k.1 hl k.2.1 k.2.2.1 k.2.2.2.1 hdd k.2.2.2.2.1
theorem rnN {cc cc' : ByteArray} {nL nL' d d' pc idx na nx tg : Nat} {li : Int32} {rt rt' : Option FieldType} {own host : String} {y : MethodName} {F : Fn} (hd : xdec cc pc = some (.invokestatic idx, nx, tg, li)) (hct : Ct y cc' nL' rt' d' F) (k : KS y cc' nL' rt' na) (hl : (own, idx, y, host) ∈ NWl) (hdd : d' + 1 ≤ d) : RunOK cc nL rt own d pc none na F :=
  run_N (xd_S hd) hct k.1 hl k.2.1 k.2.2.1 k.2.2.2.1 hdd k.2.2.2.2.1
theorem rnV {cc cc' : ByteArray} {nL nL' d d' pc idx na ci nx tg : Nat} {li : Int32} {rt rt' : Option FieldType} {own : String} {y : MethodName} {F : Fn} (hd : xdec cc pc = some (.invokevirtual idx, nx, tg, li)) (hct : Ct y cc' nL' rt' d' F) (k : KV y cc' nL' rt' na ci) (hl : Cond.methodLink own idx y ∈ uW) (hdd : d' + 1 ≤ d) : RunOK cc nL rt own d pc (some ci) (na + 1) F := by
  obtain ⟨k1, k2, k3, k4, k5, ⟨T, N, k6⟩, k7, k8⟩ := k
  exact run_V (xd_V hd) hct k1 hl k2 k3 k4 k6 k5 hdd k7
def jmax (x y : Int32) : Int32 := if x < y then y else x
def jmin (x y : Int32) : Int32 := if y < x then y else x
def cMax (st : List sv) (w : List sc) (kk : List sv → List sc → Prop) : Prop := pI st fun y r => pI r fun x r => ck (Nat.ble (rcat r) 8) (kk (.inl (jmax x y) :: r) w)
def cMin (st : List sv) (w : List sc) (kk : List sv → List sc → Prop) : Prop := pI st fun y r => pI r fun x r => ck (Nat.ble (rcat r) 8) (kk (.inl (jmin x y) :: r) w)
def cCpy (st : List sv) (w : List sc) (kk : List sv → List sc → Prop) : Prop := pI st fun n r => pI r fun dp r => pR r fun a r => pI r fun sp r => pR r fun a0 r => ck (Nat.ble (rcat r) 8) <| cI 0 (nth w a0) fun n0 f => cI 0 (nth w a) fun n1 g =>
  (¬ sp < 0 ∧ ¬ dp < 0 ∧ ¬ n < 0 ∧ sp.toNatClampNeg + n.toNatClampNeg ≤ n0 ∧ dp.toNatClampNeg + n.toNatClampNeg ≤ n1) ∧ kk r (snth w a (.inr (0, n1, .inl (va_cpy f g sp.toNatClampNeg dp.toNatClampNeg n.toNatClampNeg))))
theorem site_max {cc : ByteArray} {nL d pc idx nx tg : Nat} {li : Int32} {rt : Option FieldType} {own : String} (hd : xdec cc pc = some (.invokestatic idx, nx, tg, li)) (hl : Cond.methodLink own idx Lib.Math.max.name ∈ uW) (hdd : 1 ≤ d) : SiteOK cc nL rt own d pc cMax := by
  intro p l e s m args below meth c D σ cA A Q X hnw hA st w kk h lv hk H locs ls hP hD hS hlv
  obtain ⟨y, r1, rfl, g1⟩ := pI_e h
  obtain ⟨x, r, rfl, g2⟩ := pI_e g1
  obtain ⟨hrc, g⟩ := ck_e g2
  have hrc := Nat.le_of_ble_eq_true hrc
  obtain ⟨hx, hb, hml, hown, hts, hK, hlocks, hr⟩ := X
  exact va_mmax hx hb (hml.trans hlv.1.symm) hown (hts _ hl) (hts _ k_max.2.1) (hts _ k_max.2.2) (hts _ k_max.1) hdd (by rw [rcat_ok]; show _ ≤ 100 * d; omega) (Nat.le_refl 0) (Nat.le_refl 0) (xd_S hd) (hk _ _ g H locs ls hP hD hS hlv)
theorem site_min {cc : ByteArray} {nL d pc idx nx tg : Nat} {li : Int32} {rt : Option FieldType} {own : String} (hd : xdec cc pc = some (.invokestatic idx, nx, tg, li)) (hl : Cond.methodLink own idx Lib.Math.min.name ∈ uW) (hdd : 1 ≤ d) : SiteOK cc nL rt own d pc cMin := by
  intro p l e s m args below meth c D σ cA A Q X hnw hA st w kk h lv hk H locs ls hP hD hS hlv
  obtain ⟨y, r1, rfl, g1⟩ := pI_e h
  obtain ⟨x, r, rfl, g2⟩ := pI_e g1
  obtain ⟨hrc, g⟩ := ck_e g2
  have hrc := Nat.le_of_ble_eq_true hrc
  obtain ⟨hx, hb, hml, hown, hts, hK, hlocks, hr⟩ := X
  exact va_mmin hx hb (hml.trans hlv.1.symm) hown (hts _ hl) (hts _ k_min.2.1) (hts _ k_min.2.2) (hts _ k_min.1) hdd (by rw [rcat_ok]; show _ ≤ 100 * d; omega) (Nat.le_refl 0) (Nat.le_refl 0) (xd_S hd) (hk _ _ g H locs ls hP hD hS hlv)
theorem nfw : nativeFrameWords "java/lang/System" "arraycopy" 5 + 11 ≤ 90 := by decide +kernel
theorem site_cpy {cc : ByteArray} {nL d pc idx nx tg : Nat} {li : Int32} {rt : Option FieldType} {own : String} (hd : xdec cc pc = some (.invokestatic idx, nx, tg, li)) (hl : Cond.methodLink own idx arraycopyName ∈ uW) (hdd : 1 ≤ d) : SiteOK cc nL rt own d pc cCpy := by
  intro p l e s m args below meth c D σ cA A Q X hnw hA st w kk h lv hk H locs ls hP hD hS hlv
  obtain ⟨n, r1, rfl, g1⟩ := pI_e h
  obtain ⟨dp, r2, rfl, g2⟩ := pI_e g1
  obtain ⟨a, r3, rfl, g3⟩ := pR_e g2
  obtain ⟨sp, r4, rfl, g4⟩ := pI_e g3
  obtain ⟨a0, r, rfl, g45⟩ := pR_e g4
  obtain ⟨hrc, g5⟩ := ck_e g45
  have hrc := Nat.le_of_ble_eq_true hrc
  obtain ⟨n0, f, hw0, g6⟩ := cI_e g5
  obtain ⟨n1, g, hw1, ⟨h1, h2, h3, h4, h5⟩, g7⟩ := cI_e g6
  obtain ⟨hx, hb, hml, hown, hts, hK, hlocks, hr⟩ := X
  have he0 := tw_nth (σ := σ) (cA := cA) (k := 0) hw0
  have he1 := tw_nth (σ := σ) (cA := cA) (k := 0) hw1
  rw [Nat.zero_add] at he0 he1
  refine va_copyi (a := σ a) (a0 := σ a0) hx hb (hml.trans hlv.1.symm) hown (hts _ hl) (hts _ k_copy.1) (hts _ k_copy.2.1) (hts _ k_copy.2.2) hK hP hD hS a0 a 0 0 he0 he1 rfl rfl rfl h1 h2 h3 h4 h5 (fun _ _ => rfl) hdd (by rw [rcat_ok]; have := nfw; show _ ≤ 100 * d; omega) (xd_S hd) (fun H1 locs1 hP1 hD1 hS1 => ?_)
  have e1 := tw_snth (σ := σ) (cA := cA) w 0 a (.inr (0, n1, .inl (va_cpy f g sp.toNatClampNeg dp.toNatClampNeg n.toNatClampNeg)))
  rw [Nat.zero_add] at e1
  exact hk _ _ g7 H1 locs1 ls (by rw [e1]; exact hP1) (by rw [e1]; exact hD1) hS1 hlv
theorem metL {y : MethodName} {cc : ByteArray} {pr : Pg} {nL rk d : Nat} {rt : Option FieldType} {fld : Ft} {cst : Nat → Option Int32} {cstL : Nat → Option Int64} {ct : List (Nat × (List sv → List sc → (List sv → List sc → Prop) → Prop))} {as : List sv} {w : List sc} {K : Option sv → List sc → Prop} (L : List (Nat × (List Bool × (Nat → List (Option sv) → List sv → List sc → Prop))))
    (hpr : ∀ pc q, pr pc = some q → xdec cc pc = some q) (hy : plainName y.cls = true) (hf : fdo y.cls fld) (hc : cdo y.cls cst cstL) (hrt : rto rk rt) (hct : CallOK cc nL rt y.cls d ct) (hlen : slen as ≤ nL)
    (hinv : ∀ q ∈ L, ∀ n lv st w, q.2.2 n lv st w → stp pr nL rk fld cst cstL (ctab ct) K (wp pr nL rk fld cst cstL (ctab ct) K (fun z => cutl n (lkB L z)) 400) q.1 lv st w)
    (hst : wp pr nL rk fld cst cstL (ctab ct) K (fun z => cuts (lkB L z)) 400 0 (enL as) [] w)
    (l : Launch) (D : va_G) (σ : Nat → Nat) (cA : Nat → ClassId) (sz : Nat) :
    Met l y (.code y cc nL rt :: uW) (rmd d) (va_Pc (as.map (tv σ)) (wPre D σ cA sz w)) (Qg D σ cA (va_A (tw σ cA 0 w) sz) K) 0 0 (va_A (tw σ cA 0 w) sz) :=
  met_of (lkB L) hpr hy hf hc hrt hct hlen (fun pc mm P h => lkB_e (P := fun pc q => ∀ n lv st w, q.2 n lv st w → stp pr nL rk fld cst cstL (ctab ct) K (wp pr nL rk fld cst cstL (ctab ct) K (fun z => cutl n (lkB L z)) 400) pc lv st w) hinv h) hst l D σ cA sz
theorem cut0 {P : Nat × (List Bool × (Nat → List (Option sv) → List sv → List sc → Prop)) → Prop} : ∀ q ∈ ([] : List (Nat × (List Bool × (Nat → List (Option sv) → List sv → List sc → Prop)))), P q := fun _ h => absurd h List.not_mem_nil
theorem rto0 : rto 0 none := ⟨fun _ => rfl, (fun h => by cases h), (fun h => by cases h), (fun h => by cases h), (fun h => by cases h)⟩
theorem rto1 : rto 1 (some .int) := ⟨(fun h => by cases h), fun _ => rfl, (fun h => by cases h), (fun h => by cases h), (fun h => by cases h)⟩
theorem rto2 : rto 2 (some .boolean) := ⟨(fun h => by cases h), (fun h => by cases h), fun _ => rfl, (fun h => by cases h), (fun h => by cases h)⟩
theorem rto3 : rto 3 (some .long) := ⟨(fun h => by cases h), (fun h => by cases h), (fun h => by cases h), fun _ => rfl, (fun h => by cases h)⟩
theorem rto4 (n : String) : rto 4 (some (.object n)) := ⟨(fun h => by cases h), (fun h => by cases h), (fun h => by cases h), (fun h => by cases h), fun _ => ⟨n, rfl⟩⟩
noncomputable def bp (P : Prop) : Int32 := @ite Int32 P (Classical.propDecidable P) 1 0
theorem bp_t {P : Prop} (h : P) : bp P = 1 := by unfold bp; exact @if_pos _ (Classical.propDecidable P) h _ _ _
theorem bp_f {P : Prop} (h : ¬ P) : bp P = 0 := by unfold bp; exact @if_neg _ (Classical.propDecidable P) h _ _ _
theorem bp_0 {P : Prop} : bp P = 0 ↔ ¬ P := ⟨fun h q => by rw [bp_t q] at h; exact absurd h (by decide), bp_f⟩
theorem bp_01 (P : Prop) : bp P = 0 ∨ bp P = 1 := (Classical.em P).elim (fun h => Or.inr (bp_t h)) (fun h => Or.inl (bp_f h))
theorem kI {K : Option sv → List sc → Prop} {w : List sc} {x y : Int32} (h : K (some (.inl x)) w) (e : x = y) : K (some (.inl y)) w := e ▸ h
theorem kB {K : Option sv → List sc → Prop} {w : List sc} {P : Prop} (h : K (some (.inl (bp P))) w) (e : P) : ((1 : Int32) = 0 ∨ (1 : Int32) = 1) ∧ K (some (.inl 1)) w := ⟨Or.inr rfl, by rw [bp_t e] at h; exact h⟩
theorem kB0 {K : Option sv → List sc → Prop} {w : List sc} {P : Prop} (h : K (some (.inl (bp P))) w) (e : ¬ P) : ((0 : Int32) = 0 ∨ (0 : Int32) = 1) ∧ K (some (.inl 0)) w := ⟨Or.inl rfl, by rw [bp_f e] at h; exact h⟩
