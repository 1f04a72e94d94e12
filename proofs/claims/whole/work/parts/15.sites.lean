/-! ===== call sites by the tables; Math.max, Math.min, System.arraycopy ===== -/
theorem xd_S {cc : ByteArray} {pc idx nx tg : Nat} {li : Int32} (h : xdec cc pc = some (.invokestatic idx, nx, tg, li)) : decode cc pc = .ok (.invokestatic idx, 3) := by
  obtain ⟨len, h1, h2, -⟩ := xdec_ok h
  obtain rfl : len = 3 := h2.resolve_right (Nat.succ_ne_zero _)
  exact h1
theorem xd_V {cc : ByteArray} {pc idx nx tg : Nat} {li : Int32} (h : xdec cc pc = some (.invokevirtual idx, nx, tg, li)) : decode cc pc = .ok (.invokevirtual idx, 3) := by
  obtain ⟨len, h1, h2, -⟩ := xdec_ok h
  obtain rfl : len = 3 := h2.resolve_right (Nat.succ_ne_zero _)
  exact h1
theorem rnS {cc cc' : ByteArray} {nL nL' d d' pc idx na nx tg : Nat} {li : Int32} {rt rt' : Option FieldType} {own : String} {y : MethodName} {F : Fn} (hd : xdec cc pc = some (.invokestatic idx, nx, tg, li)) (hct : Ct y cc' nL' rt' d' F) (k : KS y cc' nL' rt' na) (hl : Cond.methodLink own idx y ∈ uW) (hdd : d' + 1 ≤ d) : RunOK cc nL rt own d pc none na F :=
  run_S (xd_S hd) hct k.1 hl k.2.1 k.2.2.1 k.2.2.2.1 hdd k.2.2.2.2.1
theorem rnN {cc cc' : ByteArray} {nL nL' d d' pc idx na nx tg : Nat} {li : Int32} {rt rt' : Option FieldType} {own host : String} {y : MethodName} {F : Fn} (hd : xdec cc pc = some (.invokestatic idx, nx, tg, li)) (hct : Ct y cc' nL' rt' d' F) (k : KS y cc' nL' rt' na) (hl : (own, idx, y, host) ∈ NWl) (hdd : d' + 1 ≤ d) : RunOK cc nL rt own d pc none na F :=
  run_N (xd_S hd) hct k.1 hl k.2.1 k.2.2.1 k.2.2.2.1 hdd k.2.2.2.2.1
theorem rnV {cc cc' : ByteArray} {nL nL' d d' pc idx na ci nx tg : Nat} {li : Int32} {rt rt' : Option FieldType} {own : String} {y : MethodName} {F : Fn} (hd : xdec cc pc = some (.invokevirtual idx, nx, tg, li)) (hct : Ct y cc' nL' rt' d' F) (k : KV y cc' nL' rt' na ci) (hl : Cond.methodLink own idx y ∈ uW) (hdd : d' + 1 ≤ d) : RunOK cc nL rt own d pc (some ci) (na + 1) F := by
  obtain ⟨k1, k2, k3, k4, k5, ⟨T, N, k6⟩, k7, k8⟩ := k
  exact run_V (xd_V hd) hct k1 hl k2 k3 k4 k6 k5 hdd k7
def jmax (x y : Int32) : Int32 := if x < y then y else x
def jmin (x y : Int32) : Int32 := if y < x then y else x
def cMax (st : List sv) (w : List sc) (kk : List sv → List sc → Prop) : Prop := pI st fun y r => pI r fun x r => rcat r ≤ 8 ∧ kk (.inl (jmax x y) :: r) w
def cMin (st : List sv) (w : List sc) (kk : List sv → List sc → Prop) : Prop := pI st fun y r => pI r fun x r => rcat r ≤ 8 ∧ kk (.inl (jmin x y) :: r) w
def cCpy (st : List sv) (w : List sc) (kk : List sv → List sc → Prop) : Prop := pI st fun n r => pI r fun dp r => pR r fun a r => pI r fun sp r => pR r fun a0 r => rcat r ≤ 8 ∧ cI 0 (nth w a0) fun n0 f => cI 0 (nth w a) fun n1 g =>
  (¬ sp < 0 ∧ ¬ dp < 0 ∧ ¬ n < 0 ∧ sp.toNatClampNeg + n.toNatClampNeg ≤ n0 ∧ dp.toNatClampNeg + n.toNatClampNeg ≤ n1) ∧ kk r (snth w a (.inr (0, n1, .inl (va_cpy f g sp.toNatClampNeg dp.toNatClampNeg n.toNatClampNeg))))
theorem site_max {cc : ByteArray} {nL d pc idx nx tg : Nat} {li : Int32} {rt : Option FieldType} {own : String} (hd : xdec cc pc = some (.invokestatic idx, nx, tg, li)) (hl : Cond.methodLink own idx Lib.Math.max.name ∈ uW) (hdd : 1 ≤ d) : SiteOK cc nL rt own d pc cMax := by
  intro p l e s m args below meth c D σ cA A Q X hnw hA st w kk h lv hk H locs ls hP hD hS hlv
  obtain ⟨y, r1, rfl, g1⟩ := pI_e h
  obtain ⟨x, r, rfl, hrc, g⟩ := pI_e g1
  obtain ⟨hx, hb, hml, hown, hts, hK, hlocks, hr⟩ := X
  exact va_mmax hx hb (hml.trans hlv.1.symm) hown (hts _ hl) (hts _ k_max.2.1) (hts _ k_max.2.2) (hts _ k_max.1) hdd (by rw [rcat_ok]; show _ ≤ 100 * d; omega) (Nat.le_refl 0) (Nat.le_refl 0) (xd_S hd) (hk _ _ g H locs ls hP hD hS hlv)
theorem site_min {cc : ByteArray} {nL d pc idx nx tg : Nat} {li : Int32} {rt : Option FieldType} {own : String} (hd : xdec cc pc = some (.invokestatic idx, nx, tg, li)) (hl : Cond.methodLink own idx Lib.Math.min.name ∈ uW) (hdd : 1 ≤ d) : SiteOK cc nL rt own d pc cMin := by
  intro p l e s m args below meth c D σ cA A Q X hnw hA st w kk h lv hk H locs ls hP hD hS hlv
  obtain ⟨y, r1, rfl, g1⟩ := pI_e h
  obtain ⟨x, r, rfl, hrc, g⟩ := pI_e g1
  obtain ⟨hx, hb, hml, hown, hts, hK, hlocks, hr⟩ := X
  exact va_mmin hx hb (hml.trans hlv.1.symm) hown (hts _ hl) (hts _ k_min.2.1) (hts _ k_min.2.2) (hts _ k_min.1) hdd (by rw [rcat_ok]; show _ ≤ 100 * d; omega) (Nat.le_refl 0) (Nat.le_refl 0) (xd_S hd) (hk _ _ g H locs ls hP hD hS hlv)
theorem nfw : nativeFrameWords "java/lang/System" "arraycopy" 5 + 11 ≤ 90 := by decide +kernel
theorem site_cpy {cc : ByteArray} {nL d pc idx nx tg : Nat} {li : Int32} {rt : Option FieldType} {own : String} (hd : xdec cc pc = some (.invokestatic idx, nx, tg, li)) (hl : Cond.methodLink own idx arraycopyName ∈ uW) (hdd : 1 ≤ d) : SiteOK cc nL rt own d pc cCpy := by
  intro p l e s m args below meth c D σ cA A Q X hnw hA st w kk h lv hk H locs ls hP hD hS hlv
  obtain ⟨n, r1, rfl, g1⟩ := pI_e h
  obtain ⟨dp, r2, rfl, g2⟩ := pI_e g1
  obtain ⟨a, r3, rfl, g3⟩ := pR_e g2
  obtain ⟨sp, r4, rfl, g4⟩ := pI_e g3
  obtain ⟨a0, r, rfl, hrc, g5⟩ := pR_e g4
  obtain ⟨n0, f, hw0, g6⟩ := cI_e g5
  obtain ⟨n1, g, hw1, ⟨h1, h2, h3, h4, h5⟩, g7⟩ := cI_e g6
  obtain ⟨hx, hb, hml, hown, hts, hK, hlocks, hr⟩ := X
  have he0 := tw_nth (σ := σ) (cA := cA) (k := 0) hw0
  have he1 := tw_nth (σ := σ) (cA := cA) (k := 0) hw1
  rw [Nat.zero_add] at he0 he1
  refine va_copyi (a := σ a) (a0 := σ a0) hx hb (hml.trans hlv.1.symm) hown (hts _ hl) (hts _ k_copy.1) (hts _ k_copy.2.1) (hts _ k_copy.2.2) hK hP hD hS a0 a 0 0 he0 he1 rfl rfl rfl h1 h2 h3 h4 h5 (fun _ _ => rfl) hdd (by rw [rcat_ok]; have := nfw; show _ ≤ 100 * d; omega) (xd_S hd) (fun H1 locs1 hP1 hD1 hS1 => ?_)
  have e1 := tw_snth (σ := σ) (cA := cA) w 0 a (.inr (0, n1, .inl (va_cpy f g sp.toNatClampNeg dp.toNatClampNeg n.toNatClampNeg)))
  rw [Nat.zero_add] at e1
  exact hk _ _ g7 H1 locs1 ls (by rw [e1]; exact hP1) (by rw [e1]; exact hD1) hS1 hlv
