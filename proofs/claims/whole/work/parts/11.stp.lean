/-! ===== a step, and steps up to the cuts ===== -/
abbrev Cl : Type := Nat → List sv → List sc → (List sv → List sc → Prop) → Prop
def stpi (nL rk : Nat) (fld : Ft) (cst : Nat → Option Int32) (cstL : Nat → Option Int64) (call : Cl) (ret : Option sv → List sc → Prop)
    (k : Kt) (i : Instr) (nx tg : Nat) (li : Int32) (pc : Nat) (lv : List (Option sv)) (st : List sv) (w : List sc) : Prop := match i with
  | .iconst _ => k nx lv (.inl li :: st) w
  | .bipush _ => k nx lv (.inl li :: st) w
  | .sipush _ => k nx lv (.inl li :: st) w
  | .lconst n => k nx lv (.inr (.inl (cond (Nat.beq n.val 0) 0 1)) :: st) w
  | .ldc _ => oO (cst tg) fun x => k nx lv (.inl x :: st) w
  | .ldc_w _ => oO (cst tg) fun x => k nx lv (.inl x :: st) w
  | .ldc2_w _ => oO (cstL tg) fun x => k nx lv (.inr (.inl x) :: st) w
  | .iload_n _ => lI (lk lv tg) fun x => k nx lv (.inl x :: st) w
  | .iload _ => lI (lk lv tg) fun x => k nx lv (.inl x :: st) w
  | .lload_n _ => lL (lk lv tg) fun x => k nx lv (.inr (.inl x) :: st) w
  | .lload _ => lL (lk lv tg) fun x => k nx lv (.inr (.inl x) :: st) w
  | .aload_n _ => lR (lk lv tg) fun x => k nx lv (.inr (.inr (some x)) :: st) w
  | .aload _ => lR (lk lv tg) fun x => k nx lv (.inr (.inr (some x)) :: st) w
  | .istore_n _ => pI st fun x r => ck (Nat.blt tg nL) <| k nx (sl (kl2 lv tg) tg (some (.inl x))) r w
  | .istore _ => pI st fun x r => ck (Nat.blt tg nL) <| k nx (sl (kl2 lv tg) tg (some (.inl x))) r w
  | .lstore_n _ => pL st fun x r => ck (Nat.blt (tg + 1) nL) <| k nx (sl (sl (kl2 lv tg) tg (some (.inr (.inl x)))) (tg + 1) none) r w
  | .lstore _ => pL st fun x r => ck (Nat.blt (tg + 1) nL) <| k nx (sl (sl (kl2 lv tg) tg (some (.inr (.inl x)))) (tg + 1) none) r w
  | .astore_n _ => pR st fun x r => ck (Nat.blt tg nL) <| k nx (sl (kl2 lv tg) tg (some (.inr (.inr (some x))))) r w
  | .astore _ => pR st fun x r => ck (Nat.blt tg nL) <| k nx (sl (kl2 lv tg) tg (some (.inr (.inr (some x))))) r w
  | .iinc _ _ => lI (lk lv tg) fun x => ck (Nat.blt tg nL) <| k nx (sl (kl2 lv tg) tg (some (.inl (x + li)))) st w
  | .iadd => pI st fun y r => pI r fun x r => k nx lv (.inl (x + y) :: r) w
  | .isub => pI st fun y r => pI r fun x r => k nx lv (.inl (x - y) :: r) w
  | .imul => pI st fun y r => pI r fun x r => k nx lv (.inl (x * y) :: r) w
  | .idiv => pI st fun y r => pI r fun x r => ¬ y = 0 ∧ k nx lv (.inl (x / y) :: r) w
  | .irem => pI st fun y r => pI r fun x r => ¬ y = 0 ∧ k nx lv (.inl (jrem x y) :: r) w
  | .iand => pI st fun y r => pI r fun x r => k nx lv (.inl (x &&& y) :: r) w
  | .ior => pI st fun y r => pI r fun x r => k nx lv (.inl (x ||| y) :: r) w
  | .ixor => pI st fun y r => pI r fun x r => k nx lv (.inl (x ^^^ y) :: r) w
  | .ishl => pI st fun y r => pI r fun x r => k nx lv (.inl (jshl x y) :: r) w
  | .ishr => pI st fun y r => pI r fun x r => k nx lv (.inl (jshr x y) :: r) w
  | .iushr => pI st fun y r => pI r fun x r => k nx lv (.inl (jushr x y) :: r) w
  | .ladd => pL st fun y r => pL r fun x r => k nx lv (.inr (.inl (x + y)) :: r) w
  | .lsub => pL st fun y r => pL r fun x r => k nx lv (.inr (.inl (x - y)) :: r) w
  | .lmul => pL st fun y r => pL r fun x r => k nx lv (.inr (.inl (x * y)) :: r) w
  | .ldiv => pL st fun y r => pL r fun x r => ¬ y = 0 ∧ k nx lv (.inr (.inl (x / y)) :: r) w
  | .lrem => pL st fun y r => pL r fun x r => ¬ y = 0 ∧ k nx lv (.inr (.inl (jremL x y)) :: r) w
  | .lcmp => pL st fun y r => pL r fun x r => k nx lv (.inl (lg_cmp x y) :: r) w
  | .i2l => pI st fun x r => k nx lv (.inr (.inl x.toInt64) :: r) w
  | .l2i => pL st fun x r => k nx lv (.inl x.toInt32 :: r) w
  | .i2b => pI st fun x r => k nx lv (.inl x.toInt8.toInt32 :: r) w
  | .i2s => pI st fun x r => k nx lv (.inl x.toInt16.toInt32 :: r) w
  | .dup => pA st fun x r => k nx lv (x :: x :: r) w
  | .dup2 => pA st fun x r => pA r fun y r => k nx lv (x :: y :: x :: y :: r) w
  | .pop => pA st fun x r => k nx lv r w
  | .goto _ => k tg lv st w
  | .ifCond c _ => pI st fun x r => jc c x 0 (k tg lv r w) (k nx lv r w)
  | .if_icmp c _ => pI st fun y r => pI r fun x r => jc c x y (k tg lv r w) (k nx lv r w)
  | .tableswitch d lo hi offs => pI st fun x r => (x.toInt < lo ∨ hi < x.toInt → k ((pc : Int) + d).toNat lv r w) ∧ ck (Nat.beq offs.size (hi - lo + 1).toNat) (tsw pc x lo offs.toList fun q => k q lv r w)
  | .lookupswitch d ps => pI st fun x r => ck ((ps.toList.zip (ps.toList.drop 1)).all (fun (a, next) => a.1 < next.1)) <| lsw pc x ps.toList d fun q => k q lv r w
  | .getfield _ => pR st fun a r => oF (fld tg) fun ci kf _ => cO (nth w a) fun cj fs => cq cj ci (oO (nth fs kf) fun v => k nx lv (v :: r) w)
  | .putfield _ => pA st fun v r => pR r fun a r => oF (fld tg) fun ci kf ty => okv ty v (cO (nth w a) fun cj fs => cq cj ci (oO (nth fs kf) fun _ => k nx lv r (snth w a (.inl (ci, snth fs kf v)))))
  | .iaload => pI st fun i r => pR r fun a r => cI 0 (nth w a) fun n f => vp_in i n ∧ k nx lv (.inl (f i.toNatClampNeg) :: r) w
  | .iastore => pI st fun x r => pI r fun i r => pR r fun a r => cI 0 (nth w a) fun n f => vp_in i n ∧ k nx lv r (snth w a (.inr (0, n, .inl (upd f i.toNatClampNeg x))))
  | .laload => pI st fun i r => pR r fun a r => cL (nth w a) fun n f => vp_in i n ∧ k nx lv (.inr (.inl (f i.toNatClampNeg)) :: r) w
  | .lastore => pL st fun x r => pI r fun i r => pR r fun a r => cL (nth w a) fun n f => vp_in i n ∧ k nx lv r (snth w a (.inr (1, n, .inr (.inl (vp_updL f i.toNatClampNeg x)))))
  | .baload => pI st fun i r => pR r fun a r => cI 2 (nth w a) fun n f => vp_in i n ∧ k nx lv (.inl (f i.toNatClampNeg) :: r) w
  | .bastore => pI st fun x r => pI r fun i r => pR r fun a r => cI 2 (nth w a) fun n f => vp_in i n ∧ (x = 0 ∨ x = 1) ∧ k nx lv r (snth w a (.inr (2, n, .inl (upd f i.toNatClampNeg x))))
  | .aaload => pI st fun i r => pR r fun a r => cR (nth w a) fun n f => vp_in i n ∧ oO (f i.toNatClampNeg) fun v => k nx lv (.inr (.inr (some v)) :: r) w
  | .arraylength => pR st fun a r => cN (nth w a) fun n => k nx lv (.inl (Int32.ofNat n) :: r) w
  | .invokevirtual _ => call pc st w fun st' w' => k (pc + 3) lv st' w'
  | .invokestatic _ => call pc st w fun st' w' => k (pc + 3) lv st' w'
  | .invokespecial _ => call pc st w fun st' w' => k (pc + 3) lv st' w'
  | .ireturn => rI st fun x => rz rk x (ret (some (.inl x)) w)
  | .lreturn => rL st fun x => ck (Nat.beq rk 3) <| ret (some (.inr (.inl x))) w
  | .areturn => rR st fun x => ck (Nat.beq rk 4) <| ret (some (.inr (.inr (some x)))) w
  | .return_ => rV st (ck (Nat.beq rk 0) (ret none w))
  | _ => False
abbrev Pg : Type := Nat → Option (Instr × Nat × Nat × Int32)
def stp (pr : Pg) (nL rk : Nat) (fld : Ft) (cst : Nat → Option Int32) (cstL : Nat → Option Int64) (call : Cl) (ret : Option sv → List sc → Prop) (k : Kt) (pc : Nat) (lv : List (Option sv)) (st : List sv) (w : List sc) : Prop :=
  oP (pr pc) fun i nx tg li => stpi nL rk fld cst cstL call ret k i nx tg li pc lv st w
abbrev Ct0 : Type := Nat → Option (List Bool × (List (Option sv) → List sv → List sc → Prop))
def wpc (lv : List (Option sv)) (st : List sv) (w : List sc) (B : Prop) : Option (List Bool × (List (Option sv) → List sv → List sc → Prop)) → Prop
  | some (m, P) => P (msk m lv) st w
  | none => B
def wp (pr : Pg) (nL rk : Nat) (fld : Ft) (cst : Nat → Option Int32) (cstL : Nat → Option Int64) (call : Cl) (ret : Option sv → List sc → Prop) (cut : Ct0) : Nat → Kt
  | 0, _, _, _, _ => False
  | n + 1, pc, lv, st, w => wpc lv st w (stp pr nL rk fld cst cstL call ret (wp pr nL rk fld cst cstL call ret cut n) pc lv st w) (cut pc)
/-! the machine's side -/
def rto (rk : Nat) (rt : Option FieldType) : Prop := (rk = 0 → rt = none) ∧ (rk = 1 → rt = some .int) ∧ (rk = 2 → rt = some .boolean) ∧ (rk = 3 → rt = some .long) ∧ (rk = 4 → ∃ n, rt = some (.object n))
section ZX
variable {p : Program} {l : Launch} {e : Env} {R : Room} {s : State} {m : MethodId} {args : Array Value} {below : List Frame} {meth : Method} {c : Code} {D : va_G} {σ : Nat → Nat} {cA : Nat → ClassId} {A : Nat → Prop} {H0 : Heap} {nL : Nat} {Q : State → Prop}
def Zx (p : Program) (l : Launch) (e : Env) (R : Room) (s : State) (m : MethodId) (args : Array Value) (below : List Frame) (meth : Method) (c : Code) (D : va_G) (σ : Nat → Nat) (cA : Nat → ClassId) (A : Nat → Prop) (H0 : Heap) (nL : Nat) (Q : State → Prop) : Kt := fun pc lv st w =>
  ∀ (H : Heap) (locs : List Loc) (ls : Array Slot), va_P D vwCl (tw σ cA 0 w) H → va_D A (tw σ cA 0 w) → va_S A H0 H locs → lv_has ls nL (tl σ 0 lv) → W p l e R s m args below meth c H locs 0 0 Q (F0 m pc ls (st.map (tv σ)))
/-- what stays through a method -/
def Cx (p : Program) (s : State) (m : MethodId) (args : Array Value) (meth : Method) (c : Code) (D : va_G) (cA : Nat → ClassId) (cc : ByteArray) (nL : Nat) (rt : Option FieldType) (own : String) : Prop :=
  p.tables.exec = Jvm.exec ∧ c.code = cc ∧ c.maxLocals = nL ∧ s.vm.findClass own = some m.cls ∧ (∀ w ∈ uW, w.before args s = true) ∧ va_K D vwCl (tysL cA) s ∧ meth.locks = false ∧ meth.sig.returnType = rt
theorem Zx_mask {pc : Nat} {lv : List (Option sv)} {st : List sv} {w : List sc} (mm : List Bool) (h : Zx p l e R s m args below meth c D σ cA A H0 nL Q pc (msk mm lv) st w) : Zx p l e R s m args below meth c D σ cA A H0 nL Q pc lv st w :=
  fun H locs ls hP hD hS hl => h H locs ls hP hD hS (lvh_sub hl (tl_sub (lk_msk mm lv)))
end ZX
