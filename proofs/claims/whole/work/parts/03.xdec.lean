/-! decode, with what a step needs at hand: the next place, the target (of a jump; else the number in the instruction), the constant -/
def xtg : Instr → Nat → Nat
  | .goto o, pc => ((pc : Int) + o).toNat
  | .if_icmp _ o, pc => ((pc : Int) + o).toNat
  | .ifCond _ o, pc => ((pc : Int) + o).toNat
  | .iload_n n, _ => n.val
  | .lload_n n, _ => n.val
  | .aload_n n, _ => n.val
  | .istore_n n, _ => n.val
  | .lstore_n n, _ => n.val
  | .astore_n n, _ => n.val
  | .iload n, _ => n
  | .lload n, _ => n
  | .aload n, _ => n
  | .istore n, _ => n
  | .lstore n, _ => n
  | .astore n, _ => n
  | .iinc n _, _ => n
  | .getfield n, _ => n
  | .putfield n, _ => n
  | .ldc n, _ => n
  | .ldc_w n, _ => n
  | .ldc2_w n, _ => n
  | _, _ => 0
def xli : Instr → Int32
  | .iconst n => Int32.ofInt n
  | .bipush n => (Int8.ofInt n).toInt32
  | .sipush n => (Int16.ofInt n).toInt32
  | .iinc _ n => Int32.ofInt n
  | .lconst n => Int32.ofNat n.val
  | _ => 0
def xln : Instr → Nat
  | .bipush _ => 2
  | .sipush _ => 3
  | .ldc _ => 2
  | .ldc_w _ => 3
  | .ldc2_w _ => 3
  | .iload _ => 2
  | .lload _ => 2
  | .aload _ => 2
  | .istore _ => 2
  | .lstore _ => 2
  | .astore _ => 2
  | .iinc _ _ => 3
  | .goto _ => 3
  | .if_icmp _ _ => 3
  | .ifCond _ _ => 3
  | .getfield _ => 3
  | .putfield _ => 3
  | .invokevirtual _ => 3
  | .invokestatic _ => 3
  | .invokespecial _ => 3
  | .new _ => 3
  | .newarray _ => 2
  | .anewarray _ => 3
  | .tableswitch _ _ _ _ => 0
  | .lookupswitch _ _ => 0
  | _ => 1
def xps : Instr → Nat → Bool
  | .goto o, pc => decide (0 ≤ (pc : Int) + o)
  | .if_icmp _ o, pc => decide (0 ≤ (pc : Int) + o)
  | .ifCond _ o, pc => decide (0 ≤ (pc : Int) + o)
  | .tableswitch d _ _ os, pc => decide (0 ≤ (pc : Int) + d) && os.toList.all (fun o => decide (0 ≤ (pc : Int) + o))
  | .lookupswitch d ps, pc => decide (0 ≤ (pc : Int) + d) && ps.toList.all (fun o => decide (0 ≤ (pc : Int) + o.2))
  | _, _ => true
def xdec (cc : ByteArray) (pc : Nat) : Option (Instr × Nat × Nat × Int32) := match decode cc pc with
  | .ok (i, len) => if (len = xln i ∨ xln i = 0) ∧ xps i pc = true then some (i, pc + len, xtg i pc, xli i) else none
  | _ => none
theorem xdec_ok {cc : ByteArray} {pc nx tg : Nat} {i : Instr} {li : Int32} (h : xdec cc pc = some (i, nx, tg, li)) : ∃ len, decode cc pc = .ok (i, len) ∧ (len = xln i ∨ xln i = 0) ∧ xps i pc = true ∧ nx = pc + len ∧ tg = xtg i pc ∧ li = xli i := by
  unfold xdec at h
  split at h
  · rename_i i' len hd
    split at h
    · rename_i hl
      simp only [Option.some.injEq, Prod.mk.injEq] at h
      obtain ⟨rfl, rfl, rfl, rfl⟩ := h
      exact ⟨len, hd, hl.1, hl.2, rfl, rfl, rfl⟩
    · cases h
  · cases h
def lkB {α : Type} : List (Nat × α) → Nat → Option α
  | [], _ => none
  | (q, a) :: t, i => cond (Nat.beq i q) (some a) (lkB t i)
theorem lkB_e {α : Type} {P : Nat → α → Prop} : ∀ {L : List (Nat × α)} {i : Nat} {v : α}, (∀ q ∈ L, P q.1 q.2) → lkB L i = some v → P i v
  | [], _, _, _, h => by cases h
  | (q, a) :: t, i, v, hL, h => by
    unfold lkB at h
    cases e : Nat.beq i q with
    | true =>
      rw [e] at h
      have h1 : some a = some v := h
      cases h1
      rw [Nat.eq_of_beq_eq_true e]; exact hL _ List.mem_cons_self
    | false =>
      rw [e] at h
      exact lkB_e (fun z hz => hL z (List.mem_cons_of_mem _ hz)) h
theorem lkB_all {L : List (Nat × (Instr × Nat × Nat × Int32))} {cc : ByteArray} (h : L.all (fun q => decide (xdec cc q.1 = some q.2)) = true) : ∀ pc q, lkB L pc = some q → xdec cc pc = some q :=
  fun pc q hq => lkB_e (P := fun pc q => xdec cc pc = some q) (fun z hz => of_decide_eq_true (List.all_eq_true.mp h z hz)) hq
