/-! decode, with what a step needs at hand: the next place, the target (of a jump; else the number in the instruction), the constant -/
def xtg : Instr → Nat → Nat
  | .goto o, pc => ((pc : Int) + o).toNat
  | .if_icmp _ o, pc => ((pc : Int) + o).toNat
  | .ifCond _ o, pc => ((pc : Int) + o).toNat
  | .iload_n n, _ => n.val
  | .lload_n n, _ => n.val
  | .aload_n n, _ => n.val
  | .istore_n n, _ => n.val
  | .lstore_n n, _ => n.val
  | .astore_n n, _ => n.val
  | .iload n, _ => n
  | .lload n, _ => n
  | .aload n, _ => n
  | .istore n, _ => n
  | .lstore n, _ => n
  | .astore n, _ => n
  | .iinc n _, _ => n
  | .getfield n, _ => n
  | .putfield n, _ => n
  | .ldc n, _ => n
  | .ldc_w n, _ => n
  | .ldc2_w n, _ => n
  | _, _ => 0
def xli : Instr → Int32
  | .iconst n => Int32.ofInt n
  | .bipush n => (Int8.ofInt n).toInt32
  | .sipush n => (Int16.ofInt n).toInt32
  | .iinc _ n => Int32.ofInt n
  | .lconst n => Int32.ofNat n.val
  | _ => 0
def xdec (cc : ByteArray) (pc : Nat) : Option (Instr × Nat × Nat × Int32) := match decode cc pc with
  | .ok (i, len) => some (i, pc + len, xtg i pc, xli i)
  | _ => none
theorem xdec_ok {cc : ByteArray} {pc nx tg : Nat} {i : Instr} {li : Int32} (h : xdec cc pc = some (i, nx, tg, li)) : ∃ len, decode cc pc = .ok (i, len) ∧ nx = pc + len ∧ tg = xtg i pc ∧ li = xli i := by
  unfold xdec at h
  split at h
  · rename_i i' len hd
    simp only [Option.some.injEq, Prod.mk.injEq] at h
    obtain ⟨rfl, rfl, rfl, rfl⟩ := h
    exact ⟨len, hd, rfl, rfl, rfl⟩
  · cases h
