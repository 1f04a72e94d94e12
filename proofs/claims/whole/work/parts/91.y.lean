/-! ===== the step once more, with cells and slots, to any end ===== -/
section SNY
variable {p : Program} {l : Launch} {e : Env} {R : Room} {s : State} {m : MethodId} {args : Array Value} {below : List Frame} {meth : Method} {c : Code} {D : va_G} {σ : Nat → Nat} {cA : Nat → ClassId} {A : Nat → Prop} {H0 : Heap} {nL : Nat}
def Zy (p : Program) (l : Launch) (e : Env) (R : Room) (s : State) (m : MethodId) (args : Array Value) (below : List Frame) (meth : Method) (c : Code) (D : va_G) (σ : Nat → Nat) (cA : Nat → ClassId) (A : Nat → Prop) (H0 : Heap) (nL cl sl : Nat) (Q : State → Prop) : Kt := fun pc lv st w =>
  ∀ (H : Heap) (locs : List Loc) (ls : Array Slot), va_P D vwCl (tw σ cA 0 w) H → va_D A (tw σ cA 0 w) → va_S A H0 H locs → lv_has ls nL (tl σ 0 lv) → W p l e R s m args below meth c H locs cl sl Q (F0 m pc ls (st.map (tv σ)))
set_option maxHeartbeats 4000000 in
theorem stpy_sound {cc : ByteArray} {fld : Ft} {cst : Nat → Option Int32} {cstL : Nat → Option Int64} {call : Cl} {k : Kt} {rt : Option FieldType} {own : String} {cl sl : Nat} {Q : State → Prop}
    (X : Cx p s m args meth c D cA cc nL rt own) (hf : fdo own fld) (hc : cdo own cst cstL)
    (hk : ∀ pc lv st w, k pc lv st w → Zy p l e R s m args below meth c D σ cA A H0 nL cl sl Q pc lv st w)
    (hcall : ∀ pc st w kk, call pc st w kk → ∀ lv, (∀ st' w', kk st' w' → Zy p l e R s m args below meth c D σ cA A H0 nL cl sl Q (pc + 3) lv st' w') → Zy p l e R s m args below meth c D σ cA A H0 nL cl sl Q pc lv st w)
    {pc : Nat} {lv : List (Option sv)} {st : List sv} {w : List sc} {i : Instr} {nx tg : Nat} {li : Int32} (hd : xdec cc pc = some (i, nx, tg, li)) (h : stpi nL 9 fld cst cstL call (fun _ _ => False) k i nx tg li pc lv st w) :
    Zy p l e R s m args below meth c D σ cA A H0 nL cl sl Q pc lv st w := by
  obtain ⟨hx, hb, hml, hown, hts, hK, hlocks, hr⟩ := id X
  obtain ⟨len, hdg, hlen, hps, rfl, rfl, rfl⟩ := xdec_ok hd
  intro H locs ls hP hD hS hl
  cases i
  case iconst n =>
    obtain rfl : len = 1 := hlen.resolve_right (Nat.succ_ne_zero _)
    exact lv_iconst hx hb hdg rfl (hk _ _ _ _ h _ _ _ hP hD hS hl)
  case bipush n =>
    obtain rfl : len = 2 := hlen.resolve_right (Nat.succ_ne_zero _)
    exact lv_bipush hx hb hdg rfl (hk _ _ _ _ h _ _ _ hP hD hS hl)
  case sipush n =>
    obtain rfl : len = 3 := hlen.resolve_right (Nat.succ_ne_zero _)
    exact lv_sipush hx hb hdg rfl (hk _ _ _ _ h _ _ _ hP hD hS hl)
  case lconst n =>
    obtain rfl : len = 1 := hlen.resolve_right (Nat.succ_ne_zero _)
    rcases (show n = 0 ∨ n = 1 by omega) with rfl | rfl
    · exact lv_lconst hx hb hdg rfl (hk _ _ _ _ h _ _ _ hP hD hS hl)
    · exact lv_lconst hx hb hdg rfl (hk _ _ _ _ h _ _ _ hP hD hS hl)
  case ldc n =>
    obtain rfl : len = 2 := hlen.resolve_right (Nat.succ_ne_zero _)
    obtain ⟨x, h1, h2⟩ := oO_e h
    exact lv_ldc hx hb hown (hts _ (hc.1 _ _ h1)) hdg (hk _ _ _ _ h2 _ _ _ hP hD hS hl)
  case ldc_w n =>
    obtain rfl : len = 3 := hlen.resolve_right (Nat.succ_ne_zero _)
    obtain ⟨x, h1, h2⟩ := oO_e h
    exact lv_ldcw hx hb hown (hts _ (hc.1 _ _ h1)) hdg (hk _ _ _ _ h2 _ _ _ hP hD hS hl)
  case ldc2_w n =>
    obtain rfl : len = 3 := hlen.resolve_right (Nat.succ_ne_zero _)
    obtain ⟨x, h1, h2⟩ := oO_e h
    exact lv_ldc2 hx hb hown (hts _ (hc.2 _ _ h1)) hdg (hk _ _ _ _ h2 _ _ _ hP hD hS hl)
  case iload_n n =>
    obtain rfl : len = 1 := hlen.resolve_right (Nat.succ_ne_zero _)
    obtain ⟨x, h1, h2⟩ := lI_e h
    exact lv_iload_n hx hb hdg rfl (lkm hl h1) (hk _ _ _ _ h2 _ _ _ hP hD hS hl)
  case iload n =>
    obtain rfl : len = 2 := hlen.resolve_right (Nat.succ_ne_zero _)
    obtain ⟨x, h1, h2⟩ := lI_e h
    exact lv_iload hx hb hdg (lkm hl h1) (hk _ _ _ _ h2 _ _ _ hP hD hS hl)
  case lload_n n =>
    obtain rfl : len = 1 := hlen.resolve_right (Nat.succ_ne_zero _)
    obtain ⟨x, h1, h2⟩ := lL_e h
    exact lv_lload_n hx hb hdg rfl (lkm hl h1) (hk _ _ _ _ h2 _ _ _ hP hD hS hl)
  case lload n =>
    obtain rfl : len = 2 := hlen.resolve_right (Nat.succ_ne_zero _)
    obtain ⟨x, h1, h2⟩ := lL_e h
    exact lv_lload hx hb hdg (lkm hl h1) (hk _ _ _ _ h2 _ _ _ hP hD hS hl)
  case aload_n n =>
    obtain rfl : len = 1 := hlen.resolve_right (Nat.succ_ne_zero _)
    obtain ⟨x, h1, h2⟩ := lR_e h
    exact lv_aload_n hx hb hdg rfl (lkm hl h1) (hk _ _ _ _ h2 _ _ _ hP hD hS hl)
  case aload n =>
    obtain rfl : len = 2 := hlen.resolve_right (Nat.succ_ne_zero _)
    obtain ⟨x, h1, h2⟩ := lR_e h
    exact lv_aload hx hb hdg (lkm hl h1) (hk _ _ _ _ h2 _ _ _ hP hD hS hl)
  case istore_n n =>
    obtain rfl : len = 1 := hlen.resolve_right (Nat.succ_ne_zero _)
    obtain ⟨x, r, rfl, hh⟩ := pI_e h; obtain ⟨h1, h2⟩ := ck_e hh; have h1 := Nat.le_of_ble_eq_true h1
    exact lv_istore_n hx hb hdg rfl hl h1 rfl (fun ls' hl' => hk _ _ _ _ h2 _ _ _ hP hD hS (lvh_sub hl' tl_st1))
  case istore n =>
    obtain rfl : len = 2 := hlen.resolve_right (Nat.succ_ne_zero _)
    obtain ⟨x, r, rfl, hh⟩ := pI_e h; obtain ⟨h1, h2⟩ := ck_e hh; have h1 := Nat.le_of_ble_eq_true h1
    exact lv_istore hx hb hdg hl h1 rfl (fun ls' hl' => hk _ _ _ _ h2 _ _ _ hP hD hS (lvh_sub hl' tl_st1))
  case lstore_n n =>
    obtain rfl : len = 1 := hlen.resolve_right (Nat.succ_ne_zero _)
    obtain ⟨x, r, rfl, hh⟩ := pL_e h; obtain ⟨h1, h2⟩ := ck_e hh; have h1 := Nat.le_of_ble_eq_true h1
    exact lv_lstore_n hx hb hdg rfl hl h1 rfl (fun ls' hl' => hk _ _ _ _ h2 _ _ _ hP hD hS (lvh_sub hl' tl_st2))
  case lstore n =>
    obtain rfl : len = 2 := hlen.resolve_right (Nat.succ_ne_zero _)
    obtain ⟨x, r, rfl, hh⟩ := pL_e h; obtain ⟨h1, h2⟩ := ck_e hh; have h1 := Nat.le_of_ble_eq_true h1
    exact lv_lstore hx hb hdg hl h1 rfl (fun ls' hl' => hk _ _ _ _ h2 _ _ _ hP hD hS (lvh_sub hl' tl_st2))
  case astore_n n =>
    obtain rfl : len = 1 := hlen.resolve_right (Nat.succ_ne_zero _)
    obtain ⟨x, r, rfl, hh⟩ := pR_e h; obtain ⟨h1, h2⟩ := ck_e hh; have h1 := Nat.le_of_ble_eq_true h1
    exact lv_astore_n hx hb hdg rfl hl h1 rfl (fun ls' hl' => hk _ _ _ _ h2 _ _ _ hP hD hS (lvh_sub hl' (tl_st1 (v := .inr (.inr (some x))))))
  case astore n =>
    obtain rfl : len = 2 := hlen.resolve_right (Nat.succ_ne_zero _)
    obtain ⟨x, r, rfl, hh⟩ := pR_e h; obtain ⟨h1, h2⟩ := ck_e hh; have h1 := Nat.le_of_ble_eq_true h1
    exact lv_astore hx hb hdg hl h1 rfl (fun ls' hl' => hk _ _ _ _ h2 _ _ _ hP hD hS (lvh_sub hl' (tl_st1 (v := .inr (.inr (some x))))))
  case iinc n q =>
    obtain rfl : len = 3 := hlen.resolve_right (Nat.succ_ne_zero _)
    obtain ⟨x, h1, hh⟩ := lI_e h; obtain ⟨h3, h2⟩ := ck_e hh; have h3 := Nat.le_of_ble_eq_true h3
    have h4 : (n, Value.int x) ∈ tl σ 0 lv := by
      have := tl_mem (σ := σ) (k := 0) h1
      rwa [Nat.zero_add] at this
    obtain ⟨kk, hkk⟩ := List.getElem?_of_mem h4
    exact lv_iinc hx hb hdg hl hkk rfl h3 rfl (fun ls' hl' => hk _ _ _ _ h2 _ _ _ hP hD hS (lvh_sub hl' (tl_st1 (v := .inl (x + Int32.ofInt q)))))
  case iadd =>
    obtain rfl : len = 1 := hlen.resolve_right (Nat.succ_ne_zero _)
    obtain ⟨y, r, rfl, h⟩ := pI_e h; obtain ⟨x, r, rfl, h⟩ := pI_e h
    exact lv_iadd hx hb hdg (hk _ _ _ _ h _ _ _ hP hD hS hl)
  case isub =>
    obtain rfl : len = 1 := hlen.resolve_right (Nat.succ_ne_zero _)
    obtain ⟨y, r, rfl, h⟩ := pI_e h; obtain ⟨x, r, rfl, h⟩ := pI_e h
    exact lv_isub hx hb hdg (hk _ _ _ _ h _ _ _ hP hD hS hl)
  case imul =>
    obtain rfl : len = 1 := hlen.resolve_right (Nat.succ_ne_zero _)
    obtain ⟨y, r, rfl, h⟩ := pI_e h; obtain ⟨x, r, rfl, h⟩ := pI_e h
    exact lv_imul hx hb hdg (hk _ _ _ _ h _ _ _ hP hD hS hl)
  case idiv =>
    obtain rfl : len = 1 := hlen.resolve_right (Nat.succ_ne_zero _)
    obtain ⟨y, r, rfl, h⟩ := pI_e h; obtain ⟨x, r, rfl, h0, h⟩ := pI_e h
    exact lv_idiv hx hb hdg h0 (hk _ _ _ _ h _ _ _ hP hD hS hl)
  case irem =>
    obtain rfl : len = 1 := hlen.resolve_right (Nat.succ_ne_zero _)
    obtain ⟨y, r, rfl, h⟩ := pI_e h; obtain ⟨x, r, rfl, h0, h⟩ := pI_e h
    exact lv_irem hx hb hdg h0 (hk _ _ _ _ h _ _ _ hP hD hS hl)
  case iand =>
    obtain rfl : len = 1 := hlen.resolve_right (Nat.succ_ne_zero _)
    obtain ⟨y, r, rfl, h⟩ := pI_e h; obtain ⟨x, r, rfl, h⟩ := pI_e h
    exact lv_iand hx hb hdg (hk _ _ _ _ h _ _ _ hP hD hS hl)
  case ior =>
    obtain rfl : len = 1 := hlen.resolve_right (Nat.succ_ne_zero _)
    obtain ⟨y, r, rfl, h⟩ := pI_e h; obtain ⟨x, r, rfl, h⟩ := pI_e h
    exact lv_ior hx hb hdg (hk _ _ _ _ h _ _ _ hP hD hS hl)
  case ixor =>
    obtain rfl : len = 1 := hlen.resolve_right (Nat.succ_ne_zero _)
    obtain ⟨y, r, rfl, h⟩ := pI_e h; obtain ⟨x, r, rfl, h⟩ := pI_e h
    exact lv_ixor hx hb hdg (hk _ _ _ _ h _ _ _ hP hD hS hl)
  case ishl =>
    obtain rfl : len = 1 := hlen.resolve_right (Nat.succ_ne_zero _)
    obtain ⟨y, r, rfl, h⟩ := pI_e h; obtain ⟨x, r, rfl, h⟩ := pI_e h
    exact lv_ishl hx hb hdg (hk _ _ _ _ h _ _ _ hP hD hS hl)
  case ishr =>
    obtain rfl : len = 1 := hlen.resolve_right (Nat.succ_ne_zero _)
    obtain ⟨y, r, rfl, h⟩ := pI_e h; obtain ⟨x, r, rfl, h⟩ := pI_e h
    exact lv_ishr hx hb hdg (hk _ _ _ _ h _ _ _ hP hD hS hl)
  case iushr =>
    obtain rfl : len = 1 := hlen.resolve_right (Nat.succ_ne_zero _)
    obtain ⟨y, r, rfl, h⟩ := pI_e h; obtain ⟨x, r, rfl, h⟩ := pI_e h
    exact lv_iushr hx hb hdg rfl (hk _ _ _ _ h _ _ _ hP hD hS hl)
  case ladd =>
    obtain rfl : len = 1 := hlen.resolve_right (Nat.succ_ne_zero _)
    obtain ⟨y, r, rfl, h⟩ := pL_e h; obtain ⟨x, r, rfl, h⟩ := pL_e h
    exact lv_ladd hx hb hdg (hk _ _ _ _ h _ _ _ hP hD hS hl)
  case lsub =>
    obtain rfl : len = 1 := hlen.resolve_right (Nat.succ_ne_zero _)
    obtain ⟨y, r, rfl, h⟩ := pL_e h; obtain ⟨x, r, rfl, h⟩ := pL_e h
    exact lv_lsub hx hb hdg (hk _ _ _ _ h _ _ _ hP hD hS hl)
  case lmul =>
    obtain rfl : len = 1 := hlen.resolve_right (Nat.succ_ne_zero _)
    obtain ⟨y, r, rfl, h⟩ := pL_e h; obtain ⟨x, r, rfl, h⟩ := pL_e h
    exact lv_lmul hx hb hdg (hk _ _ _ _ h _ _ _ hP hD hS hl)
  case ldiv =>
    obtain rfl : len = 1 := hlen.resolve_right (Nat.succ_ne_zero _)
    obtain ⟨y, r, rfl, h⟩ := pL_e h; obtain ⟨x, r, rfl, h0, h⟩ := pL_e h
    exact lv_ldiv hx hb hdg h0 (hk _ _ _ _ h _ _ _ hP hD hS hl)
  case lrem =>
    obtain rfl : len = 1 := hlen.resolve_right (Nat.succ_ne_zero _)
    obtain ⟨y, r, rfl, h⟩ := pL_e h; obtain ⟨x, r, rfl, h0, h⟩ := pL_e h
    exact lv_lrem hx hb hdg h0 (hk _ _ _ _ h _ _ _ hP hD hS hl)
  case lcmp =>
    obtain rfl : len = 1 := hlen.resolve_right (Nat.succ_ne_zero _)
    obtain ⟨y, r, rfl, h⟩ := pL_e h; obtain ⟨x, r, rfl, h⟩ := pL_e h
    exact W.lcmp hx hb hdg (hk _ _ _ _ h _ _ _ hP hD hS hl)
  case i2l =>
    obtain rfl : len = 1 := hlen.resolve_right (Nat.succ_ne_zero _)
    obtain ⟨x, r, rfl, h⟩ := pI_e h
    exact lv_i2l hx hb hdg rfl (hk _ _ _ _ h _ _ _ hP hD hS hl)
  case l2i =>
    obtain rfl : len = 1 := hlen.resolve_right (Nat.succ_ne_zero _)
    obtain ⟨x, r, rfl, h⟩ := pL_e h
    exact lv_l2i hx hb hdg rfl (hk _ _ _ _ h _ _ _ hP hD hS hl)
  case i2b =>
    obtain rfl : len = 1 := hlen.resolve_right (Nat.succ_ne_zero _)
    obtain ⟨x, r, rfl, h⟩ := pI_e h
    exact lv_i2b hx hb hdg rfl (hk _ _ _ _ h _ _ _ hP hD hS hl)
  case i2s =>
    obtain rfl : len = 1 := hlen.resolve_right (Nat.succ_ne_zero _)
    obtain ⟨x, r, rfl, h⟩ := pI_e h
    exact lv_i2s hx hb hdg rfl (hk _ _ _ _ h _ _ _ hP hD hS hl)
  case dup =>
    obtain rfl : len = 1 := hlen.resolve_right (Nat.succ_ne_zero _)
    obtain ⟨x, r, rfl, hx1, h⟩ := pA_e h
    exact lv_dup hx hb hdg (tv_cat σ x hx1) (hk _ _ _ _ h _ _ _ hP hD hS hl)
  case dup2 =>
    obtain rfl : len = 1 := hlen.resolve_right (Nat.succ_ne_zero _)
    obtain ⟨x, r, rfl, hx1, h⟩ := pA_e h; obtain ⟨y, r, rfl, hx2, h⟩ := pA_e h
    exact lv_dup2_11 hx hb hdg (tv_cat σ x hx1) (tv_cat σ y hx2) (hk _ _ _ _ h _ _ _ hP hD hS hl)
  case pop =>
    obtain rfl : len = 1 := hlen.resolve_right (Nat.succ_ne_zero _)
    obtain ⟨x, r, rfl, hx1, h⟩ := pA_e h
    exact lv_pop hx hb hdg (tv_cat σ x hx1) (hk _ _ _ _ h _ _ _ hP hD hS hl)
  case goto o =>
    obtain rfl : len = 3 := hlen.resolve_right (Nat.succ_ne_zero _)
    exact lv_goto hx hb hdg (tgt_of (of_decide_eq_true hps)) (hk _ _ _ _ h _ _ _ hP hD hS hl)
  case ifCond cd o =>
    obtain rfl : len = 3 := hlen.resolve_right (Nat.succ_ne_zero _)
    obtain ⟨x, r, rfl, h⟩ := pI_e h
    have ht := tgt_of (of_decide_eq_true hps)
    cases cd
    · exact lv_if_eq hx hb hdg ht (fun q => hk _ _ _ _ (h.1 q) _ _ _ hP hD hS hl) (fun q => hk _ _ _ _ (h.2 q) _ _ _ hP hD hS hl)
    · exact lv_if_ne hx hb hdg ht (fun q => hk _ _ _ _ (h.1 q) _ _ _ hP hD hS hl) (fun q => hk _ _ _ _ (h.2 q) _ _ _ hP hD hS hl)
    · exact lv_if_lt hx hb hdg ht (fun q => hk _ _ _ _ (h.1 q) _ _ _ hP hD hS hl) (fun q => hk _ _ _ _ (h.2 q) _ _ _ hP hD hS hl)
    · exact lv_if_ge hx hb hdg ht (fun q => hk _ _ _ _ (h.1 q) _ _ _ hP hD hS hl) (fun q => hk _ _ _ _ (h.2 q) _ _ _ hP hD hS hl)
    · exact lv_if_gt hx hb hdg ht (fun q => hk _ _ _ _ (h.1 q) _ _ _ hP hD hS hl) (fun q => hk _ _ _ _ (h.2 q) _ _ _ hP hD hS hl)
    · exact lv_if_le hx hb hdg ht (fun q => hk _ _ _ _ (h.1 q) _ _ _ hP hD hS hl) (fun q => hk _ _ _ _ (h.2 q) _ _ _ hP hD hS hl)
  case if_icmp cd o =>
    obtain rfl : len = 3 := hlen.resolve_right (Nat.succ_ne_zero _)
    obtain ⟨y, r, rfl, h⟩ := pI_e h; obtain ⟨x, r, rfl, h⟩ := pI_e h
    have ht := tgt_of (of_decide_eq_true hps)
    cases cd
    · exact lv_icmp_eq hx hb hdg ht (fun q => hk _ _ _ _ (h.1 q) _ _ _ hP hD hS hl) (fun q => hk _ _ _ _ (h.2 q) _ _ _ hP hD hS hl)
    · exact lv_icmp_ne hx hb hdg ht (fun q => hk _ _ _ _ (h.1 q) _ _ _ hP hD hS hl) (fun q => hk _ _ _ _ (h.2 q) _ _ _ hP hD hS hl)
    · exact lv_icmp_lt hx hb hdg ht (fun q => hk _ _ _ _ (h.1 q) _ _ _ hP hD hS hl) (fun q => hk _ _ _ _ (h.2 q) _ _ _ hP hD hS hl)
    · exact lv_icmp_ge hx hb hdg ht (fun q => hk _ _ _ _ (h.1 q) _ _ _ hP hD hS hl) (fun q => hk _ _ _ _ (h.2 q) _ _ _ hP hD hS hl)
    · exact lv_icmp_gt hx hb hdg ht (fun q => hk _ _ _ _ (h.1 q) _ _ _ hP hD hS hl) (fun q => hk _ _ _ _ (h.2 q) _ _ _ hP hD hS hl)
    · exact lv_icmp_le hx hb hdg ht (fun q => hk _ _ _ _ (h.1 q) _ _ _ hP hD hS hl) (fun q => hk _ _ _ _ (h.2 q) _ _ _ hP hD hS hl)
  case tableswitch d lo hi os =>
    obtain ⟨x, r, rfl, h1, hh⟩ := pI_e h; obtain ⟨h2, h3⟩ := ck_e hh; have h2 := Nat.eq_of_beq_eq_true h2
    obtain ⟨hp1, hp2⟩ := Bool.and_eq_true_iff.mp hps
    by_cases ho : x.toInt < lo ∨ hi < x.toInt
    · exact lv_tableOut hx hb hdg ho (tgt_of (of_decide_eq_true hp1)) (hk _ _ _ _ (h1 ho) _ _ _ hP hD hS hl)
    · have g1 : ¬ x.toInt < lo := fun q => ho (Or.inl q)
      have g2 : ¬ hi < x.toInt := fun q => ho (Or.inr q)
      have g3 : (x.toInt - lo).toNat < os.size := by rw [h2]; omega
      obtain ⟨o, hoo⟩ : ∃ o, os[(x.toInt - lo).toNat]? = some o := ⟨_, Array.getElem?_eq_getElem g3⟩
      have hoo' : os.toList[(x.toInt - lo).toNat]? = some o := by rw [Array.getElem?_toList]; exact hoo
      have hpos : 0 ≤ (pc : Int) + o := of_decide_eq_true (List.all_eq_true.mp hp2 o (List.mem_of_getElem? hoo'))
      exact lv_tableIn hx hb hdg g1 g2 hoo (tgt_of hpos) (hk _ _ _ _ (tsw_use h3 _ o hoo' (by omega)) _ _ _ hP hD hS hl)
  case lookupswitch d ps =>
    obtain ⟨x, r, rfl, hh⟩ := pI_e h; obtain ⟨h1, h2⟩ := ck_e hh
    obtain ⟨hp1, hp2⟩ := Bool.and_eq_true_iff.mp hps
    have hpos : 0 ≤ (pc : Int) + Op.lookupswitch.offset ps.toList d x.toInt := by
      rcases lso_mem ps.toList d x.toInt with q | ⟨q, q1, q2⟩
      · rw [q]; exact of_decide_eq_true hp1
      · rw [q2]; exact of_decide_eq_true (List.all_eq_true.mp hp2 q q1)
    exact lv_lookup hx hb hdg h1 rfl (tgt_of hpos) (hk _ _ _ _ (lsw_use h2) _ _ _ hP hD hS hl)
  case getfield n =>
    obtain rfl : len = 3 := hlen.resolve_right (Nat.succ_ne_zero _)
    obtain ⟨a, r, rfl, h⟩ := pR_e h
    obtain ⟨ci, kf, ty, hq, q1⟩ := oF_e h
    obtain ⟨cj, fs, hw, q2⟩ := cO_e q1
    obtain ⟨e1, q3⟩ := cq_e q2
    subst e1
    obtain ⟨v, hv, h⟩ := oO_e q3
    obtain ⟨C, T, N, t0, g1, g2, g3, g4, g5, -⟩ := hf _ _ _ _ hq
    have he := tw_nth (σ := σ) (cA := cA) (k := 0) hw
    rw [Nat.zero_add] at he
    rw [nth_eq] at hv
    exact va_get (a := σ a) (ref := C) hx hb hts g3 hown hK hP a he g1 kf g2 (hts _ g5) (fun x q => by rw [g4] at q; exact q) (v := tv σ v) (by show (fs.map (tv σ))[kf]? = _; rw [List.getElem?_map, hv]; rfl) hdg (hk _ _ _ _ h _ _ _ hP hD hS hl)
  case putfield n =>
    obtain rfl : len = 3 := hlen.resolve_right (Nat.succ_ne_zero _)
    obtain ⟨v, r, rfl, hv1, h⟩ := pA_e h
    obtain ⟨a, r, rfl, h⟩ := pR_e h
    obtain ⟨ci, kf, ty, hq, q0⟩ := oF_e h
    obtain ⟨hok, q1⟩ := okv_e q0
    obtain ⟨cj, fs, hw, q2⟩ := cO_e q1
    obtain ⟨e1, q3⟩ := cq_e q2
    subst e1
    obtain ⟨u, hv, h⟩ := oO_e q3
    obtain ⟨C, T, N, t0, g1, g2, g3, g4, g5, g6, g7, g8, g9, g10⟩ := hf _ _ _ _ hq
    have he := tw_nth (σ := σ) (cA := cA) (k := 0) hw
    rw [Nat.zero_add] at he
    rw [nth_eq] at hv
    have hlt : kf < (fs.map (tv σ)).length := by
      rw [List.length_map]
      exact (List.getElem?_eq_some_iff.mp hv).1
    have hgo : (T kf).2.2.2 = false → narrow (t0 kf) (tv σ v) = tv σ v → fits (t0 kf) (tv σ v) = true → W p l e R s m args below meth c H locs cl sl Q (F0 m pc ls (tv σ v :: .ref (σ a) :: r.map (tv σ))) := by
      intro f1 f2 f3
      refine va_put (a := σ a) (ref := C) hx hb hts g3 t0 g6 g7 hown hK hP hD hS a he g1 kf g2 (hts _ g5) (fun x q => by rw [g4] at q; exact q) f1 (g6 kf g2) f2 f3 hlt hdg (fun H1 locs1 hP1 hD1 hS1 => ?_)
      have e1 : (tw σ cA 0 w).set a (σ a, .inr (cj, (fs.map (tv σ)).set kf (tv σ v))) = tw σ cA 0 (snth w a (.inl (cj, snth fs kf v))) := by
        rw [tw_snth, Nat.zero_add, snth_eq]
        show _ = (tw σ cA 0 w).set a (σ a, .inr (cj, (fs.set kf v).map (tv σ)))
        rw [List.map_set]
      rw [e1] at hP1 hD1
      exact hk _ _ _ _ h _ _ _ hP1 hD1 hS1 hl
    rcases v with x | x | x
    · match ty, hok with
      | 0, _ => exact hgo (g8 rfl).1 (by rw [(g8 rfl).2]; rfl) (by rw [(g8 rfl).2]; rfl)
      | 1, hok => exact hgo (g9 rfl).1 (by rw [(g9 rfl).2]; exact (nar_z hok).1) (by rw [(g9 rfl).2]; exact (nar_z hok).2.1)
      | 2, hok => exact hok.elim
      | n + 3, hok => exact hok.elim
    · exact absurd rfl (hv1 x)
    · match ty, x, hok with
      | 2, some y, _ =>
        obtain ⟨f1, t, f2⟩ := g10 rfl
        exact hgo f1 (by rw [f2]; rfl) (by rw [f2]; rfl)
  case iaload =>
    obtain rfl : len = 1 := hlen.resolve_right (Nat.succ_ne_zero _)
    obtain ⟨i, r, rfl, h⟩ := pI_e h; obtain ⟨a, r, rfl, h⟩ := pR_e h
    obtain ⟨n, f, hw, hin, h⟩ := cI_e h
    have he := tw_nth (σ := σ) (cA := cA) (k := 0) hw
    rw [Nat.zero_add] at he
    exact va_iald (a := σ a) hx hb hK hP a 0 he rfl hin hdg (hk _ _ _ _ h _ _ _ hP hD hS hl)
  case laload =>
    obtain rfl : len = 1 := hlen.resolve_right (Nat.succ_ne_zero _)
    obtain ⟨i, r, rfl, h⟩ := pI_e h; obtain ⟨a, r, rfl, h⟩ := pR_e h
    obtain ⟨n, f, hw, hin, h⟩ := cL_e h
    have he := tw_nth (σ := σ) (cA := cA) (k := 0) hw
    rw [Nat.zero_add] at he
    exact va_lald (a := σ a) hx hb hK hP a 1 he rfl hin hdg (hk _ _ _ _ h _ _ _ hP hD hS hl)
  case baload =>
    obtain rfl : len = 1 := hlen.resolve_right (Nat.succ_ne_zero _)
    obtain ⟨i, r, rfl, h⟩ := pI_e h; obtain ⟨a, r, rfl, h⟩ := pR_e h
    obtain ⟨n, f, hw, hin, h⟩ := cI_e h
    have he := tw_nth (σ := σ) (cA := cA) (k := 0) hw
    rw [Nat.zero_add] at he
    exact va_zald (a := σ a) hx hb hK hP a 2 he rfl hin hdg (hk _ _ _ _ h _ _ _ hP hD hS hl)
  case aaload =>
    obtain rfl : len = 1 := hlen.resolve_right (Nat.succ_ne_zero _)
    obtain ⟨i, r, rfl, h⟩ := pI_e h; obtain ⟨a, r, rfl, h⟩ := pR_e h
    obtain ⟨n, f, hw, hin, h⟩ := cR_e h
    obtain ⟨v, hv, h⟩ := oO_e h
    have he := tw_nth (σ := σ) (cA := cA) (k := 0) hw
    rw [Nat.zero_add] at he
    have h2 := hk _ _ _ _ h _ _ _ hP hD hS hl
    exact va_aldq (a := σ a) hx hb hK hP a 3 he rfl hin hdg (by rw [hv]; exact h2)
  case arraylength =>
    obtain rfl : len = 1 := hlen.resolve_right (Nat.succ_ne_zero _)
    obtain ⟨a, r, rfl, h⟩ := pR_e h
    obtain ⟨t, n, g, hw, ht, h⟩ := cN_e h
    have he := tw_nth (σ := σ) (cA := cA) (k := 0) hw
    rw [Nat.zero_add] at he
    have h2 := hk _ _ _ _ h _ _ _ hP hD hS hl
    obtain ⟨ty, hty⟩ : ∃ ty, (tysL cA)[t]? = some (cA t, ty) := by
      rcases (show t = 0 ∨ t = 1 ∨ t = 2 ∨ t = 3 by omega) with rfl | rfl | rfl | rfl <;> exact ⟨_, rfl⟩
    rcases g with g | g | g
    · exact va_alen (a := σ a) hx hb hK hP a t he hty rfl hdg h2
    · exact va_alen (a := σ a) hx hb hK hP a t he hty rfl hdg h2
    · exact va_alen (a := σ a) hx hb hK hP a t he hty rfl hdg h2
  case iastore =>
    obtain rfl : len = 1 := hlen.resolve_right (Nat.succ_ne_zero _)
    obtain ⟨x, r, rfl, h⟩ := pI_e h; obtain ⟨i, r, rfl, h⟩ := pI_e h; obtain ⟨a, r, rfl, h⟩ := pR_e h
    obtain ⟨n, f, hw, hin, h⟩ := cI_e h
    have he := tw_nth (σ := σ) (cA := cA) (k := 0) hw
    rw [Nat.zero_add] at he
    refine va_iast (a := σ a) hx hb hK hP hD hS a 0 he rfl hin hdg (fun H1 locs1 hP1 hD1 hS1 => ?_)
    have e1 := tw_snth (σ := σ) (cA := cA) w 0 a (.inr (0, n, .inl (upd f i.toNatClampNeg x)))
    rw [Nat.zero_add] at e1
    exact hk _ _ _ _ h _ _ _ (by rw [e1]; exact hP1) (by rw [e1]; exact hD1) hS1 hl
  case lastore =>
    obtain rfl : len = 1 := hlen.resolve_right (Nat.succ_ne_zero _)
    obtain ⟨x, r, rfl, h⟩ := pL_e h; obtain ⟨i, r, rfl, h⟩ := pI_e h; obtain ⟨a, r, rfl, h⟩ := pR_e h
    obtain ⟨n, f, hw, hin, h⟩ := cL_e h
    have he := tw_nth (σ := σ) (cA := cA) (k := 0) hw
    rw [Nat.zero_add] at he
    refine va_last (a := σ a) hx hb hK hP hD hS a 1 he rfl hin hdg (fun H1 locs1 hP1 hD1 hS1 => ?_)
    have e1 := tw_snth (σ := σ) (cA := cA) w 0 a (.inr (1, n, .inr (.inl (vp_updL f i.toNatClampNeg x))))
    rw [Nat.zero_add] at e1
    exact hk _ _ _ _ h _ _ _ (by rw [e1]; exact hP1) (by rw [e1]; exact hD1) hS1 hl
  case bastore =>
    obtain rfl : len = 1 := hlen.resolve_right (Nat.succ_ne_zero _)
    obtain ⟨x, r, rfl, h⟩ := pI_e h; obtain ⟨i, r, rfl, h⟩ := pI_e h; obtain ⟨a, r, rfl, h⟩ := pR_e h
    obtain ⟨n, f, hw, hin, hz, h⟩ := cI_e h
    have he := tw_nth (σ := σ) (cA := cA) (k := 0) hw
    rw [Nat.zero_add] at he
    refine va_zast (a := σ a) hx hb hK hP hD hS a 2 he rfl hin hdg (fun H1 locs1 hP1 hD1 hS1 => ?_)
    have e1 := tw_snth (σ := σ) (cA := cA) w 0 a (.inr (2, n, .inl (upd f i.toNatClampNeg x)))
    rw [Nat.zero_add] at e1
    rw [(nar_z hz).2.2] at hP1 hD1
    exact hk _ _ _ _ h _ _ _ (by rw [e1]; exact hP1) (by rw [e1]; exact hD1) hS1 hl
  case invokevirtual n => exact hcall _ _ _ _ h lv (fun st' w' q => hk _ _ _ _ q) H locs ls hP hD hS hl
  case invokestatic n => exact hcall _ _ _ _ h lv (fun st' w' q => hk _ _ _ _ q) H locs ls hP hD hS hl
  case invokespecial n => exact hcall _ _ _ _ h lv (fun st' w' q => hk _ _ _ _ q) H locs ls hP hD hS hl
  case ireturn =>
    obtain ⟨x, rfl, hh⟩ := rI_e h
    exact (rz_e hh).2.elim
  case lreturn =>
    obtain ⟨x, rfl, hh⟩ := rL_e h
    exact (ck_e hh).2.elim
  case areturn =>
    obtain ⟨x, rfl, hh⟩ := rR_e h
    exact (ck_e hh).2.elim
  case return_ =>
    obtain ⟨rfl, hh⟩ := rV_e h
    exact (ck_e hh).2.elim
  all_goals exact h.elim
end SNY
