/-! ===== the law's walk, but for the two cases that throw ===== -/
theorem LI_0 : LI inn0 inn0 inn0 0 us0 inn0 q00 t00 := by
  obtain ⟨N, hV, h2, h3⟩ := IQ_0
  refine ⟨⟨N, hV, h2, h3⟩, hV.1, hV.1, ⟨iSn inn0, iLn inn0, rfl⟩, ⟨rfl, rfl⟩, fun d hd => ⟨⟨rfl, fun z => absurd (show (0 : Int32) = 1 from z) (by decide), fun z => absurd (show (0 : Int32) = 2 from z) (by decide)⟩, ⟨0, by decide, rfl⟩, fun z => absurd (show (0 : Int32) = 1 from z) (by decide), fun z => absurd (show (0 : Int32) = 2 from z) (by decide)⟩, rfl, fun z => absurd rfl z⟩
theorem whole_go {p : Program} {e : Env} {s : State} {m : MethodId} {below : List Frame} {meth : Method} {c : Code} (l : Launch) {b L : Nat} {xs : Nat → Int32} (hL : L ≤ 3072) (C0 : lw_At p s m meth c b L xs) (hx : ∀ (D : va_G) (cA : Nat → ClassId), LX p s m #[Value.ref b] meth c D (fun _ => b) cA (fun q => s.heap.size ≤ q) L xs → ZC p l e s m #[Value.ref b] below meth c D (fun _ => b) cA (fun q => s.heap.size ≤ q) (lw_Z below #[Value.ref b] s) L 1408 ∧ ZC p l e s m #[Value.ref b] below meth c D (fun _ => b) cA (fun q => s.heap.size ≤ q) (lw_Z below #[Value.ref b] s) L 1573) : W p l e room_1 s m #[Value.ref b] below meth c s.heap [] 0 0 (lw_Z below #[Value.ref b] s) (entryFrame m ([Value.ref b] : List Value).toArray 8) := by
  obtain ⟨hx0, hb, hr, hml, hown, hts, hX, hbl, hlk, hgv⟩ := C0
  have hu : ∀ w ∈ uW, w.before #[Value.ref b] s = true := fun w hw => hts w (List.mem_filter.mp hw).1
  obtain ⟨hnw, hex⟩ := whole_NW hts
  obtain ⟨D, cA, hK⟩ := whole_K hu hex.2
  have X : LX p s m #[Value.ref b] meth c D (fun _ => b) cA (fun q => s.heap.size ≤ q) L xs := ⟨⟨hx0, hb, hml, hown, hu, hK, hlk, hr⟩, hnw, hex, fun q h => h, ⟨hX, hbl, fun z => absurd hbl (Nat.not_lt.mpr z)⟩, hL⟩
  obtain ⟨h34, h37⟩ := hx D cA X
  have hall := zall X h34 h37
  have hend : ∀ lv w cl sl, cl ≤ 601024 → sl ≤ 7293034 → ZY p l e room_1 s m #[Value.ref b] below meth c D (fun _ => b) 0 cA (fun q => s.heap.size ≤ q) s.heap 8 (lw_Z below #[Value.ref b] s) 1604 lv [] w cl sl := by
    intro lv w cl sl h1 h2 τ hτ H locs ls hP hD hS hl
    refine lv_iconst hx0 hb (n := 1) (by decide +kernel) rfl ?_
    exact va_forget hS.2.2 (W.widen h1 h2 (lw_ret hx0 hb hr hlk (by decide +kernel)))
  have hz := zst1 X (zloop X hall hend 512 0 66 3480 (by omega) (by omega) (by omega) (by omega) inn0 inn0 inn0 0 us0 z0 z0 z0 inn0 q00 t00 zL LI_0)
  have hl := lv_entry [Value.ref b] (n := 8) (by show 1 ≤ 8; omega)
  rw [lg_entry_eq]
  generalize (lg_sl [Value.ref b] ++ List.replicate (8 - (lg_sl [Value.ref b]).length) Slot.unset).toArray = ls at hl ⊢
  exact hz (fun _ => b) (fun _ _ => rfl) s.heap [] ls (fun k q h => (by cases h)) ⟨fun i j p q h => (by cases h), fun k q h => (by cases h)⟩ ⟨Nat.le_refl _, fun _ _ _ => rfl, fun _ h => nomatch h⟩ hl
