/-! ===== what fails, and how ===== -/
def fxE (k : Int32) : String := if k = 2 ∨ k = 5 then nIAE else if k = 7 then nUOE else nISE
def fxN (k f : Int32) : Prop := f = 0 ∨ k = 1 ∨ k = 4 ∨ k = 6
def F_X1_fail : Fx := fun as w K KX => ∃ k f : Int32, as = [sI k, sI f] ∧ (fxN k f → K none w) ∧ (¬ fxN k f → KX (fxE k) w)
theorem zthrS {p : Program} {l : Launch} {e : Env} {s : State} {m : MethodId} {args : Array Value} {below : List Frame} {meth : Method} {c : Code} {D : va_G} {σ : Nat → Nat} {cA : Nat → ClassId} {A : Nat → Prop} {nL d pc ik is ic : Nat} {cc : ByteArray} {rt : Option FieldType} {own cls text : String} {K : Option sv → List sc → Prop} {KX : String → List sc → Prop} {lv : List (Option sv)} {w : List sc} (hd6 : 6 ≤ d) (hl : l.stackTraces = false) (X : Cx p s m args meth c D cA cc nL rt own) (hXP : XP A s) (hemp : ∀ x ∈ c.exceptionTable.toList, False) (hA : ∀ q, s.heap.size ≤ q → A q) (hstr : ∃ a, vk_R own is text a s) (hfit : Bundle.fit cls = true) (hcl : Cond.classLink own ik cls ∈ uW) (hin : Cond.initialized cls ∈ uW)
    (hw : ((vx_atS own ic cls nmX).filter goodWord).all (fun w => decide (w ∈ lw_tbl)) = true ∧ ((vx_atS own ic cls nmX).filter (fun w => !goodWord w)).all (fun w => decide (w ∈ XBl)) = true ∧ (Cond.classLink own ik cls :: Cond.initialized cls :: vx_atS own ic cls nmX).all vx_ot = true)
    (d0 : decode cc pc = .ok (.new ik, 3)) (d3 : decode cc (pc + 3) = .ok (.dup, 1)) (d4 : decode cc (pc + 4) = .ok (.ldc is, 2)) (d6 : decode cc (pc + 6) = .ok (.invokespecial ic, 3)) (d9 : decode cc (pc + 9) = .ok (.athrow, 1)) (hKX : KX cls w)
    : Zy p l e (rmN d 1 6) s m args below meth c D σ cA A s.heap nL 0 0 (vx_MQ below (Qg D σ cA A K) (XG D σ cA A KX) args s 1 6 A) pc lv [] w := by
  obtain ⟨hx, hb, hml, hown, hts, hK, hlocks, hr⟩ := X
  obtain ⟨a, hstr⟩ := hstr
  intro H locs ls hP hD hS hlv
  refine vx_throwS (A := A) hx hb hl hown hfit (by decide +kernel) (hts _ hcl) (hts _ hin) hstr (xw_of hts hXP.2.2.1 hw.1 hw.2.1) (ot_all hw.2.2) hXP.1.1 hXP.1.2 hS (by rw [hml]; exact hlv.1) d0 d3 d4 d6 d9 (fun x h => (hemp x h).elim) (by show 2 + 3 < d; omega) (by show 0 + (13 * 3 + 43) ≤ 100 * d; omega) (Nat.le_refl _) (Nat.le_refl _) hlocks (fun t hv h1 h2 => ?_) hS.2.2 (Nat.le_refl _) (Nat.le_refl _)
  exact ⟨w, hKX, fun k q h => (hP k q h).kept (h2 _ (hP k q h).lt), hD, va_S.F (locs := locs) ⟨Nat.le_trans hS.1 h1, fun q g1 g2 => by rw [h2 q (Nat.lt_of_lt_of_le g1 hS.1)]; exact hS.2.1 q g1 g2, hS.2.2⟩ rfl⟩
