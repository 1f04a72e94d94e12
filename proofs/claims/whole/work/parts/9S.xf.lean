/-! ===== what the law's start gives for the throws ===== -/
def nIAE : String := "java/lang/IllegalArgumentException"
def nISE : String := "java/lang/IllegalStateException"
def nUOE : String := "java/lang/UnsupportedOperationException"
def XT (A : Nat → Prop) (U : State) (H : Heap) : Prop := vx_Zq Bundle.tN "UNASSIGNED_STACK" Bundle.steD A U H ∧ vx_Zq Bundle.tN "SUPPRESSED_SENTINEL" Bundle.listD A U H
def XN (U : State) : Prop := (va_Nc nISE nIAE U ∧ va_Nc nUOE nIAE U) ∧ (va_Nc nIAE nUOE U ∧ va_Nc nISE nUOE U) ∧ va_Nc nIAE nISE U ∧ va_Nc nUOE nISE U
def XSl : List (String × Nat × String) := [(RX1, 27, "a bride's failure"), (RX1, 34, "a traveller's failure"), (RX1, 39, "a guest's failure"), (RX5, 276, "no such shelf"), (RX5, 286, "no row is held"), (RX5, 289, "no such place")]
def XS (U : State) : Prop := ∀ q ∈ XSl, ∃ a, vk_R q.1 q.2.1 q.2.2 a U
def XBl : List Cond := [.declares (Bundle.initS "java/lang/RuntimeException"), .declares (Bundle.initS "java/lang/Exception"), .declares (Bundle.initS Bundle.tN), .castable nIAE nIAE, .castable nISE nISE, .castable nUOE nUOE]
def XB (U : State) : Prop := ∀ w ∈ XBl, va_Nw w U
theorem XB_use {U : State} {args : Array Value} (h : XB U) : ∀ w ∈ XBl, w.before args U = true := fun w hw => va_Nw.use (List.all_eq_true.mp (show (XBl.all fun w => w.onTables) = true by decide +kernel) w hw) (h w hw)
theorem str_R {own tx : String} {k : Nat} {args : Array Value} {s : State} (h : (Cond.stringRef own k tx).before args s = true) : ∃ a, vk_R own k tx a s := by
  cases hc : s.vm.findClass own with
  | none => simp [Cond.before, Cond.holds, Cond.value, hc] at h
  | some c =>
    obtain ⟨_, _, _, a, _, _, _, _, _, hev⟩ := Cond.stringRef_spec hc h
    exact ⟨a, vk_R.of h hev⟩
theorem whole_X {s : State} {args : Array Value} (hts : ∀ w ∈ lw_tbl, w.before args s = true) (hgv : (Jvm.Cond.and given_1 narrow_1).before args s = true) : XT (fun q => s.heap.size ≤ q) s s.heap ∧ XN s ∧ XS s ∧ XB s := by
  have hs := flat_of_before _ hgv
  refine ⟨⟨?_, ?_⟩, ⟨⟨?_, ?_⟩, ⟨?_, ?_⟩, ?_, ?_⟩, ?_, ?_⟩
  · exact vx_Zqof (hts (Cond.laysStatic Bundle.tN "UNASSIGNED_STACK" Bundle.steD) (List.mem_append_right _ (by decide +kernel))) (hts (Cond.initialized Bundle.tN) (List.mem_append_right _ (by decide +kernel))) (hs (Cond.isRef (.static Bundle.tN "UNASSIGNED_STACK" Bundle.steD)) (by decide +kernel)) (fun a h => Nat.not_le.mpr h)
  · exact vx_Zqof (hts (Cond.laysStatic Bundle.tN "SUPPRESSED_SENTINEL" Bundle.listD) (List.mem_append_right _ (by decide +kernel))) (hts (Cond.initialized Bundle.tN) (List.mem_append_right _ (by decide +kernel))) (hs (Cond.isRef (.static Bundle.tN "SUPPRESSED_SENTINEL" Bundle.listD)) (by decide +kernel)) (fun a h => Nat.not_le.mpr h)
  · exact va_Nc.of (hs (Cond.not (.castable nISE nIAE)) (by decide +kernel))
  · exact va_Nc.of (hs (Cond.not (.castable nUOE nIAE)) (by decide +kernel))
  · exact va_Nc.of (hs (Cond.not (.castable nIAE nUOE)) (by decide +kernel))
  · exact va_Nc.of (hs (Cond.not (.castable nISE nUOE)) (by decide +kernel))
  · exact va_Nc.of (hs (Cond.not (.castable nIAE nISE)) (by decide +kernel))
  · exact va_Nc.of (hs (Cond.not (.castable nUOE nISE)) (by decide +kernel))
  · intro q hq
    have h : ∀ q ∈ XSl, Cond.stringRef q.1 q.2.1 q.2.2 ∈ tables_1 := fun q hq => of_decide_eq_true (List.all_eq_true.mp (show (XSl.all fun q => decide (Cond.stringRef q.1 q.2.1 q.2.2 ∈ tables_1)) = true by decide +kernel) q hq)
    exact str_R (hts _ (List.mem_append_right _ (h q hq)))
  · intro w hw
    exact va_Nw.of (List.all_eq_true.mp (show (XBl.all fun w => w.onTables) = true by decide +kernel) w hw) (hts _ (List.mem_append_right _ (of_decide_eq_true (List.all_eq_true.mp (show (XBl.all fun w => decide (w ∈ tables_1)) = true by decide +kernel) w hw))))
