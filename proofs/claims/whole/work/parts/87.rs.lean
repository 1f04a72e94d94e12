/-! ===== what the reference has read ===== -/
section RDS
variable {c : PA} {n p : Nat}
theorem ten0 (x : Int32) : 10 * 0 + x - 48 = x - 48 := by rw [show (10 * 0 : Int32) = 0 by decide, Int32.zero_add]
theorem r1y (h : DG c n p) : rdF c n 1 (p, false, 0) = (p + 1, false, c p - 48) := by
  show rd1 c n (p, false, 0) = _
  rw [rd_y h, ten0]
theorem r1n (h : ¬ DG c n p) : rdF c n 1 (p, false, 0) = (p, true, 0) := rd_n h
theorem r1b : rdF c n 1 (p, true, 0) = (p, true, 0) := rd_b
theorem r2b : rdF c n 2 (p, true, 0) = (p, true, 0) := by
  show rd1 c n (rdF c n 1 (p, true, 0)) = _
  rw [r1b, rd_b]
theorem r2yy (h : DG c n p) (h2 : DG c n (p + 1)) : rdF c n 2 (p, false, 0) = (p + 2, false, 10 * (c p - 48) + (c (p + 1) - 48)) := by
  show rd1 c n (rdF c n 1 (p, false, 0)) = _
  rw [r1y h, rd_y h2, Int32.sub_eq_add_neg (10 * (c p - 48) + c (p + 1)), Int32.add_assoc, ← Int32.sub_eq_add_neg]
theorem r2yn (h : DG c n p) (h2 : ¬ DG c n (p + 1)) : rdF c n 2 (p, false, 0) = (p + 1, true, 0) := by
  show rd1 c n (rdF c n 1 (p, false, 0)) = _
  rw [r1y h, rd_n h2]
theorem r2n (h : ¬ DG c n p) : rdF c n 2 (p, false, 0) = (p, true, 0) := by
  show rd1 c n (rdF c n 1 (p, false, 0)) = _
  rw [r1n h, rd_b]
end RDS
/-- what is told of the statement at p, from the place i on -/
def TO (c : PA) (p i : Nat) (to to' : PA) : Prop := (to' i = if c p = 100 then 10 * (c (p + 1) - 48) + (c (p + 2) - 48) else c (p + 1) - 48) ∧ (¬ c p = 100 → to' (i + 1) = if c p = 108 ∨ c p = 104 then 10 * (c (p + 2) - 48) + (c (p + 3) - 48) else c (p + 2) - 48) ∧ (c p = 103 → to' (i + 2) = c (p + 3) - 48) ∧ ∀ j, j < i → to' j = to j
section RSP
variable {c : PA} {n p k : Nat} {to : PA}
theorem hr_in (h : p < n) : hrF c n p = c p := by unfold hrF; rw [if_pos h]
theorem dg_of_lt (h : ¬ dgN (hrF c n p) = 0) : p < n ∧ ¬ dgN (c p) = 0 := by
  by_cases hp : p < n
  · rw [hr_in hp] at h
    exact ⟨hp, h⟩
  · unfold hrF at h
    rw [if_neg hp] at h
    exact absurd (by decide) h
theorem rs_end {L : Nat} {to2 : PA} (hL : dgN (c p) = L) (hg : p < n ∧ ¬ dgN (c p) = 0) (h2 : rnF c n (c p) (3 * k) (p + 1) false to = (p + 1 + L, false, to2)) (h1 : DG c n (p + 1)) (h12 : DG c n (p + 2)) (h3 : L = 3 → DG c n (p + 3)) (ht : TO c p (3 * k) to to2) : (gdS c n p → ∃ to', rsF c n p k to = (p + dgN (c p) + 2, false, to') ∧ TO c p (3 * k) to to') ∧ (¬ gdS c n p → ∃ to', rsF c n p k to = (bdP c n p, true, to')) := by
  have e := hr_in (c := c) hg.1
  refine ⟨fun g => ⟨to2, ?_, ht⟩, fun g => ⟨to2, ?_⟩⟩
  · have h59 := g.2.2.2.2
    rw [hL] at h59 ⊢
    rw [rs_g (p2 := p + 1 + L) (to2 := to2) (by rw [e]; exact hg.2) (by rw [e]; exact h2) (by rw [hr_in (by omega), show p + 1 + L = p + L + 1 by omega]; exact h59.2)]
    congr 1
    omega
  · have hb : bdP c n p = p + 1 + L := by
      unfold bdP
      rw [if_neg (fun z => z hg), if_neg (fun z => z h1), if_neg (fun z => z h12), if_neg (fun z => z.2 (h3 (by rw [← hL]; exact z.1))), hL]
      omega
    rw [hb]
    refine rs_b (b2 := false) (by rw [e]; exact hg.2) (by rw [e]; exact h2) (Or.inr (fun z => g ⟨hg, h1, h12, fun y => h3 (by rw [← hL]; exact y), ?_⟩))
    rw [hL]
    unfold hrF at z
    by_cases hp : p + 1 + L < n
    · rw [if_pos hp] at z
      rw [show p + L + 1 = p + 1 + L by omega]
      exact ⟨hp, z⟩
    · rw [if_neg hp] at z
      exact absurd z (by decide)
theorem rs_bad {p2 : Nat} {to2 : PA} (hg : p < n ∧ ¬ dgN (c p) = 0) (h2 : rnF c n (c p) (3 * k) (p + 1) false to = (p2, true, to2)) (hb : bdP c n p = p2) (hn : ¬ gdS c n p) : (gdS c n p → ∃ to', rsF c n p k to = (p + dgN (c p) + 2, false, to') ∧ TO c p (3 * k) to to') ∧ (¬ gdS c n p → ∃ to', rsF c n p k to = (bdP c n p, true, to')) := by
  have e := hr_in (c := c) hg.1
  refine ⟨fun g => absurd g hn, fun _ => ⟨to2, ?_⟩⟩
  rw [hb]
  exact rs_b (b2 := true) (by rw [e]; exact hg.2) (by rw [e]; exact h2) (Or.inl rfl)
theorem bd_1 (hg : p < n ∧ ¬ dgN (c p) = 0) (h1 : ¬ DG c n (p + 1)) : bdP c n p = p + 1 ∧ ¬ gdS c n p := ⟨by unfold bdP; rw [if_neg (fun z => z hg), if_pos h1], fun z => h1 z.2.1⟩
theorem bd_2 (hg : p < n ∧ ¬ dgN (c p) = 0) (h1 : DG c n (p + 1)) (h2 : ¬ DG c n (p + 2)) : bdP c n p = p + 2 ∧ ¬ gdS c n p := ⟨by unfold bdP; rw [if_neg (fun z => z hg), if_neg (fun z => z h1), if_pos h2], fun z => h2 z.2.2.1⟩
theorem bd_3 (hg : p < n ∧ ¬ dgN (c p) = 0) (h1 : DG c n (p + 1)) (h2 : DG c n (p + 2)) (hL : dgN (c p) = 3) (h3 : ¬ DG c n (p + 3)) : bdP c n p = p + 3 ∧ ¬ gdS c n p := ⟨by unfold bdP; rw [if_neg (fun z => z hg), if_neg (fun z => z h1), if_neg (fun z => z h2), if_pos ⟨hL, h3⟩], fun z => h3 (z.2.2.2.1 hL)⟩
theorem TO_lo {i j : Nat} {a b d : Int32} (hj : j < i) : upd (upd (upd to i a) (i + 1) b) (i + 2) d j = to j := by rw [pk_un (by omega), pk_un (by omega), pk_un (by omega)]
theorem rs_spec : (gdS c n p → ∃ to', rsF c n p k to = (p + dgN (c p) + 2, false, to') ∧ TO c p (3 * k) to to') ∧ (¬ gdS c n p → ∃ to', rsF c n p k to = (bdP c n p, true, to')) := by
  by_cases hL : dgN (hrF c n p) = 0
  · have hn : ¬ (p < n ∧ ¬ dgN (c p) = 0) := fun z => by rw [hr_in z.1] at hL; exact z.2 hL
    exact ⟨fun g => absurd g.1 hn, fun _ => ⟨to, by rw [rs_0 hL, bd_0 hn]⟩⟩
  have hg := dg_of_lt hL
  by_cases h1 : DG c n (p + 1)
  · by_cases h2 : DG c n (p + 2)
    · rcases dg_let hg.2 with z | z
      · have e3 : dgN (c p) = 3 := by rcases z with z | z | z <;> (rw [z]; decide)
        have hx0 : ¬ c p = 100 := by rcases z with z | z | z <;> (rw [z]; decide)
        by_cases h3 : DG c n (p + 3)
        · by_cases hx3 : c p = 103
          · refine rs_end e3 hg (rn_g hx3 (r1y h1) (r1y h2) (r1y h3)) h1 h2 (fun _ => h3) ⟨?_, fun _ => ?_, fun _ => pk_us, fun j hj => TO_lo hj⟩
            · rw [if_neg hx0, pk_un (by omega), pk_un (by omega), pk_us]
            · rw [if_neg (by rw [hx3]; decide), pk_un (by omega), pk_us]
          · have hx := z.resolve_left hx3
            refine rs_end e3 hg (rn_2 hx0 hx3 hx (r1y h1) (r2yy h2 h3)) h1 h2 (fun _ => h3) ⟨?_, fun _ => ?_, fun y => absurd y hx3, fun j hj => by rw [pk_un (by omega), pk_un (by omega)]⟩
            · rw [if_neg hx0, pk_un (by omega), pk_us]
            · rw [if_pos hx, pk_us]
        · obtain ⟨b1, b2⟩ := bd_3 hg h1 h2 e3 h3
          by_cases hx3 : c p = 103
          · exact rs_bad hg (rn_g hx3 (r1y h1) (r1y h2) (r1n h3)) b1 b2
          · exact rs_bad hg (rn_2 hx0 hx3 (z.resolve_left hx3) (r1y h1) (r2yn h2 h3)) b1 b2
      · have e2 : dgN (c p) = 2 := by rcases z with z | z | z | z <;> (rw [z]; decide)
        have hx3 : ¬ c p = 103 := by rcases z with z | z | z | z <;> (rw [z]; decide)
        have hx : ¬ (c p = 108 ∨ c p = 104) := by rcases z with z | z | z | z <;> (rw [z]; decide)
        by_cases hx0 : c p = 100
        · refine rs_end e2 hg (rn_d hx0 (r2yy h1 h2)) h1 h2 (fun y => by omega) ⟨?_, fun y => absurd hx0 y, fun y => absurd y hx3, fun j hj => by rw [pk_un (by omega)]⟩
          rw [if_pos hx0, pk_us]
        · refine rs_end e2 hg (rn_1 hx0 hx3 hx (r1y h1) (r1y h2)) h1 h2 (fun y => by omega) ⟨?_, fun _ => ?_, fun y => absurd y hx3, fun j hj => by rw [pk_un (by omega), pk_un (by omega)]⟩
          · rw [if_neg hx0, pk_un (by omega), pk_us]
          · rw [if_neg hx, pk_us]
    · obtain ⟨b1, b2⟩ := bd_2 hg h1 h2
      by_cases hx0 : c p = 100
      · exact rs_bad hg (rn_d hx0 (r2yn h1 h2)) b1 b2
      · by_cases hx3 : c p = 103
        · exact rs_bad hg (rn_g hx3 (r1y h1) (r1n h2) r1b) b1 b2
        · by_cases hx : c p = 108 ∨ c p = 104
          · exact rs_bad hg (rn_2 hx0 hx3 hx (r1y h1) (r2n h2)) b1 b2
          · exact rs_bad hg (rn_1 hx0 hx3 hx (r1y h1) (r1n h2)) b1 b2
  · obtain ⟨b1, b2⟩ := bd_1 hg h1
    by_cases hx0 : c p = 100
    · exact rs_bad hg (rn_d hx0 (r2n h1)) b1 b2
    · by_cases hx3 : c p = 103
      · exact rs_bad hg (rn_g hx3 (r1n h1) r1b r1b) b1 b2
      · by_cases hx : c p = 108 ∨ c p = 104
        · exact rs_bad hg (rn_2 hx0 hx3 hx (r1n h1) r2b) b1 b2
        · exact rs_bad hg (rn_1 hx0 hx3 hx (r1n h1) r1b) b1 b2
end RSP
