/-! PART 97.s2: the two fresh objects agree. -/
theorem mz_out {Z : Zs} {i k : Nat} (h : ∀ q ∈ Z, ¬ (q.1 = i ∧ q.2.1 = k)) : mz Z i k = 0 := by
  unfold mz
  rw [List.find?_eq_none.mpr]
  · rfl
  · intro q hq h2
    simp only [Bool.and_eq_true, beq_iff_eq] at h2
    exact h q hq h2
theorem M0C_0 {i k : Nat} (h1 : i < 52) (h2 : ∀ q ∈ ([(0, 15, 5), (1, 3, -1), (9, 6, -1)] : Zs), ¬ (q.1 = i ∧ q.2.1 = k)) : M0C i k = 0 := by
  unfold M0C
  rw [if_pos h1]
  exact mz_out h2
theorem M0C_r {i k : Nat} (h1 : i < 52) (h2 : ¬ i = 0 ∧ ¬ i = 1 ∧ ¬ i = 9) : M0C i k = 0 := M0C_0 h1 (fun q hq => by
  simp only [List.mem_cons, List.not_mem_nil, or_false] at hq
  rcases hq with rfl | rfl | rfl
  · exact fun z => h2.1 z.1.symm
  · exact fun z => h2.2.1 z.1.symm
  · exact fun z => h2.2.2 z.1.symm)
theorem M0R_r {i k : Nat} (h2 : ¬ i = 0) : M0R i k = 0 := mz_out (fun q hq => by
  simp only [List.mem_cons, List.not_mem_nil, or_false] at hq
  rcases hq with rfl | rfl
  · exact fun z => h2 z.1.symm
  · exact fun z => h2 z.1.symm)
theorem StaC_0 : StaC M0C := by
  intro q hq k hk
  simp only [staV, List.mem_cons, List.not_mem_nil, or_false] at hq
  rcases hq with rfl | rfl | rfl | rfl | rfl | rfl | rfl | rfl | rfl | rfl <;> rfl
theorem bset_0 {p : Nat → Bool} : bset p 0 = 0 := rfl
theorem Rel_0 : Rel M0C M0R := by
  have hb : HB 0 (hv M0C 15) := ⟨by decide, fun l hl => absurd hl (Nat.not_lt_zero l)⟩
  refine ⟨[], 0, (hv M0C 15, 0, fun _ _ => 0, []), [], [], [], [], none, fun _ => 0, 5, -1, fun _ => 0, ?_, ?_, ?_⟩
  · refine ⟨⟨rfl, by decide, fun i hi => absurd hi (Nat.not_lt_zero i)⟩, ?_, StaC_0, ?_, ?_, ?_, ?_, ?_, fun h => absurd h (Nat.lt_irrefl 0), rfl, rfl, ⟨fun k _ => M0C_r (by decide) (by decide), rfl, rfl⟩, rfl, rfl, fun k _ => M0C_r (by decide) (by decide)⟩
    · refine ⟨fun k _ => ?_, fun k _ => ?_, fun k _ => ?_, Or.inl rfl, ⟨0, by decide, rfl⟩, ⟨0, by decide, rfl⟩⟩
      · rw [M0C_r (by decide) (by decide)]; decide
      · rw [M0C_r (by decide) (by decide)]; decide
      · rw [M0C_r (by decide) (by decide)]; decide
    · refine ⟨⟨⟨rfl, hb, by decide, by decide, by decide⟩, rfl, fun Y hY => absurd hY (Nat.not_lt_zero Y), ⟨0, by decide, rfl, rfl, by decide, fun j x h => by cases h⟩, trivial, fun x hx => (by cases hx), fun _ => rfl⟩, rfl⟩
    · exact ⟨rfl, by decide, fun w cl h => (by cases h), by decide, by decide⟩
    · exact ⟨rfl, by decide, fun w cl h => by cases h⟩
    · exact ⟨rfl, by decide, fun w cl h => by cases h⟩
    · exact ⟨rfl, by decide, fun w cl h => by cases h⟩
  · refine ⟨⟨rfl, by decide, fun i hi => absurd hi (Nat.not_lt_zero i)⟩, ?_, ⟨rfl, fun w cl h => by cases h⟩, ⟨rfl, by decide, fun w cl h => by cases h⟩, ⟨rfl, by decide, fun w cl h => by cases h⟩, ⟨rfl, by decide, fun w cl h => by cases h⟩, ?_, fun k _ => M0R_r (by decide), rfl, rfl, fun k _ => M0R_r (by decide)⟩
    · refine ⟨rfl, hb, ⟨fun l k hl => absurd hl (Nat.not_lt_zero l), rfl, rfl, rfl, fun i k hi => absurd hi (Nat.not_lt_zero i)⟩, ⟨rfl, by decide, fun j x h => by cases h⟩, trivial⟩
    · rfl
  · exact ⟨fun k _ => ⟨Int.le_refl 0, (by decide : (0 : Int) ≤ 99)⟩, ⟨by decide, by decide⟩, fun h => absurd h (Nat.lt_irrefl 0), by decide, by decide⟩
