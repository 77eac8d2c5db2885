/-! PART 98.l9: three worlds side by side. -/
theorem get3 {α : Type} {A B : List α} {x : α} : (∀ (i : Nat) (a : α), A[i]? = some a → (A ++ B ++ [x])[i]? = some a) ∧ (∀ (j : Nat) (a : α), B[j]? = some a → (A ++ B ++ [x])[A.length + j]? = some a) ∧ (A ++ B ++ [x])[A.length + B.length]? = some x := by
  refine ⟨fun i a h => ?_, fun j a h => ?_, ?_⟩
  · have h1 := (List.getElem?_eq_some_iff.mp h).1
    rw [List.append_assoc, List.getElem?_append_left h1]
    exact h
  · have h1 := (List.getElem?_eq_some_iff.mp h).1
    rw [List.append_assoc, List.getElem?_append_right (Nat.le_add_right _ _), Nat.add_sub_cancel_left, List.getElem?_append_left h1]
    exact h
  · have h : (A ++ B).length = A.length + B.length := List.length_append
    rw [← h, List.getElem?_append_right (Nat.le_refl _), Nat.sub_self]
    rfl
theorem vaP3 {D : va_G} {cl : List vw_C} {A B : va_W} {y : Nat × va_E} {H : Heap} (hP : va_P D cl (A ++ B ++ [y]) H) : va_P D cl A H ∧ va_P D cl B H ∧ va_P D cl [y] H := by
  obtain ⟨t1, t2, t3⟩ := get3 (A := A) (B := B) (x := y)
  refine ⟨fun k q hk => hP k q (t1 k q hk), fun k q hk => hP _ q (t2 k q hk), fun k q hk => ?_⟩
  have hz : k < 1 := (List.getElem?_eq_some_iff.mp hk).1
  rw [show k = 0 by omega] at hk
  cases hk
  exact hP _ _ t3
theorem vaD3 {Q : Nat → Prop} {A B : va_W} {o : Nat} {x : va_E} {nA nB : Nat} {a b : Nat → Nat} (lA : A.length = nA) (lB : B.length = nB) (gA9 : ∀ i, i < nA → ∃ y, A[i]? = some (a i, y)) (gB9 : ∀ j, j < nB → ∃ y, B[j]? = some (b j, y)) (hD : va_D Q (A ++ B ++ [(o, x)])) : ((∀ i j, i < nA → j < nA → a i = a j → i = j) ∧ (∀ i j, i < nB → j < nB → b i = b j → i = j)) ∧ ((∀ i j, i < nA → j < nB → a i ≠ b j) ∧ (∀ i, i < nA → a i ≠ o) ∧ ∀ j, j < nB → b j ≠ o) ∧ ((∀ i, i < nA → Q (a i)) ∧ (∀ j, j < nB → Q (b j)) ∧ Q o) := by
  obtain ⟨t1, t2, t3⟩ := get3 (A := A) (B := B) (x := (o, x))
  have u1 : ∀ i, i < nA → ∃ y, (A ++ B ++ [(o, x)])[i]? = some (a i, y) := fun i hi => by
    obtain ⟨y, hy⟩ := gA9 i hi
    exact ⟨y, t1 i _ hy⟩
  have u2 : ∀ j, j < nB → ∃ y, (A ++ B ++ [(o, x)])[nA + j]? = some (b j, y) := fun j hj => by
    obtain ⟨y, hy⟩ := gB9 j hj
    rw [← lA]
    exact ⟨y, t2 j _ hy⟩
  rw [lA, lB] at t3
  refine ⟨⟨fun i j hi hj hij => ?_, fun i j hi hj hij => ?_⟩, ⟨fun i j hi hj hij => ?_, fun i hi hij => ?_, fun j hj hij => ?_⟩, ⟨fun i hi => ?_, fun j hj => ?_, hD.2 _ _ t3⟩⟩
  · obtain ⟨y, hy⟩ := u1 i hi
    obtain ⟨z, hz⟩ := u1 j hj
    exact hD.1 i j _ _ hy hz hij
  · obtain ⟨y, hy⟩ := u2 i hi
    obtain ⟨z, hz⟩ := u2 j hj
    have h9 := hD.1 _ _ _ _ hy hz hij
    omega
  · obtain ⟨y, hy⟩ := u1 i hi
    obtain ⟨z, hz⟩ := u2 j hj
    have h9 := hD.1 _ _ _ _ hy hz hij
    omega
  · obtain ⟨y, hy⟩ := u1 i hi
    have h9 := hD.1 _ _ _ _ hy t3 hij
    omega
  · obtain ⟨y, hy⟩ := u2 j hj
    have h9 := hD.1 _ _ _ _ hy t3 hij
    omega
  · obtain ⟨y, hy⟩ := u1 i hi
    exact hD.2 _ _ hy
  · obtain ⟨y, hy⟩ := u2 j hj
    exact hD.2 _ _ hy
