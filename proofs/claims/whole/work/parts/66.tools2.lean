/-! PART 66: tools: loops that look for the first that is not so, or for the i-th. -/
def allB (p : Nat → Bool) : Nat → Bool
  | 0 => true
  | n + 1 => allB p n && p n
theorem allB_iff (p : Nat → Bool) : ∀ n, allB p n = true ↔ ∀ i, i < n → p i = true
  | 0 => ⟨fun _ i hi => absurd hi (Nat.not_lt_zero i), fun _ => rfl⟩
  | n + 1 => by
    unfold allB
    rw [Bool.and_eq_true, allB_iff p n]
    refine ⟨fun h i hi => ?_, fun h => ⟨fun i hi => h i (by omega), h n (by omega)⟩⟩
    by_cases e : i = n
    · subst e; exact h.2
    · exact h.1 i (by omega)
theorem dWh_all {c : CoD} {b : StD} {M : Mem} (P : Nat → Bool) (v : Int) (E : Nat → List Int) (n : Nat) (hc : ∀ i, i < n → c (E i) M = some (true, M)) (hb : ∀ i, i < n → P i = true → b (E i) M = some (none, E (i + 1), M)) (hr : ∀ i, i < n → P i = false → ∃ ρ, b (E i) M = some (some v, ρ, M)) (he : c (E n) M = some (false, M)) : ∃ ρ, dWh c b (E 0) M = some (if allB P n = true then none else some v, ρ, M) := by
  rcases first_bad (fun i => P i = true) n with h | ⟨j, h1, h2, h3⟩
  · rw [if_pos ((allB_iff P n).mpr h)]
    exact ⟨_, dWh_for (fun i => (E i, M)) n hc (fun i hi => hb i hi (h i hi)) he n 0 (by omega)⟩
  · rw [if_neg (fun e => h2 ((allB_iff P n).mp e j h1))]
    have h2 : P j = false := by cases e : P j with
      | true => exact absurd e h2
      | false => rfl
    obtain ⟨ρ, hρ⟩ := hr j h1 h2
    exact ⟨ρ, dWh_out (fun i => (E i, M)) j (fun i hi => hc i (by omega)) (fun i hi => hb i (by omega) (h3 i hi)) hρ j 0 (by omega)⟩
/-- the i-th that is so, counted from x on; or how many then -/
def nthL (i : Int) : List (Bool × Int) → Int → Option Int × Int
  | [], x => (none, x)
  | q :: C, x => if q.1 = true then (if x = i then (some q.2, x) else nthL i C (x + 1)) else nthL i C x
theorem nthL_app (i : Int) : ∀ (C D : List (Bool × Int)) (x : Int), nthL i (C ++ D) x = if (nthL i C x).1 = none then nthL i D (nthL i C x).2 else nthL i C x
  | [], D, x => by simp [nthL]
  | q :: C, D, x => by
    simp only [List.cons_append, nthL]
    split
    · split
      · simp
      · exact nthL_app i C D (x + 1)
    · exact nthL_app i C D x
theorem nthL_rng (i : Int) : ∀ (C : List (Bool × Int)) (x : Int), x ≤ (nthL i C x).2 ∧ (nthL i C x).2 ≤ x + C.length
  | [], x => by simp [nthL]
  | q :: C, x => by
    have h1 := nthL_rng i C (x + 1)
    have h2 := nthL_rng i C x
    simp only [nthL, List.length_cons]
    split
    · split
      · exact ⟨Int.le_refl _, by dsimp only; omega⟩
      · omega
    · omega
theorem dWh_nth {c : CoD} {b : StD} {M : Mem} (i : Int) (q : Nat → Bool × Int) (E : Nat → Int → List Int) (n : Nat) (K : Int)
    (hc : ∀ k x, k < n → 0 ≤ x → x < K → c (E k x) M = some (true, M))
    (h0 : ∀ k x, k < n → 0 ≤ x → x < K → (q k).1 = false → b (E k x) M = some (none, E (k + 1) x, M))
    (h1 : ∀ k x, k < n → 0 ≤ x → x < K → (q k).1 = true → ¬ x = i → b (E k x) M = some (none, E (k + 1) (x + 1), M))
    (h2 : ∀ k x, k < n → 0 ≤ x → x < K → (q k).1 = true → x = i → ∃ ρ, b (E k x) M = some (some (q k).2, ρ, M))
    (he : ∀ x, 0 ≤ x → x < K → c (E n x) M = some (false, M)) : ∀ (m k : Nat) (x : Int), k + m = n → 0 ≤ x → x + m < K → ∃ ρ, dWh c b (E k x) M = some ((nthL i ((List.range' k m).map q) x).1, ρ, M) ∧ ((nthL i ((List.range' k m).map q) x).1 = none → ρ = E n (nthL i ((List.range' k m).map q) x).2)
  | 0, k, x, hk, x0, xK => by
    have hk : k = n := hk
    subst hk
    exact ⟨_, dWh_end (he x x0 (by omega)), fun _ => rfl⟩
  | m + 1, k, x, hk, x0, xK => by
    have e : (List.range' k (m + 1)).map q = q k :: (List.range' (k + 1) m).map q := rfl
    rw [e]
    simp only [nthL]
    cases hq : (q k).1 with
    | false =>
      obtain ⟨ρ, g1, g2⟩ := dWh_nth i q E n K hc h0 h1 h2 he m (k + 1) x (by omega) x0 (by omega)
      exact ⟨ρ, dWh_go (hc k x (by omega) x0 (by omega)) (h0 k x (by omega) x0 (by omega) hq) g1, g2⟩
    | true =>
      by_cases hx : x = i
      · obtain ⟨ρ, hρ⟩ := h2 k x (by omega) x0 (by omega) hq hx
        simp only [if_pos hx, if_true]
        exact ⟨ρ, dWh_ret (hc k x (by omega) x0 (by omega)) hρ, fun e => by cases e⟩
      · obtain ⟨ρ, g1, g2⟩ := dWh_nth i q E n K hc h0 h1 h2 he m (k + 1) (x + 1) (by omega) (by omega) (by omega)
        simp only [if_neg hx, if_true]
        exact ⟨ρ, dWh_go (hc k x (by omega) x0 (by omega)) (h1 k x (by omega) x0 (by omega) hq hx) g1, g2⟩
theorem pow_le {n : Nat} (h : n ≤ 8) : 2 ^ n ≤ 256 := Nat.pow_le_pow_right (by decide) h
theorem b_shl8 {n : Nat} (h : n ≤ 8) : isl 1 n = ((2 ^ n : Nat) : Int) := b_shl n (by omega)
