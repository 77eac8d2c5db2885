/-! PART 79: mills as texts: what is read (no machine here). -/
def loS (s k : Nat) : Int := (([[1, 1, 1, 1], [0, 0, 0, 0, 10], [0, 0, 1]] : List (List Int)).getD s []).getD k 0
def hiS (s k : Nat) : Int := (([[99, 9, 20, 9], [60, 60, 3, 8, 60], [5, 5, 9]] : List (List Int)).getD s []).getD k 0
def usS (s k : Nat) : Int := (([[40, 2, 6, 3], [10, 5, 0, 8, 14], [0, 1, 2]] : List (List Int)).getD s []).getD k 0
/-- a number of two digits at most, within bounds -/
def nbR (T : List Int) (lo hi : Int) (p : Nat) : Bool × Nat × Int :=
  if dgB (sgT T p) = true then
    (if (nuS T 2 0 (skS T p)).1 = true then (if (nuS T 2 0 (skS T p)).2.2 < lo ∨ hi < (nuS T 2 0 (skS T p)).2.2 then (false, (nuS T 2 0 (skS T p)).2.1 - 1, 0) else (true, (nuS T 2 0 (skS T p)).2.1, (nuS T 2 0 (skS T p)).2.2))
     else (false, (nuS T 2 0 (skS T p)).2.1, 0))
  else (false, skS T p, 0)
/-- items: well or not, where, the row -/
def itR (T : List Int) (s : Nat) : Nat → Nat → Nat → (Nat → Int) → Bool × Nat × (Nat → Int)
  | 0, p, _, row => (true, p, row)
  | f + 1, p, had, row =>
    if plS s (sgT T p) = -1 ∨ had.testBit (plS s (sgT T p)).toNat = true then (true, p, row)
    else if (nbR T (loS s (plS s (sgT T p)).toNat) (hiS s (plS s (sgT T p)).toNat) (skS T p + 1)).1 = true then
      itR T s f (nbR T (loS s (plS s (sgT T p)).toNat) (hiS s (plS s (sgT T p)).toNat) (skS T p + 1)).2.1 (had ||| 2 ^ (plS s (sgT T p)).toNat) (fun k => if k = (plS s (sgT T p)).toNat then (nbR T (loS s (plS s (sgT T p)).toNat) (hiS s (plS s (sgT T p)).toNat) (skS T p + 1)).2.2 else row k)
    else (false, (nbR T (loS s (plS s (sgT T p)).toNat) (hiS s (plS s (sgT T p)).toNat) (skS T p + 1)).2.1, row)
/-- what was read: the master (was one?), lads, ways -/
abbrev Ml : Type := Bool × (Nat → Int) × Nat × (Nat → Nat → Int) × Nat × (Nat → Nat → Int)
def cmM (T : List Int) (p : Nat) (x : Ml) : Bool × Nat × Ml :=
  if sgT T p = 115 ∧ x.1 = false then ((itR T 0 4 (skS T p + 1) 0 (usS 0)).1, (itR T 0 4 (skS T p + 1) 0 (usS 0)).2.1, (true, (itR T 0 4 (skS T p + 1) 0 (usS 0)).2.2, x.2.2))
  else if sgT T p = 108 ∧ x.2.2.1 < 8 then ((itR T 1 5 (skS T p + 1) 0 (usS 1)).1, (itR T 1 5 (skS T p + 1) 0 (usS 1)).2.1, (x.1, x.2.1, x.2.2.1 + 1, (fun l k => if l = x.2.2.1 then (itR T 1 5 (skS T p + 1) 0 (usS 1)).2.2 k else x.2.2.2.1 l k), x.2.2.2.2))
  else if sgT T p = 119 ∧ x.2.2.2.2.1 < 9 then ((itR T 2 3 (skS T p + 1) 0 (usS 2)).1, (itR T 2 3 (skS T p + 1) 0 (usS 2)).2.1, (x.1, x.2.1, x.2.2.1, x.2.2.2.1, x.2.2.2.2.1 + 1, (fun l k => if l = x.2.2.2.2.1 then (itR T 2 3 (skS T p + 1) 0 (usS 2)).2.2 k else x.2.2.2.2.2 l k)))
  else (false, skS T p, x)
def clsM (T : List Int) : Nat → Nat → Ml → Bool × Nat × Ml
  | 0, p, x => (true, p, x)
  | f + 1, p, x => if sgT T p = 59 then (if (cmM T (skS T p + 1) x).1 = true then clsM T f (cmM T (skS T p + 1) x).2.1 (cmM T (skS T p + 1) x).2.2 else cmM T (skS T p + 1) x) else (true, p, x)
def ml0 : Ml := (false, usS 0, 0, (fun _ _ => 0), 0, (fun _ _ => 0))
def whS (n w : Nat) (fl fw : Nat → Nat → Int) : Bool := decide (2 ≤ n) && allB (fun i => (decide (fl i 3 = 8) || (decide (fl i 3 < n) && decide (¬ fl i 3 = i))) && decide (fl i 1 ≤ fl i 0)) n && allB (fun j => decide (¬ fw j 0 = fw j 1)) w
/-- a mill: clauses, nothing behind them, and whole -/
def milR (T : List Int) : Bool × Nat × Ml :=
  if (cmM T 0 ml0).1 = true then
    (if (clsM T 240 (cmM T 0 ml0).2.1 (cmM T 0 ml0).2.2).1 = true then
      (if sgT T (clsM T 240 (cmM T 0 ml0).2.1 (cmM T 0 ml0).2.2).2.1 = -1 then
        (if whS (clsM T 240 (cmM T 0 ml0).2.1 (cmM T 0 ml0).2.2).2.2.2.2.1 (clsM T 240 (cmM T 0 ml0).2.1 (cmM T 0 ml0).2.2).2.2.2.2.2.2.1 (clsM T 240 (cmM T 0 ml0).2.1 (cmM T 0 ml0).2.2).2.2.2.2.2.1 (clsM T 240 (cmM T 0 ml0).2.1 (cmM T 0 ml0).2.2).2.2.2.2.2.2.2 = true then clsM T 240 (cmM T 0 ml0).2.1 (cmM T 0 ml0).2.2 else (false, T.length, (clsM T 240 (cmM T 0 ml0).2.1 (cmM T 0 ml0).2.2).2.2))
      else (false, skS T (clsM T 240 (cmM T 0 ml0).2.1 (cmM T 0 ml0).2.2).2.1, (clsM T 240 (cmM T 0 ml0).2.1 (cmM T 0 ml0).2.2).2.2))
    else clsM T 240 (cmM T 0 ml0).2.1 (cmM T 0 ml0).2.2)
  else cmM T 0 ml0
/-! bounds of what is read well -/
theorem nuS_le2 {T : List Int} {p : Nat} (h : p < T.length) (hd : dgB (tp T p) = true) : p + 1 ≤ (nuS T 2 0 p).2.1 ∧ (nuS T 2 0 p).2.1 ≤ T.length := ⟨nuS_pos hd (by decide) h, (nuS_le 2 0 p (by omega)).2⟩
theorem nbR_le {T : List Int} {lo hi : Int} {p : Nat} (hp : p ≤ T.length) : (nbR T lo hi p).2.1 ≤ T.length ∧ p ≤ (nbR T lo hi p).2.1 ∧ ((nbR T lo hi p).1 = true → lo ≤ (nbR T lo hi p).2.2 ∧ (nbR T lo hi p).2.2 ≤ hi) := by
  have hs := skS_le hp
  unfold nbR
  by_cases e : dgB (sgT T p) = true
  · rw [if_pos e]
    have hl := sg_lt (T := T) (p := p) (fun z => by rw [z] at e; cases e)
    have h2 := nuS_le2 hl e
    by_cases e2 : (nuS T 2 0 (skS T p)).1 = true
    · rw [if_pos e2]
      by_cases e3 : (nuS T 2 0 (skS T p)).2.2 < lo ∨ hi < (nuS T 2 0 (skS T p)).2.2
      · rw [if_pos e3]
        exact ⟨by dsimp only; omega, by dsimp only; omega, fun z => by cases z⟩
      · rw [if_neg e3]
        exact ⟨by dsimp only; omega, by dsimp only; omega, fun _ => by dsimp only; omega⟩
    · rw [if_neg e2]
      exact ⟨by dsimp only; omega, by dsimp only; omega, fun z => by cases z⟩
  · rw [if_neg e]
    exact ⟨by dsimp only; omega, by dsimp only; omega, fun z => by cases z⟩
theorem itR_le {T : List Int} {s : Nat} : ∀ (f p had : Nat) (row : Nat → Int), p ≤ T.length → (itR T s f p had row).2.1 ≤ T.length ∧ p ≤ (itR T s f p had row).2.1 ∧ ((∀ k, loS s k ≤ row k ∧ row k ≤ hiS s k) → (itR T s f p had row).1 = true → ∀ k, loS s k ≤ (itR T s f p had row).2.2 k ∧ (itR T s f p had row).2.2 k ≤ hiS s k)
  | 0, p, had, row, hp => ⟨hp, Nat.le_refl _, fun h _ => h⟩
  | f + 1, p, had, row, hp => by
    have hs := skS_le hp
    unfold itR
    by_cases e : plS s (sgT T p) = -1 ∨ had.testBit (plS s (sgT T p)).toNat = true
    · rw [if_pos e]
      exact ⟨hp, Nat.le_refl _, fun h _ => h⟩
    · rw [if_neg e]
      have hl : skS T p < T.length := by
        refine sg_lt (T := T) (p := p) (fun z => e (Or.inl ?_))
        rw [z]
        have : ∀ s, s < 4 → plS s (-1) = -1 := by decide
        by_cases hs4 : s < 4
        · exact this s hs4
        · unfold plS
          rw [show lenS.getD s 0 = 0 by unfold lenS; rw [List.getD_eq_getElem?_getD, List.getElem?_eq_none (by simp; omega)]; rfl]
          rfl
      have hn := nbR_le (T := T) (lo := loS s (plS s (sgT T p)).toNat) (hi := hiS s (plS s (sgT T p)).toNat) (p := skS T p + 1) hl
      generalize plS s (sgT T p) = w at *
      generalize nbR T (loS s w.toNat) (hiS s w.toNat) (skS T p + 1) = z at *
      by_cases e2 : z.1 = true
      · rw [if_pos e2]
        obtain ⟨i1, i2, i3⟩ := itR_le (T := T) (s := s) f z.2.1 (had ||| 2 ^ w.toNat) (fun k => if k = w.toNat then z.2.2 else row k) hn.1
        refine ⟨i1, by omega, fun h => i3 (fun k => ?_)⟩
        by_cases ek : k = w.toNat
        · rw [if_pos ek, ek]
          exact hn.2.2 e2
        · rw [if_neg ek]
          exact h k
      · rw [if_neg e2]
        exact ⟨hn.1, by have := hn.2.1; dsimp only; omega, fun _ z => by cases z⟩
theorem us_in : ∀ s, s < 3 → ∀ k, loS s k ≤ usS s k ∧ usS s k ≤ hiS s k := by
  intro s hs k
  by_cases hk : k < 5
  · have : ∀ s, s < 3 → ∀ k, k < 5 → loS s k ≤ usS s k ∧ usS s k ≤ hiS s k := by decide
    exact this s hs k hk
  · have z : ∀ L : List (List Int), (∀ l ∈ L, l.length ≤ 5) → (L.getD s []).getD k 0 = 0 := fun L hL => by
      rcases Nat.lt_or_ge s L.length with q | q
      · have hl := hL (L[s]) (List.getElem_mem q)
        rw [List.getD_eq_getElem?_getD (l := L), List.getElem?_eq_getElem q]
        show (L[s]).getD k 0 = 0
        rw [List.getD_eq_getElem?_getD, List.getElem?_eq_none (by omega)]
        rfl
      · rw [List.getD_eq_getElem?_getD (l := L), List.getElem?_eq_none q]
        rfl
    unfold loS usS hiS
    rw [z _ (by decide), z _ (by decide), z _ (by decide)]
    omega
/-- what was read keeps its bounds -/
def MlB (x : Ml) : Prop := (∀ k, loS 0 k ≤ x.2.1 k ∧ x.2.1 k ≤ hiS 0 k) ∧ x.2.2.1 ≤ 8 ∧ (∀ l k, l < x.2.2.1 → loS 1 k ≤ x.2.2.2.1 l k ∧ x.2.2.2.1 l k ≤ hiS 1 k) ∧ x.2.2.2.2.1 ≤ 9 ∧ (∀ l k, l < x.2.2.2.2.1 → loS 2 k ≤ x.2.2.2.2.2 l k ∧ x.2.2.2.2.2 l k ≤ hiS 2 k) ∧ (x.1 = false → x.2.1 = usS 0)
theorem cmM_ok {T : List Int} {p : Nat} {x : Ml} (hp : p ≤ T.length) (h : MlB x) : (cmM T p x).2.1 ≤ T.length ∧ p ≤ (cmM T p x).2.1 ∧ ((cmM T p x).1 = true → MlB (cmM T p x).2.2 ∧ p + 1 ≤ (cmM T p x).2.1) := by
  have hs := skS_le hp
  obtain ⟨b1, b2, b3, b4, b5, b6⟩ := h
  unfold cmM
  by_cases e1 : sgT T p = 115 ∧ x.1 = false
  · rw [if_pos e1]
    have hl := sg_lt (T := T) (p := p) (by omega)
    obtain ⟨i1, i2, i3⟩ := itR_le (T := T) (s := 0) 4 (skS T p + 1) 0 (usS 0) hl
    refine ⟨i1, by dsimp only; omega, fun e => ⟨⟨i3 (us_in 0 (by decide)) e, b2, b3, b4, b5, fun z => by cases z⟩, by dsimp only; omega⟩⟩
  · rw [if_neg e1]
    by_cases e2 : sgT T p = 108 ∧ x.2.2.1 < 8
    · rw [if_pos e2]
      have hl := sg_lt (T := T) (p := p) (by omega)
      obtain ⟨i1, i2, i3⟩ := itR_le (T := T) (s := 1) 5 (skS T p + 1) 0 (usS 1) hl
      refine ⟨i1, by dsimp only; omega, fun e => ⟨⟨b1, by show x.2.2.1 + 1 ≤ 8; omega, fun l k hl => ?_, b4, b5, b6⟩, by dsimp only; omega⟩⟩
      have hl : l < x.2.2.1 + 1 := hl
      show loS 1 k ≤ (if l = x.2.2.1 then _ else _) ∧ (if l = x.2.2.1 then _ else _) ≤ hiS 1 k
      by_cases q : l = x.2.2.1
      · rw [if_pos q]; exact i3 (us_in 1 (by decide)) e k
      · rw [if_neg q]; exact b3 l k (by omega)
    · rw [if_neg e2]
      by_cases e3 : sgT T p = 119 ∧ x.2.2.2.2.1 < 9
      · rw [if_pos e3]
        have hl := sg_lt (T := T) (p := p) (by omega)
        obtain ⟨i1, i2, i3⟩ := itR_le (T := T) (s := 2) 3 (skS T p + 1) 0 (usS 2) hl
        refine ⟨i1, by dsimp only; omega, fun e => ⟨⟨b1, b2, b3, by show x.2.2.2.2.1 + 1 ≤ 9; omega, fun l k hl => ?_, b6⟩, by dsimp only; omega⟩⟩
        have hl : l < x.2.2.2.2.1 + 1 := hl
        show loS 2 k ≤ (if l = x.2.2.2.2.1 then _ else _) ∧ (if l = x.2.2.2.2.1 then _ else _) ≤ hiS 2 k
        by_cases q : l = x.2.2.2.2.1
        · rw [if_pos q]; exact i3 (us_in 2 (by decide)) e k
        · rw [if_neg q]; exact b5 l k (by omega)
      · rw [if_neg e3]
        exact ⟨hs.2, hs.1, fun z => by cases z⟩
theorem clsM_ok {T : List Int} : ∀ (f p : Nat) (x : Ml), p ≤ T.length → MlB x → (clsM T f p x).2.1 ≤ T.length ∧ ((clsM T f p x).1 = true → MlB (clsM T f p x).2.2)
  | 0, p, x, hp, h => ⟨hp, fun _ => h⟩
  | f + 1, p, x, hp, h => by
    have hs := skS_le hp
    unfold clsM
    by_cases e : sgT T p = 59
    · rw [if_pos e]
      have hl := sg_lt (T := T) (p := p) (by omega)
      obtain ⟨c1, c2, c3⟩ := cmM_ok (T := T) (p := skS T p + 1) (x := x) hl h
      generalize cmM T (skS T p + 1) x = c at *
      by_cases e2 : c.1 = true
      · rw [if_pos e2]
        exact clsM_ok f c.2.1 c.2.2 c1 (c3 e2).1
      · rw [if_neg e2]
        exact ⟨c1, fun z => absurd z e2⟩
    · rw [if_neg e]
      exact ⟨hp, fun _ => h⟩
theorem ml0_ok : MlB ml0 := ⟨us_in 0 (by decide), by decide, fun l k hl => absurd hl (Nat.not_lt_zero l), by decide, fun l k hl => absurd hl (Nat.not_lt_zero l), fun _ => rfl⟩
theorem milR_ok {T : List Int} : (milR T).2.1 ≤ T.length ∧ ((milR T).1 = true → MlB (milR T).2.2 ∧ whS (milR T).2.2.2.2.1 (milR T).2.2.2.2.2.2.1 (milR T).2.2.2.2.2.1 (milR T).2.2.2.2.2.2.2 = true) := by
  obtain ⟨c1, c2, c3⟩ := cmM_ok (T := T) (p := 0) (x := ml0) (Nat.zero_le _) ml0_ok
  unfold milR
  generalize cmM T 0 ml0 = c at *
  by_cases e : c.1 = true
  · rw [if_pos e]
    obtain ⟨s1, s2⟩ := clsM_ok (T := T) 240 c.2.1 c.2.2 c1 (c3 e).1
    generalize clsM T 240 c.2.1 c.2.2 = s at *
    by_cases e2 : s.1 = true
    · rw [if_pos e2]
      by_cases e3 : sgT T s.2.1 = -1
      · rw [if_pos e3]
        by_cases e4 : whS s.2.2.2.2.1 s.2.2.2.2.2.2.1 s.2.2.2.2.2.1 s.2.2.2.2.2.2.2 = true
        · rw [if_pos e4]
          exact ⟨s1, fun _ => ⟨s2 e2, e4⟩⟩
        · rw [if_neg e4]
          exact ⟨Nat.le_refl _, fun z => by cases z⟩
      · rw [if_neg e3]
        exact ⟨(skS_le s1).2, fun z => by cases z⟩
    · rw [if_neg e2]
      exact ⟨s1, fun z => absurd z e2⟩
  · rw [if_neg e]
    exact ⟨c1, fun z => absurd z e⟩
