/-! PART 68: flights: five rounds are enough (no machine here). -/
abbrev Wy : Type := Nat × Nat × Int
def BIG : Int := 1000000
def wst (D : Nat → Int) (w : Wy) : Nat → Int := fun p => if p = w.1 then min (D w.1) (D w.2.1 + w.2.2) else if p = w.2.1 then min (D w.2.1) (D w.1 + w.2.2) else D p
def rnd (W : List Wy) (D : Nat → Int) : Nat → Int := W.foldl wst D
def itr (W : List Wy) : Nat → Nat → Int
  | 0 => fun p => if p = 0 then 0 else BIG
  | k + 1 => rnd W (itr W k)
def okW1 (w : Wy) : Prop := w.1 < 6 ∧ w.2.1 < 6 ∧ ¬ w.1 = w.2.1 ∧ 1 ≤ w.2.2 ∧ w.2.2 ≤ 9
theorem wst_le (D : Nat → Int) (w : Wy) (p : Nat) : wst D w p ≤ D p := by
  unfold wst
  split
  · next h => subst h; omega
  · split
    · next h => subst h; omega
    · omega
theorem wst_mono {D E : Nat → Int} (w : Wy) (h : ∀ p, D p ≤ E p) (p : Nat) : wst D w p ≤ wst E w p := by
  have h1 := h w.1
  have h2 := h w.2.1
  have h3 := h p
  unfold wst
  split
  · omega
  · split <;> omega
theorem rnd_le : ∀ (W : List Wy) (D : Nat → Int) (p : Nat), rnd W D p ≤ D p
  | [], D, p => Int.le_refl _
  | w :: W, D, p => Int.le_trans (rnd_le W (wst D w) p) (wst_le D w p)
theorem rnd_mono : ∀ (W : List Wy) {D E : Nat → Int} (_ : ∀ p, D p ≤ E p) (p : Nat), rnd W D p ≤ rnd W E p
  | [], D, E, h, p => h p
  | w :: W, D, E, h, p => rnd_mono W (wst_mono w h) p
theorem rnd_way : ∀ (W : List Wy) (D : Nat → Int) (w : Wy), w ∈ W → rnd W D w.1 ≤ D w.2.1 + w.2.2 ∧ rnd W D w.2.1 ≤ D w.1 + w.2.2
  | [], _, _, h => by cases h
  | v :: W, D, w, h => by
    rcases List.mem_cons.mp h with rfl | h
    · have h1 := rnd_le W (wst D w) w.1
      have h2 := rnd_le W (wst D w) w.2.1
      have e1 : wst D w w.1 ≤ D w.2.1 + w.2.2 := by unfold wst; rw [if_pos rfl]; omega
      have e2 : wst D w w.2.1 ≤ D w.1 + w.2.2 := by
        unfold wst
        split
        · next e => rw [← e]; rw [e]; omega
        · rw [if_pos rfl]; omega
      exact ⟨Int.le_trans h1 e1, Int.le_trans h2 e2⟩
    · have := rnd_way W (wst D v) w h
      have a1 := wst_le D v w.1
      have a2 := wst_le D v w.2.1
      have e : rnd (v :: W) D = rnd W (wst D v) := rfl
      rw [e]
      omega
/-- who is not there yet, or at the start, or one way from another -/
def Pre (W : List Wy) (D : Nat → Int) : Prop := D 0 = 0 ∧ ∀ p, 0 ≤ D p ∧ D p ≤ BIG ∧ (p = 0 ∨ D p = BIG ∨ ∃ w ∈ W, (w.1 = p ∧ D w.2.1 + w.2.2 ≤ D p) ∨ (w.2.1 = p ∧ D w.1 + w.2.2 ≤ D p))
theorem Pre_w {W : List Wy} (hW : ∀ w ∈ W, okW1 w) {D : Nat → Int} (h : Pre W D) {w : Wy} (hw : w ∈ W) : Pre W (wst D w) := by
  obtain ⟨h0, h1⟩ := h
  obtain ⟨w1, w2, w3, w4, w5⟩ := hW w hw
  have a1 := h1 w.1
  have a2 := h1 w.2.1
  have le : ∀ p, wst D w p ≤ D p := wst_le D w
  have ge : ∀ p, 0 ≤ wst D w p := fun p => by
    have := h1 p
    unfold wst
    split
    · omega
    · split <;> omega
  refine ⟨by have := ge 0; have := le 0; omega, fun p => ⟨ge p, by have := le p; have := h1 p; omega, ?_⟩⟩
  obtain ⟨p1, p2, p3⟩ := h1 p
  by_cases hc : wst D w p = D p
  · rw [hc]
    rcases p3 with e | e | ⟨v, hv, e⟩
    · exact Or.inl e
    · exact Or.inr (Or.inl e)
    · refine Or.inr (Or.inr ⟨v, hv, ?_⟩)
      have := le v.1
      have := le v.2.1
      rcases e with e | e
      · exact Or.inl ⟨e.1, by omega⟩
      · exact Or.inr ⟨e.1, by omega⟩
  · refine Or.inr (Or.inr ⟨w, hw, ?_⟩)
    have l1 := le w.1
    have l2 := le w.2.1
    unfold wst at hc l1 l2 ⊢
    by_cases e1 : p = w.1
    · subst e1
      left
      rw [if_pos rfl] at hc
      refine ⟨rfl, ?_⟩
      rw [if_pos (show w.1 = w.1 from rfl), if_neg (fun e => w3 e.symm), if_pos (show w.2.1 = w.2.1 from rfl)]
      omega
    · rw [if_neg e1] at hc
      by_cases e2 : p = w.2.1
      · subst e2
        right
        rw [if_pos rfl] at hc
        refine ⟨rfl, ?_⟩
        rw [if_pos (show w.1 = w.1 from rfl), if_neg e1, if_pos (show w.2.1 = w.2.1 from rfl)]
        omega
      · rw [if_neg e2] at hc
        exact absurd rfl hc
theorem Pre_fold {W : List Wy} (hW : ∀ w ∈ W, okW1 w) : ∀ (V : List Wy) {D : Nat → Int}, (∀ w ∈ V, w ∈ W) → Pre W D → Pre W (V.foldl wst D)
  | [], _, _, h => h
  | v :: V, D, hV, h => Pre_fold hW V (fun w hw => hV w (List.mem_cons_of_mem _ hw)) (Pre_w hW h (hV v List.mem_cons_self))
theorem Pre_itr {W : List Wy} (hW : ∀ w ∈ W, okW1 w) : ∀ k, Pre W (itr W k)
  | 0 => ⟨rfl, fun p => by
    show 0 ≤ (if p = 0 then 0 else BIG) ∧ (if p = 0 then 0 else BIG) ≤ BIG ∧ (p = 0 ∨ (if p = 0 then 0 else BIG) = BIG ∨ _)
    by_cases e : p = 0
    · rw [if_pos e]; exact ⟨by decide, by decide, Or.inl e⟩
    · rw [if_neg e]; exact ⟨by decide, by decide, Or.inr (Or.inl rfl)⟩⟩
  | k + 1 => Pre_fold hW W (fun _ h => h) (Pre_itr hW k)
theorem itr_anti {W : List Wy} (k : Nat) : ∀ m p, itr W (k + m) p ≤ itr W k p
  | 0, p => Int.le_refl _
  | m + 1, p => Int.le_trans (rnd_le W (itr W (k + m)) p) (itr_anti k m p)
theorem itr_hi {W : List Wy} (hW : ∀ w ∈ W, okW1 w) {p : Nat} (hp : 6 ≤ p) : ∀ k, itr W k p = BIG
  | 0 => by show (if p = 0 then 0 else BIG) = BIG; rw [if_neg (by omega)]
  | k + 1 => by
    have key : ∀ (V : List Wy) (D : Nat → Int), (∀ w ∈ V, okW1 w) → V.foldl wst D p = D p := by
      intro V
      induction V with
      | nil => intro D _; rfl
      | cons v V ih =>
        intro D h
        rw [List.foldl_cons, ih _ (fun w hw => h w (List.mem_cons_of_mem _ hw))]
        have := h v List.mem_cons_self
        unfold wst okW1 at *
        rw [if_neg (by omega), if_neg (by omega)]
    show W.foldl wst (itr W k) p = BIG
    rw [key W _ hW, itr_hi hW hp k]
def sm6 (D : Nat → Int) : Int := D 0 + D 1 + D 2 + D 3 + D 4 + D 5
theorem itr_fix {W : List Wy} (hW : ∀ w ∈ W, okW1 w) : ∃ N, ∀ p, itr W (N + 1) p = itr W N p := by
  have key : ∀ m : Nat, (∃ N, ∀ p, itr W (N + 1) p = itr W N p) ∨ sm6 (itr W m) ≤ 6 * BIG - m := by
    intro m
    induction m with
    | zero =>
      right
      have h := Pre_itr hW 0
      have h0 := (h.2 0).2.1
      have h1 := (h.2 1).2.1
      have h2 := (h.2 2).2.1
      have h3 := (h.2 3).2.1
      have h4 := (h.2 4).2.1
      have h5 := (h.2 5).2.1
      unfold sm6
      omega
    | succ m ih =>
      rcases ih with h | h
      · exact Or.inl h
      · by_cases hc : ∀ p, itr W (m + 1) p = itr W m p
        · exact Or.inl ⟨m, hc⟩
        · right
          have le : ∀ p, itr W (m + 1) p ≤ itr W m p := itr_anti m 1
          have h6 : ¬ (itr W (m + 1) 0 = itr W m 0 ∧ itr W (m + 1) 1 = itr W m 1 ∧ itr W (m + 1) 2 = itr W m 2 ∧ itr W (m + 1) 3 = itr W m 3 ∧ itr W (m + 1) 4 = itr W m 4 ∧ itr W (m + 1) 5 = itr W m 5) := fun e => hc (fun p => by
            by_cases hp : 6 ≤ p
            · rw [itr_hi hW hp, itr_hi hW hp]
            · have : p = 0 ∨ p = 1 ∨ p = 2 ∨ p = 3 ∨ p = 4 ∨ p = 5 := by omega
              obtain ⟨e0, e1, e2, e3, e4, e5⟩ := e
              rcases this with rfl | rfl | rfl | rfl | rfl | rfl <;> assumption)
          have l0 := le 0
          have l1 := le 1
          have l2 := le 2
          have l3 := le 3
          have l4 := le 4
          have l5 := le 5
          unfold sm6 at h ⊢
          omega
  rcases key (6 * 1000000 + 1) with h | h
  · exact h
  · exfalso
    have g := Pre_itr hW (6 * 1000000 + 1)
    have h0 := (g.2 0).1
    have h1 := (g.2 1).1
    have h2 := (g.2 2).1
    have h3 := (g.2 3).1
    have h4 := (g.2 4).1
    have h5 := (g.2 5).1
    unfold sm6 BIG at h
    generalize itr W (6 * 1000000 + 1) = D at *
    omega
theorem cnt_lt {p q : Nat → Bool} {j : Nat} (h : ∀ i, p i = true → q i = true) (hj : q j = true) (hj2 : p j = false) : ∀ n, j < n → cnt p n < cnt q n
  | 0, hn => absurd hn (Nat.not_lt_zero j)
  | n + 1, hn => by
    have mono : ∀ m, cnt p m ≤ cnt q m := by
      intro m
      induction m with
      | zero => exact Nat.le_refl _
      | succ m ih =>
        unfold cnt
        cases hp : p m with
        | true => rw [h m hp]; simp; exact ih
        | false => cases q m <;> simp <;> omega
    unfold cnt
    by_cases e : j = n
    · subst e
      have := mono j
      rw [hj, hj2]
      simp
      omega
    · have := cnt_lt h hj hj2 n (by omega)
      cases hp : p n with
      | true => rw [h n hp]; simp; exact this
      | false => cases q n <;> simp <;> omega
theorem itr_five {W : List Wy} (hW : ∀ w ∈ W, okW1 w) (p : Nat) : itr W 6 p = itr W 5 p := by
  obtain ⟨N, hN⟩ := itr_fix hW
  have hfix : ∀ m p, itr W (N + m) p = itr W N p := by
    intro m
    induction m with
    | zero => intro p; rfl
    | succ m ih =>
      intro p
      have e : itr W (N + m) = itr W N := funext ih
      show rnd W (itr W (N + m)) p = _
      rw [e]
      exact hN p
  have low : ∀ k p, itr W N p ≤ itr W k p := fun k p => by
    by_cases h : N ≤ k
    · have e : k = N + (k - N) := by omega
      rw [e, hfix]
      exact Int.le_refl _
    · have e : N = k + (N - k) := by omega
      rw [e]
      exact itr_anti k _ p
  have hp := Pre_itr hW N
  generalize itr W N = d at *
  have key : ∀ k p, cnt (fun q => decide (d q < d p)) 6 ≤ k → itr W k p = d p := by
    intro k
    induction k with
    | zero =>
      intro p hc
      have h0 := hp.1
      have hb : ¬ d 0 < d p := fun h => by
        have := cnt_lt (p := fun _ => false) (q := fun q => decide (d q < d p)) (j := 0) (fun i e => by cases e) (decide_eq_true h) rfl 6 (by decide)
        omega
      have g := hp.2 p
      by_cases e : p = 0
      · subst e; rw [h0]; rfl
      · rcases g.2.2 with e1 | e1 | ⟨w, hw, e1⟩
        · exact absurd e1 e
        · unfold BIG at e1; omega
        · have := hW w hw
          have g1 := (hp.2 w.1).1
          have g2 := (hp.2 w.2.1).1
          unfold okW1 at this
          omega
    | succ k ih =>
      intro p hc
      have lo := low (k + 1) p
      have g := hp.2 p
      have gk := (Pre_itr hW (k + 1)).2 p
      rcases g.2.2 with e1 | e1 | ⟨w, hw, e1⟩
      · subst e1
        rw [hp.1]
        exact (Pre_itr hW (k + 1)).1
      · omega
      · have ok := hW w hw
        unfold okW1 at ok
        have st : ∀ q, d q < d p → cnt (fun z => decide (d z < d q)) 6 < cnt (fun z => decide (d z < d p)) 6 ∨ 6 ≤ q := fun q hq => by
          by_cases h6 : 6 ≤ q
          · exact Or.inr h6
          · left
            refine cnt_lt (j := q) (fun i e => ?_) (decide_eq_true hq) (decide_eq_false (Int.lt_irrefl _)) 6 (by omega)
            have := of_decide_eq_true e
            exact decide_eq_true (by omega)
        have rw2 := rnd_way W (itr W k) w hw
        have er : itr W (k + 1) = rnd W (itr W k) := rfl
        rcases e1 with ⟨e1, e2⟩ | ⟨e1, e2⟩
        · have i1 := ih w.2.1 (by rcases st w.2.1 (by omega) with h | h <;> omega)
          rw [e1] at rw2
          rw [er] at lo ⊢
          omega
        · have i1 := ih w.1 (by rcases st w.1 (by omega) with h | h <;> omega)
          rw [e1] at rw2
          rw [er] at lo ⊢
          omega
  by_cases h6 : p < 6
  rotate_left
  · rw [itr_hi hW (by omega), itr_hi hW (by omega)]
  have h5 : itr W 5 p = d p := key 5 p (by
    have := cnt_lt (p := fun q => decide (d q < d p)) (q := fun _ => true) (j := p) (fun i e => rfl) rfl (decide_eq_false (Int.lt_irrefl _)) 6
    have := this h6
    have e6 : cnt (fun _ => true) 6 = 6 := by decide
    omega)
  have a := low 6 p
  have b := itr_anti (W := W) 5 1 p
  rw [h5] at b ⊢
  have b : itr W 6 p ≤ d p := b
  omega
