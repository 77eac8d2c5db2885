/-! PART 94.a2: the reference reads laws: states and outcomes. -/
/-- what a reader may change -/
def FrP (w c : Nat) (M M' : Mem) : Prop := (∀ k, ¬ k = 3 → ¬ k = 4 → ¬ k = 5 → M' 0 k = M 0 k) ∧ (∀ i, i < 520 * w + c ∨ 520 * w + 520 ≤ i → M' 2 i = M 2 i ∧ M' 3 i = M 3 i) ∧ (∀ i, ¬ i = w → M' 4 i = M 4 i) ∧ ∀ j, ¬ j = 0 → ¬ j = 2 → ¬ j = 3 → ¬ j = 4 → M' j = M j
theorem FrP_refl (w c : Nat) (M : Mem) : FrP w c M M := ⟨fun _ _ _ _ => rfl, fun _ _ => ⟨rfl, rfl⟩, fun _ _ => rfl, fun _ _ _ _ _ => rfl⟩
theorem FrP_trans {w c c' : Nat} {M M1 M2 : Mem} (h : FrP w c M M1) (g : FrP w c' M1 M2) (hc : c ≤ c') : FrP w c M M2 :=
  ⟨fun k a b d => by rw [g.1 k a b d, h.1 k a b d], fun i hi => by
    have g2 := g.2.1 i (by omega)
    have h2 := h.2.1 i hi
    exact ⟨by rw [g2.1, h2.1], by rw [g2.2, h2.2]⟩, fun i hi => by rw [g.2.2.1 i hi, h.2.2.1 i hi], fun j a b d e => by rw [g.2.2.2 j a b d e, h.2.2.2 j a b d e]⟩
theorem FrP_0 {w c : Nat} {M : Mem} {k : Nat} {v : Int} (hk : k = 3 ∨ k = 4 ∨ k = 5) : FrP w c M (ms M 0 k v) :=
  ⟨fun q a b d => by rw [ms_at, if_neg (by omega)], fun i _ => ⟨by rw [ms_ne (by decide)], by rw [ms_ne (by decide)]⟩, fun i _ => by rw [ms_ne (by decide)], fun j a _ _ _ => by rw [ms_ne a]⟩
theorem FrP_less {w c c' : Nat} {M M' : Mem} (h : FrP w c' M M') (hc : c ≤ c') : FrP w c M M' := FrP_trans (FrP_refl w c M) h hc
theorem TpM_P {w c : Nat} {M M' : Mem} {T : List Int} (h : TpM M T) (f : FrP w c M M') : TpM M' T := by
  obtain ⟨h1, h2, h3⟩ := h
  exact ⟨by rw [f.1 2 (by decide) (by decide) (by decide)]; exact h1, h2, fun i hi => by rw [f.2.2.2 1 (by decide) (by decide) (by decide) (by decide)]; exact h3 i hi⟩
/-- reading goes on: p is where (blanks aside), c codes are put, s signs more than codes are behind -/
def LiveM (T : List Int) (w dp s p c : Nat) (M : Mem) : Prop := TpM M T ∧ w < 5 ∧ dp ≤ 6 ∧ M 0 14 = (w : Int) ∧ M 0 4 = -1 ∧ M 0 5 = (dp : Int) ∧ M 4 w = (c : Int) ∧ p ≤ T.length ∧ ∃ q : Nat, M 0 3 = (q : Int) ∧ q ≤ T.length ∧ c + s ≤ q ∧ skS T q = skS T p
/-- the fault is at b -/
def DeadM (T : List Int) (w b e s cb : Nat) (M : Mem) : Prop := TpM M T ∧ w < 5 ∧ M 0 14 = (w : Int) ∧ M 0 4 = (b : Int) ∧ b ≤ T.length ∧ ∃ q c : Nat, M 0 3 = (q : Int) ∧ M 4 w = (c : Int) ∧ q ≤ T.length + e ∧ c + s ≤ q ∧ cb ≤ c
/-- behind the blanks -/
def LiveX (T : List Int) (w dp s p c : Nat) (M : Mem) : Prop := LiveM T w dp s p c M ∧ M 0 3 = ((skS T p : Nat) : Int)
theorem DeadM_less {T : List Int} {w b e e' s s' cb cb' : Nat} {M : Mem} (h : DeadM T w b e s cb M) (he : e ≤ e') (hs : s' ≤ s) (hc : cb' ≤ cb) : DeadM T w b e' s' cb' M := by
  obtain ⟨h1, h2, h3, h4, h5, q, c, h6, h7, h8, h9, h10⟩ := h
  exact ⟨h1, h2, h3, h4, h5, q, c, h6, h7, by omega, by omega, by omega⟩
theorem LiveM_less {T : List Int} {w dp s s' p c : Nat} {M : Mem} (h : LiveM T w dp s p c M) (hs : s' ≤ s) : LiveM T w dp s' p c M := by
  obtain ⟨h1, h2, h3, h4, h5, h6, h7, h8, q, h9, h10, h11, h12⟩ := h
  exact ⟨h1, h2, h3, h4, h5, h6, h7, h8, q, h9, h10, by omega, h12⟩
def OutM (T : List Int) (w dp s c : Nat) (r : Rd) (M M' : Mem) : Prop := FrP w c M M' ∧ (r.1 = true → LiveM T w dp s r.2.1 (c + r.2.2.length) M' ∧ AtM M' (520 * w + c) r.2.2) ∧ (r.1 = false → DeadM T w r.2.1 (8 - dp) s c M')
theorem AtM_nil (M : Mem) (i : Nat) : AtM M i [] := fun j hj => absurd hj (Nat.not_lt_zero j)
theorem AtM_app {M : Mem} {i : Nat} {a b : List Int} (h : AtM M i a) (g : AtM M (i + a.length) b) : AtM M i (a ++ b) := fun j hj => by
  rw [List.length_append] at hj
  by_cases q : j < a.length
  · have := h j q
    rw [List.getD_eq_getElem?_getD, List.getElem?_append_left q, ← List.getD_eq_getElem?_getD]
    exact this
  · have := g (j - a.length) (by omega)
    rw [List.getD_eq_getElem?_getD, List.getElem?_append_right (by omega), ← List.getD_eq_getElem?_getD]
    rw [show i + a.length + (j - a.length) = i + j by omega] at this
    exact this
theorem AtM_P {w c : Nat} {M M' : Mem} {i : Nat} {a : List Int} (h : AtM M i a) (f : FrP w c M M') (hi : i + a.length ≤ 520 * w + c) : AtM M' i a := fun j hj => by
  have := h j hj
  have g := f.2.1 (i + j) (by omega)
  unfold CdM at this ⊢
  rw [g.1, g.2]
  exact this
/-- what comes behind; or what is done where the fault stands -/
theorem out_bn {T : List Int} {w dp dp' s s' c : Nat} {r : Rd} {f : Nat → Rd} {M M1 M2 : Mem} (h : OutM T w dp' s' c r M M1) (hl : r.1 = true → OutM T w dp s (c + r.2.2.length) (f r.2.1) M1 M2) (hd : r.1 = false → FrP w c M1 M2 ∧ DeadM T w r.2.1 (8 - dp) s c M2) : OutM T w dp s c (bnR r f) M M2 := by
  unfold bnR
  cases e : r.1 with
  | true =>
    rw [if_pos rfl]
    obtain ⟨h1, h2, h3⟩ := h
    obtain ⟨g1, g2, g3⟩ := hl e
    obtain ⟨a1, a2⟩ := h2 e
    refine ⟨FrP_trans h1 g1 (by omega), fun q => ?_, fun q => DeadM_less (g3 q) (Nat.le_refl _) (Nat.le_refl _) (by omega)⟩
    obtain ⟨b1, b2⟩ := g2 q
    refine ⟨?_, AtM_app (AtM_P a2 g1 (by omega)) (by rw [Nat.add_assoc]; exact b2)⟩
    show LiveM T w dp s (f r.2.1).2.1 (c + (r.2.2 ++ (f r.2.1).2.2).length) M2
    rw [List.length_append, ← Nat.add_assoc]
    exact b1
  | false =>
    rw [if_neg (by decide)]
    obtain ⟨k1, k2⟩ := hd e
    exact ⟨FrP_trans h.1 k1 (Nat.le_refl c), fun q => (by rw [e] at q; cases q), fun _ => k2⟩
theorem out_pre {T : List Int} {w dp s c c' : Nat} {r : Rd} {M M1 M2 : Mem} (f : FrP w c' M M1) (h : OutM T w dp s c r M1 M2) (hc : c ≤ c') : OutM T w dp s c r M M2 := ⟨FrP_trans (FrP_less f hc) h.1 (Nat.le_refl c), h.2⟩
/-- to do with what was read: an answer, and what it leaves -/
def ActM' (T : List Int) (w dp : Nat) (F : Mem → Option (Int × Mem)) (sp : Nat → Rd) : Prop := ∀ s p c M, LiveM T w dp s p c M → ∃ v M', F M = some (v, M') ∧ OutM T w dp s c (sp p) M M'
theorem l_look {T : List Int} {w dp s p c : Nat} {M : Mem} (h : LiveM T w dp s p c M) : ∃ M', ci_X11_look.2.2.2.2 [0] M = some (sgT T p, M') ∧ LiveX T w dp s p c M' ∧ (∀ c', FrP w c' M M') := by
  obtain ⟨h1, h2, h3, h4, h5, h6, h7, h8, q, h9, h10, h11, h12⟩ := h
  have g := r_look h1 h9 h10
  have hq := skS_le h10
  have e : sgT T q = sgT T p := by unfold sgT; rw [h12]
  rw [e, h12] at g
  rw [h12] at hq
  refine ⟨_, g, ⟨⟨TpM_0 h1 (by decide), h2, h3, by rw [ms_at, if_neg (by omega)]; exact h4, by rw [ms_at, if_neg (by omega)]; exact h5, by rw [ms_at, if_neg (by omega)]; exact h6, by rw [ms_ne (by decide)]; exact h7, h8, skS T p, by simp [ms], hq.2, by omega, skS_idem T p⟩, by simp [ms]⟩, fun c' => FrP_0 (Or.inl rfl)⟩
theorem LiveX_at {T : List Int} {w dp s p c : Nat} {M : Mem} (h : LiveX T w dp s p c M) : c + s ≤ skS T p := by
  obtain ⟨⟨h1, h2, h3, h4, h5, h6, h7, h8, q, h9, h10, h11, h12⟩, hx⟩ := h
  rw [hx] at h9
  omega
/-- at++ -/
theorem l_up {T : List Int} {w dp s p c : Nat} {M : Mem} (h : LiveX T w dp s p c M) (hc : ¬ sgT T p = -1) : LiveM T w dp (s + 1) (skS T p + 1) c (ms M 0 3 (((skS T p : Nat) : Int) + 1)) := by
  have ha := LiveX_at h
  obtain ⟨⟨h1, h2, h3, h4, h5, h6, h7, h8, q, h9, h10, h11, h12⟩, hx⟩ := h
  have hl := sg_lt hc
  exact ⟨TpM_0 h1 (by decide), h2, h3, by rw [ms_at, if_neg (by omega)]; exact h4, by rw [ms_at, if_neg (by omega)]; exact h5, by rw [ms_at, if_neg (by omega)]; exact h6, by rw [ms_ne (by decide)]; exact h7, hl, skS T p + 1, by simp [ms], hl, by omega, rfl⟩
theorem l_bad {T : List Int} {w dp s p c : Nat} {M : Mem} (h : LiveX T w dp s p c M) (e : Nat) : ∃ M', ci_X11_bad.2.2.2.2 [0] M = some (0, M') ∧ DeadM T w (skS T p) e s c M' ∧ (∀ c', FrP w c' M M') ∧ M' 0 3 = M 0 3 := by
  have ha := LiveX_at h
  obtain ⟨⟨h1, h2, h3, h4, h5, h6, h7, h8, q, h9, h10, h11, h12⟩, hx⟩ := h
  have hs := skS_le h8
  refine ⟨_, r_bad h5 hx, ⟨TpM_0 h1 (by decide), h2, by rw [ms_at, if_neg (by omega)]; exact h4, by simp [ms], hs.2, skS T p, c, by rw [ms_at, if_neg (by omega)]; exact hx, by rw [ms_ne (by decide)]; exact h7, by omega, by omega, Nat.le_refl c⟩, fun c' => FrP_0 (Or.inr (Or.inl rfl)), by rw [ms_at, if_neg (by omega)]⟩
theorem l_put {T : List Int} {w dp s p c : Nat} {M : Mem} (h : LiveM T w dp (s + 1) p c M) {C k v : Int} (hk : kdS C = k) (h1 : C < 10000 → v = C) (h2 : 20000 ≤ C → v = C - 20000) : ∃ M', ci_X11_put.2.2.2.2 [0, k, v] M = some (0, M') ∧ OutM T w dp s c (okR1 p [C]) M M' := by
  obtain ⟨a1, a2, a3, a4, a5, a6, a7, a8, q, a9, a10, a11, a12⟩ := h
  have hT := a1.2.1
  have g := r_put (k := k) (v := v) a4 a2 a7 (by omega)
  refine ⟨_, g, ⟨fun q _ _ _ => by rw [ms_ne (by decide), ms_ne (by decide), ms_ne (by decide)], fun i hi => ⟨?_, ?_⟩, fun i hi => ?_, fun j b1 b2 b3 b4 => by rw [ms_ne b4, ms_ne b3, ms_ne b2]⟩, fun _ => ⟨⟨?_, a2, a3, ?_, ?_, ?_, ?_, a8, q, ?_, a10, ?_, a12⟩, fun j hj => ?_⟩, fun z => by cases z⟩
  · rw [ms_ne (by decide), ms_ne (by decide), ms_at, if_neg (by omega)]
  · rw [ms_ne (by decide), ms_at, if_neg (by omega), ms_ne (by decide)]
  · rw [ms_at, if_neg (by omega), ms_ne (by decide), ms_ne (by decide)]
  · obtain ⟨t1, t2, t3⟩ := a1
    exact ⟨by rw [ms_ne (by decide), ms_ne (by decide), ms_ne (by decide)]; exact t1, t2, fun i hi => by rw [ms_ne (by decide), ms_ne (by decide), ms_ne (by decide)]; exact t3 i hi⟩
  · rw [ms_ne (by decide), ms_ne (by decide), ms_ne (by decide)]; exact a4
  · rw [ms_ne (by decide), ms_ne (by decide), ms_ne (by decide)]; exact a5
  · rw [ms_ne (by decide), ms_ne (by decide), ms_ne (by decide)]; exact a6
  · rw [ms_at, if_pos ⟨rfl, rfl⟩]
    rfl
  · rw [ms_ne (by decide), ms_ne (by decide), ms_ne (by decide)]; exact a9
  · show c + 1 + s ≤ q
    omega
  · have hj : j < 1 := hj
    have : j = 0 := by omega
    subst this
    show CdM _ (520 * w + c + 0) C
    rw [Nat.add_zero]
    refine ⟨?_, fun z => ?_, fun z => ?_⟩
    · rw [ms_ne (by decide), ms_ne (by decide), ms_at, if_pos ⟨rfl, rfl⟩, hk]
    · rw [ms_ne (by decide), ms_at, if_pos ⟨rfl, rfl⟩]; exact h1 z
    · rw [ms_ne (by decide), ms_at, if_pos ⟨rfl, rfl⟩]; exact h2 z
/-- where the fault stands: a code is put -/
theorem d_put {T : List Int} {w b e s cb : Nat} {M : Mem} (h : DeadM T w b e (s + 1) cb M) (he : e ≤ 8) (k v : Int) : ∃ M', ci_X11_put.2.2.2.2 [0, k, v] M = some (0, M') ∧ FrP w cb M M' ∧ DeadM T w b e s cb M' := by
  obtain ⟨a1, a2, a3, a4, a5, q, c, a6, a7, a8, a9, a10⟩ := h
  have hT := a1.2.1
  have g := r_put (k := k) (v := v) a3 a2 a7 (by omega)
  refine ⟨_, g, ⟨fun q _ _ _ => by rw [ms_ne (by decide), ms_ne (by decide), ms_ne (by decide)], fun i hi => ⟨?_, ?_⟩, fun i hi => ?_, fun j b1 b2 b3 b4 => by rw [ms_ne b4, ms_ne b3, ms_ne b2]⟩, ?_, a2, ?_, ?_, a5, q, c + 1, ?_, ?_, a8, by omega, by omega⟩
  · rw [ms_ne (by decide), ms_ne (by decide), ms_at, if_neg (by omega)]
  · rw [ms_ne (by decide), ms_at, if_neg (by omega), ms_ne (by decide)]
  · rw [ms_at, if_neg (by omega), ms_ne (by decide), ms_ne (by decide)]
  · obtain ⟨t1, t2, t3⟩ := a1
    exact ⟨by rw [ms_ne (by decide), ms_ne (by decide), ms_ne (by decide)]; exact t1, t2, fun i hi => by rw [ms_ne (by decide), ms_ne (by decide), ms_ne (by decide)]; exact t3 i hi⟩
  · rw [ms_ne (by decide), ms_ne (by decide), ms_ne (by decide)]; exact a3
  · rw [ms_ne (by decide), ms_ne (by decide), ms_ne (by decide)]; exact a4
  · rw [ms_ne (by decide), ms_ne (by decide), ms_ne (by decide)]; exact a6
  · rw [ms_at, if_pos ⟨rfl, rfl⟩]
    rfl
/-- where the fault stands: at++, deep changed -/
theorem d_up {T : List Int} {w b e s cb : Nat} {M : Mem} (h : DeadM T w b e s cb M) : ∃ q : Nat, M 0 3 = (q : Int) ∧ DeadM T w b (e + 1) (s + 1) cb (ms M 0 3 ((q : Int) + 1)) := by
  obtain ⟨a1, a2, a3, a4, a5, q, c, a6, a7, a8, a9, a10⟩ := h
  exact ⟨q, a6, TpM_0 a1 (by decide), a2, by rw [ms_at, if_neg (by omega)]; exact a3, by rw [ms_at, if_neg (by omega)]; exact a4, a5, q + 1, c, by simp [ms], by rw [ms_ne (by decide)]; exact a7, by omega, by omega, a10⟩
theorem d_5 {T : List Int} {w b e s cb : Nat} {M : Mem} (h : DeadM T w b e s cb M) (v : Int) : DeadM T w b e s cb (ms M 0 5 v) := by
  obtain ⟨a1, a2, a3, a4, a5, q, c, a6, a7, a8, a9, a10⟩ := h
  exact ⟨TpM_0 a1 (by decide), a2, by rw [ms_at, if_neg (by omega)]; exact a3, by rw [ms_at, if_neg (by omega)]; exact a4, a5, q, c, by rw [ms_at, if_neg (by omega)]; exact a6, by rw [ms_ne (by decide)]; exact a7, a8, a9, a10⟩
theorem l_5 {T : List Int} {w dp dp' s p c : Nat} {M : Mem} (h : LiveM T w dp s p c M) (hd : dp' ≤ 6) : LiveM T w dp' s p c (ms M 0 5 (dp' : Int)) := by
  obtain ⟨h1, h2, h3, h4, h5, h6, h7, h8, q, h9, h10, h11, h12⟩ := h
  exact ⟨TpM_0 h1 (by decide), h2, hd, by rw [ms_at, if_neg (by omega)]; exact h4, by rw [ms_at, if_neg (by omega)]; exact h5, by simp [ms], by rw [ms_ne (by decide)]; exact h7, h8, q, by rw [ms_at, if_neg (by omega)]; exact h9, h10, h11, h12⟩
