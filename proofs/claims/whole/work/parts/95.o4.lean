/-! PART 95.o4: the class against the reference: images, secrets, graves, texts. -/
theorem o_image {Mc Mr : Mem} (h : Rel Mc Mr) : Ans ci_X10_image ci_X11_image [0] Mc Mr := by
  obtain ⟨T, n, s, laws, sec, grv, W, im, mr, bold, hold, st, hc, hr, hw⟩ := h
  obtain ⟨r, M1, c1, c2, c3⟩ := k_image hc.2.2.2.1
  have R2 := r_image hr.2.1.1 hr.2.1.2.1.1 hr.2.1.2.2.1
  by_cases k : n = 0
  · rw [if_pos k] at R2
    obtain ⟨rfl, rfl⟩ := c2 k
    exact ans_s hc hr hw c1 R2
  · rw [if_neg k] at R2
    obtain ⟨rfl, d1, d2, d3, d4, f⟩ := c3 (by omega)
    obtain ⟨M2, g1, g2, g3, g4⟩ := R2
    obtain ⟨h1, h2, h3, h4, h5, h6, h7, h8, h9, h10, h11, h12, h13, h14, h15⟩ := hc
    obtain ⟨q1, q2, q3, q4, q5, q6, q7, q8, q9, q10, q11⟩ := hr
    have ej := fun j (hj : ¬ j ∈ [0, 26]) => g4 j hj
    have t1 := q1
    obtain ⟨a1, a2, a3⟩ := t1
    refine ⟨_, M1, M2, c1, g1, T, n, s, laws, sec, grv, W, some (s.1, s.2.1, s.2.2.1), mr, bold, hold, st, ⟨TpC_fr h1 f (by decide) (by decide), RowB_fr h2 f (by decide) (by decide) (by decide) (by decide), StaC_fr h3 f (by simp), d1, LawsC_fr h5 f (by decide) (by decide), SecC_fr h6 f (by decide) (by decide) (by decide), GrvC_fr h7 f (by decide) (by decide) (by decide) (by decide), WayC_fr h8 f (by decide) (by decide), fun z => HrC_fr (h9 z) f (by decide), d2, by rw [f.1 44 (by decide) (by decide)]; exact h11, ⟨fun k hk => by rw [f.1 14 (by decide) (by decide)]; exact h12.1 k hk, by rw [d3]; exact h12.2.1, by rw [d3]; exact h12.2.2⟩, by rw [d4 15 (by decide)]; exact h13, by rw [f.2 6 (by decide)]; exact h14, fun k hk => by rw [f.1 51 (by decide) (by decide)]; exact h15 k hk⟩, ⟨⟨by rw [g3 2 (by decide)]; exact a1, a2, fun i hi => by rw [ej 1 (by decide)]; exact a3 i hi⟩, HouM_eq q2 (g3 24 (by decide)) (ej 16 (by decide)) (g3 31 (by decide)) (ej 18 (by decide)), ⟨by rw [g3 13 (by decide)]; exact q3.1, fun w cl hw => LawM_eq (q3.2 w cl hw) (fun j hj => ej j (by simp only [List.mem_cons, List.not_mem_nil, or_false] at hj ⊢; omega))⟩, SecM_eq q4 (g3 38 (by decide)) (ej 20 (by decide)) (ej 21 (by decide)), GrvM_eq q5 (g3 43 (by decide)) (ej 23 (by decide)) (ej 24 (by decide)) (ej 25 (by decide)), WayM_eq q6 (g3 25 (by decide)) (ej 15 (by decide)), g2, fun k hk => by rw [ej 14 (by decide)]; exact q8 k hk, by rw [g3 29 (by decide)]; exact q9, by rw [g3 28 (by decide)]; exact q10, fun k hk => by rw [ej 17 (by decide)]; exact q11 k hk⟩, hw⟩
theorem o_out {Mc Mr : Mem} (h : Rel Mc Mr) {m : Int} (hm : wr m = m) (q : Bool) : Ans ci_X10_out ci_X11_out [0, m, b2i q] Mc Mr := by
  obtain ⟨T, n, s, laws, sec, grv, W, im, mr, bold, hold, st, hc, hr, hw⟩ := h
  obtain ⟨R, ha, hy, hv_, hb, h49, y9, lC, lM, e3, e4⟩ := facts hc hr hw
  obtain ⟨r, M1, c1, c2, c3⟩ := k_out R hc.2.2.2.2.2.1 hm q
  obtain ⟨r2, M2, g1, g2, g3⟩ := r_out hv_.1 hb.1 hr.2.2.2.1 hm q
  cases e : outB n m with
  | false =>
    obtain ⟨rfl, rfl⟩ := c2 e
    obtain ⟨rfl, rfl⟩ := g2 e
    exact ans_s hc hr hw c1 g1
  | true =>
    obtain ⟨rfl, d1, d2, f⟩ := c3 e
    obtain ⟨rfl, p1, p2, p3⟩ := g3 e
    have cb : Mc 0 15 = bold := hc.2.2.2.2.2.2.2.2.2.2.2.2.1
    have c9 : Mc 9 6 = hold := hc.2.2.2.2.2.2.2.2.2.2.2.2.2.1
    have rb : Mr 0 29 = bold := hr.2.2.2.2.2.2.2.2.1
    have r28 : Mr 0 28 = hold := hr.2.2.2.2.2.2.2.2.2.1
    have hg : GrvC M1 grv := by
      have := hc.2.2.2.2.2.2.1
      unfold GrvC at this ⊢
      rw [d2 6 (by decide), f.1 48 (by decide) (by decide), f.1 49 (by decide) (by decide), f.1 50 (by decide) (by decide)]
      exact this
    have u := SvC_upd hc (TpC_fr hc.1 f (by decide) (by decide)) (RowB_fr hc.2.1 f (by decide) (by decide) (by decide) (by decide)) (fun j hj => f.1 j (by simp only [List.mem_cons, List.not_mem_nil, or_false] at hj ⊢; omega) (by simp only [List.mem_cons, List.not_mem_nil, or_false] at hj; omega)) (fun j hj => f.1 j (by simp only [List.mem_cons, List.not_mem_nil, or_false]; omega) (by omega)) (by rw [f.1 0 (by decide) (by decide)]) (LawsC_fr hc.2.2.2.2.1 f (by decide) (by decide)) d1 hg
    obtain ⟨a1, a2, a3⟩ := hr.1
    have ej := fun j (hj : ¬ j ∈ [0, 20, 21]) => p3 j hj
    have t := SvR_upd (M' := M2) hr (T' := T) ⟨by rw [p2 2 (by decide)]; exact a1, a2, fun i hi => by rw [ej 1 (by decide)]; exact a3 i hi⟩ ⟨by rw [p2 13 (by decide)]; exact hr.2.2.1.1, fun w cl hw => LawM_eq (hr.2.2.1.2 w cl hw) (fun j hj => ej j (by simp only [List.mem_cons, List.not_mem_nil, or_false] at hj ⊢; omega))⟩ p1 (GrvM_eq hr.2.2.2.2.1 (p2 43 (by decide)) (ej 23 (by decide)) (ej 24 (by decide)) (ej 25 (by decide))) (fun k hk => p2 k (by simp only [List.mem_cons, List.not_mem_nil, or_false] at hk; omega)) (fun j hj => ej j (by simp only [List.mem_cons, List.not_mem_nil, or_false] at hj ⊢; omega))
    rw [f.1 0 (by decide) (by decide), f.2 6 (by decide), cb, c9] at u
    rw [p2 29 (by decide), p2 28 (by decide), rb, r28] at t
    exact ⟨_, _, _, c1, g1, T, n, s, laws, _, grv, W, im, mr, bold, hold, st, u, t, hw⟩
theorem o_grave {Mc Mr : Mem} (h : Rel Mc Mr) {so a : Int} (hs : wr so = so) (ha_ : wr a = a) (q : Bool) : Ans ci_X10_grave ci_X11_grave [0, so, a, b2i q] Mc Mr := by
  obtain ⟨T, n, s, laws, sec, grv, W, im, mr, bold, hold, st, hc, hr, hw⟩ := h
  obtain ⟨R, ha, hy, hv_, hb, h49, y9, lC, lM, e3, e4⟩ := facts hc hr hw
  obtain ⟨r, M1, c1, c2, c3⟩ := k_grave R hc.2.2.2.2.2.2.1 hs ha_ q
  obtain ⟨r2, M2, g1, g2, g3⟩ := r_grave hv_.1 hb.1 hr.2.2.2.2.1 hs ha_ q
  cases e : grvB n so a with
  | false =>
    obtain ⟨rfl, rfl⟩ := c2 e
    obtain ⟨rfl, rfl⟩ := g2 e
    exact ans_s hc hr hw c1 g1
  | true =>
    obtain ⟨rfl, d1, d2, f⟩ := c3 e
    obtain ⟨rfl, p1, p2, p3⟩ := g3 e
    have cb : Mc 0 15 = bold := hc.2.2.2.2.2.2.2.2.2.2.2.2.1
    have c9 : Mc 9 6 = hold := hc.2.2.2.2.2.2.2.2.2.2.2.2.2.1
    have rb : Mr 0 29 = bold := hr.2.2.2.2.2.2.2.2.1
    have r28 : Mr 0 28 = hold := hr.2.2.2.2.2.2.2.2.2.1
    have hs : SecC M1 sec := by
      have := hc.2.2.2.2.2.1
      unfold SecC at this ⊢
      rw [d2 5 (by decide), f.1 46 (by decide) (by decide), f.1 47 (by decide) (by decide)]
      exact this
    have u := SvC_upd hc (TpC_fr hc.1 f (by decide) (by decide)) (RowB_fr hc.2.1 f (by decide) (by decide) (by decide) (by decide)) (fun j hj => f.1 j (by simp only [List.mem_cons, List.not_mem_nil, or_false] at hj ⊢; omega) (by simp only [List.mem_cons, List.not_mem_nil, or_false] at hj; omega)) (fun j hj => f.1 j (by simp only [List.mem_cons, List.not_mem_nil, or_false]; omega) (by omega)) (by rw [f.1 0 (by decide) (by decide)]) (LawsC_fr hc.2.2.2.2.1 f (by decide) (by decide)) hs d1
    obtain ⟨a1, a2, a3⟩ := hr.1
    have ej := fun j (hj : ¬ j ∈ [0, 23, 24, 25]) => p3 j hj
    have t := SvR_upd (M' := M2) hr (T' := T) ⟨by rw [p2 2 (by decide)]; exact a1, a2, fun i hi => by rw [ej 1 (by decide)]; exact a3 i hi⟩ ⟨by rw [p2 13 (by decide)]; exact hr.2.2.1.1, fun w cl hw => LawM_eq (hr.2.2.1.2 w cl hw) (fun j hj => ej j (by simp only [List.mem_cons, List.not_mem_nil, or_false] at hj ⊢; omega))⟩ (SecM_eq hr.2.2.2.1 (p2 38 (by decide)) (ej 20 (by decide)) (ej 21 (by decide))) p1 (fun k hk => p2 k (by simp only [List.mem_cons, List.not_mem_nil, or_false] at hk; omega)) (fun j hj => ej j (by simp only [List.mem_cons, List.not_mem_nil, or_false] at hj ⊢; omega))
    rw [f.1 0 (by decide) (by decide), f.2 6 (by decide), cb, c9] at u
    rw [p2 29 (by decide), p2 28 (by decide), rb, r28] at t
    exact ⟨_, _, _, c1, g1, T, n, s, laws, sec, _, W, im, mr, bold, hold, st, u, t, hw⟩
section
variable {T T' : List Int} {n : Nat} {s : HS} {laws : LwL} {sec : List Sec} {grv : List Grv} {W : List Wy} {im : Img} {mr : Nat → Int} {bold hold : Int} {st : Nat → Int} {Mc Mr Mc' Mr' : Mem}
/-- the tape alone is another, and the rows for reading -/
theorem SvC_tape {S : List Nat} (hc : SvC T n s laws sec grv W im mr bold hold st Mc) (f : FrC S Mc Mc') (hS : ∀ j, j ∈ S → j ∈ [1, 2, 3, 4, 5, 6, 7, 8]) (hT : TpC Mc' T') (hR : RowB Mc') : SvC T' n s laws sec grv W im mr bold hold st Mc' := by
  have cb : Mc 0 15 = bold := hc.2.2.2.2.2.2.2.2.2.2.2.2.1
  have c9 : Mc 9 6 = hold := hc.2.2.2.2.2.2.2.2.2.2.2.2.2.1
  have no : ∀ j, ¬ j ∈ [1, 2, 3, 4, 5, 6, 7, 8] → ¬ j ∈ S := fun j hj hs => hj (hS j hs)
  have u := SvC_upd hc hT hR (fun j hj => f.1 j (no j (by simp only [List.mem_cons, List.not_mem_nil, or_false] at hj ⊢; omega)) (by simp only [List.mem_cons, List.not_mem_nil, or_false] at hj; omega)) (fun j hj => f.1 j (no j (by simp only [List.mem_cons, List.not_mem_nil, or_false]; omega)) (by omega)) (by rw [f.1 0 (no 0 (by decide)) (by decide)]) (LawsC_fr hc.2.2.2.2.1 f (no _ (by decide)) (no _ (by decide))) (SecC_fr hc.2.2.2.2.2.1 f (no _ (by decide)) (no _ (by decide)) (no _ (by decide))) (GrvC_fr hc.2.2.2.2.2.2.1 f (no _ (by decide)) (no _ (by decide)) (no _ (by decide)) (no _ (by decide)))
  rw [f.1 0 (no 0 (by decide)) (by decide), f.2 6 (by decide), cb, c9] at u
  exact u
theorem SvR_tape (hr : SvR T n s laws sec grv W im mr bold hold st Mr) (hT : TpM Mr' T') (e0 : ∀ k, ¬ k = 2 → ¬ k = 3 → ¬ k = 4 → ¬ k = 5 → ¬ k = 14 → ¬ k = 20 → ¬ k = 21 → Mr' 0 k = Mr 0 k) (ej : ∀ j, ¬ j = 0 → ¬ j = 1 → ¬ j = 2 → ¬ j = 3 → ¬ j = 4 → ¬ j = 5 → ¬ j = 6 → ¬ j = 7 → ¬ j = 8 → ¬ j = 11 → ¬ j = 12 → ¬ j = 13 → Mr' j = Mr j) (hl : ∀ w cl, laws[w]? = some cl → LawM Mr' w cl) : SvR T' n s laws sec grv W im mr bold hold st Mr' := by
  have rb : Mr 0 29 = bold := hr.2.2.2.2.2.2.2.2.1
  have r28 : Mr 0 28 = hold := hr.2.2.2.2.2.2.2.2.2.1
  have e : ∀ k, k ∈ [13, 24, 25, 28, 29, 31, 38, 43, 45] → Mr' 0 k = Mr 0 k := fun k hk => by
    simp only [List.mem_cons, List.not_mem_nil, or_false] at hk
    exact e0 k (by omega) (by omega) (by omega) (by omega) (by omega) (by omega) (by omega)
  have g : ∀ j, j ∈ [14, 15, 16, 17, 18, 20, 21, 23, 24, 25, 26] → Mr' j = Mr j := fun j hj => by
    simp only [List.mem_cons, List.not_mem_nil, or_false] at hj
    exact ej j (by omega) (by omega) (by omega) (by omega) (by omega) (by omega) (by omega) (by omega) (by omega) (by omega) (by omega) (by omega)
  have t := SvR_upd hr hT ⟨by rw [e 13 (by decide)]; exact hr.2.2.1.1, hl⟩ (SecM_eq hr.2.2.2.1 (e 38 (by decide)) (g 20 (by decide)) (g 21 (by decide))) (GrvM_eq hr.2.2.2.2.1 (e 43 (by decide)) (g 23 (by decide)) (g 24 (by decide)) (g 25 (by decide))) (fun k hk => e k (by simp only [List.mem_cons, List.not_mem_nil, or_false] at hk ⊢; omega)) (fun j hj => g j (by simp only [List.mem_cons, List.not_mem_nil, or_false] at hj ⊢; omega))
  rw [e 29 (by decide), e 28 (by decide), rb, r28] at t
  exact t
theorem laws_Y {laws : LwL} {M M' : Mem} (h : LawsM M laws) (f : FrY M M') : ∀ w cl, laws[w]? = some cl → LawM M' w cl := fun w cl hw => LawM_eq (h.2 w cl hw) (fun j hj => f.2 j (by simp only [List.mem_cons, List.not_mem_nil, or_false] at hj; omega) (by simp only [List.mem_cons, List.not_mem_nil, or_false] at hj; omega) (by simp only [List.mem_cons, List.not_mem_nil, or_false] at hj; omega) (by simp only [List.mem_cons, List.not_mem_nil, or_false] at hj; omega))
theorem laws_R {laws : LwL} {M M' : Mem} {q : Nat} (h : LawsM M laws) (f : FrR q M M') (hq : laws.length ≤ q) : ∀ w cl, laws[w]? = some cl → LawM M' w cl := fun w cl hw => LawM_R (h.2 w cl hw) f (fun z => by
  subst z
  rw [List.getElem?_eq_none hq] at hw
  cases hw)
theorem SvR_read {q : Nat} (hr : SvR T n s laws sec grv W im mr bold hold st Mr) (hT : TpM Mr' T') (f : FrY Mr Mr' ∨ (laws.length ≤ q ∧ FrR q Mr Mr')) : SvR T' n s laws sec grv W im mr bold hold st Mr' := by
  rcases f with f | ⟨hq, f⟩
  · exact SvR_tape hr hT (fun k _ b c _ _ d e => f.1 k b c d e) (fun j a _ _ _ _ _ _ _ _ b c d => f.2 j a b c d) (laws_Y hr.2.2.1 f)
  · exact SvR_tape hr hT (fun k _ b c d e _ _ => f.1 k b c d e) (fun j a _ b c d e g i k _ _ _ => f.2.2.2.2 j a b c d e g i k) (laws_R hr.2.2.1 f hq)
end
theorem o_feed {Mc Mr : Mem} (h : Rel Mc Mr) {a b c d e : Int} : Ans ci_X10_feed ci_X11_feed [0, a, b, c, d, e] Mc Mr := by
  obtain ⟨T, n, s, laws, sec, grv, W, im, mr, bold, hold, st, hc, hr, hw⟩ := h
  obtain ⟨r, M1, c1, c2, c3⟩ := k_feed (a := a) (b := b) (c := c) (d := d) (e := e) hc.1
  obtain ⟨g1, g2⟩ := r_feed (a := a) (b := b) (c := c) (d := d) (e := e) hr.1
  by_cases k : 240 < T.length + (fdB a b c d e).length
  · obtain ⟨rfl, rfl⟩ := c2 k
    exact ans_s hc hr hw c1 (g1 k)
  · obtain ⟨rfl, d1, d2⟩ := c3 (by omega)
    obtain ⟨M2, p1, p2, p3, p4⟩ := g2 (by omega)
    exact ⟨_, M1, M2, c1, p1, _, n, s, laws, sec, grv, W, im, mr, bold, hold, st, SvC_tape hc d2 (by simp) d1 (RowB_fr hc.2.1 d2 (by decide) (by decide) (by decide) (by decide)), SvR_tape hr p2 (fun k q _ _ _ _ _ _ => p3 k q) (fun j q1 q2 _ _ _ _ _ _ _ _ _ _ => p4 j (by simp; omega)) (fun w cl hw => LawM_eq (hr.2.2.1.2 w cl hw) (fun j hj => p4 j (by simp only [List.mem_cons, List.not_mem_nil, or_false] at hj ⊢; omega))), hw⟩
theorem o_end {Mc Mr : Mem} (h : Rel Mc Mr) {m : Int} (hm : wr m = m) : Ans ci_X10_end ci_X11_end [0, m] Mc Mr := by
  obtain ⟨T, n, s, laws, sec, grv, W, im, mr, bold, hold, st, hc, hr, hw⟩ := h
  obtain ⟨r, M1, c1, c2, c3⟩ := k_end hc.1 hm
  have R2 := r_end hr.1 hm
  by_cases k : 0 ≤ m ∧ m ≤ T.length
  · rw [if_pos k] at R2
    obtain ⟨rfl, d1, d2⟩ := c3 k
    exact ⟨_, M1, _, c1, R2.1, _, n, s, laws, sec, grv, W, im, mr, bold, hold, st, SvC_tape hc d2 (by simp) d1 (RowB_fr hc.2.1 d2 (by decide) (by decide) (by decide) (by decide)), SvR_tape hr R2.2 (fun k q _ _ _ _ _ _ => by rw [ms_at, if_neg (by omega)]) (fun j q1 _ _ _ _ _ _ _ _ _ _ _ => ms_ne q1) (fun w cl hw => LawM_eq (hr.2.2.1.2 w cl hw) (fun j hj => ms_ne (by simp only [List.mem_cons, List.not_mem_nil, or_false] at hj; omega))), hw⟩
  · rw [if_neg k] at R2
    obtain ⟨rfl, rfl⟩ := c2 k
    exact ans_s hc hr hw c1 R2
theorem o_fault {Mc Mr : Mem} (h : Rel Mc Mr) {w : Int} (hw_ : wr w = w) : Ans ci_X10_fault ci_X11_fault [0, w] Mc Mr := by
  obtain ⟨T, n, s, laws, sec, grv, W, im, mr, bold, hold, st, hc, hr, hw⟩ := h
  obtain ⟨M1, c1, c2, c3, c4⟩ := k_fault hc.1 hc.2.1 hc.2.2.1 hw_
  obtain ⟨M2, g1, g2, g3⟩ := r_fault hr.1 hw_
  exact ⟨_, M1, M2, c1, g1, T, n, s, laws, sec, grv, W, im, mr, bold, hold, st, SvC_tape hc c4 (by simp) c2 c3, SvR_read (q := 4) hr g2 (g3.imp id (fun f => ⟨hc.2.2.2.2.1.2.1, f⟩)), hw⟩
theorem o_text {Mc Mr : Mem} (h : Rel Mc Mr) {w : Int} (hw_ : wr w = w) : Ans ci_X10_text ci_X11_text [0, w] Mc Mr := by
  obtain ⟨T, n, s, laws, sec, grv, W, im, mr, bold, hold, st, hc, hr, hw⟩ := h
  have l4 : laws.length ≤ 4 := hc.2.2.2.2.1.2.1
  cases e : txtB T laws.length w with
  | false =>
    obtain ⟨M1, c1, c2, c3, c4⟩ := k_text2 hc.1 hc.2.1 hc.2.2.1 hc.2.2.2.2.1 hw_ e
    obtain ⟨M2, g1, g2, g3⟩ := r_text2 hr.1 hr.2.2.1.1 l4 hw_ e
    exact ⟨_, M1, M2, c1, g1, T, n, s, laws, sec, grv, W, im, mr, bold, hold, st, SvC_tape hc c4 (by simp) c2 c3, SvR_read (q := laws.length) hr g2 (g3.imp id (fun f => ⟨Nat.le_refl _, f.2⟩)), hw⟩
  | true =>
    have cb : Mc 0 15 = bold := hc.2.2.2.2.2.2.2.2.2.2.2.2.1
    have c9 : Mc 9 6 = hold := hc.2.2.2.2.2.2.2.2.2.2.2.2.2.1
    have rb : Mr 0 29 = bold := hr.2.2.2.2.2.2.2.2.1
    have r28 : Mr 0 28 = hold := hr.2.2.2.2.2.2.2.2.2.1
    unfold txtB at e
    simp only [Bool.or_eq_true, Bool.and_eq_true, decide_eq_true_eq] at e
    rcases e with ⟨rfl, hok⟩ | ⟨⟨rfl, h4⟩, hok⟩
    · obtain ⟨nx, a1, a2, -⟩ := hc.2.2.2.1.1.2.2.2.1
      obtain ⟨M1, c1, c2, c3, ⟨a, c4, c5⟩, c6, c7, c8, c9', c10, c11, c12, c13, c14, c15, f⟩ := k_text0 hc.1 hc.2.1 hc.2.2.1 hc.2.2.2.2.2.2.2.2.2.2.1 ⟨nx, a1, a2⟩ s.2.2.1 hok
      obtain ⟨M2, g1, g2, g3, g4, g5⟩ := r_text0 hr.1 hok
      obtain ⟨ok1, ok2⟩ := milR_ok (T := T)
      obtain ⟨hB, hwh⟩ := ok2 hok
      have m2 := hwh
      generalize (milR T).2.2 = x at *
      have hN := Tak_now g3 hB c5 s.2.2.1
      have hWy := Tak_way g3 hB hwh
      obtain ⟨t1, t2, t3, t4, t5, t6, t7, t8, t9⟩ := g3
      have b1 := hB.1
      have e0 : ∀ k, k ∈ [13, 28, 29] → M2 0 k = Mr 0 k := fun k hk => by
        simp only [List.mem_cons, List.not_mem_nil, or_false] at hk
        exact g4 k (by omega) (by omega) (by omega) (by omega) (by omega) (by omega) (by omega) (by omega) (by omega) (by omega) (by omega)
      have ej : ∀ j, ¬ j = 0 → ¬ j = 11 → ¬ j = 12 → ¬ j = 13 → ¬ j = 14 → ¬ j = 15 → ¬ j = 16 → M2 j = Mr j := g5
      refine ⟨_, M1, M2, c1, g1, [], x.2.2.1, (a, 0, s.2.2.1, []), laws, [], [], wysS x.2.2.2.2.1 x.2.2.2.2.2, none, x.2.1, bold, hold, st, ⟨c2, c3, StaC_fr hc.2.2.1 f (by simp), c4, LawsC_fr hc.2.2.2.2.1 f (by decide) (by decide), c12, c13, c9', fun _ => c10, c14, c11, ⟨c8, c6, c7⟩, by rw [c15]; exact cb, by rw [f.2 6 (by decide)]; exact c9, fun k hk => by rw [f.1 51 (by decide) (by decide)]; exact hc.2.2.2.2.2.2.2.2.2.2.2.2.2.2 k hk⟩, ⟨g2, HouM_of c4 t1 hN ?_, ⟨by rw [e0 13 (by decide)]; exact hr.2.2.1.1, fun w cl hw => LawM_eq (hr.2.2.1.2 w cl hw) (fun j hj => ?_)⟩, ⟨t6, by decide, fun j y hy => by simp at hy⟩, ⟨t7, by decide, fun j y hy => by simp at hy⟩, hWy, t9, t3, by rw [e0 29 (by decide)]; exact rb, by rw [e0 28 (by decide)]; exact r28, fun k hk => by rw [ej 17 (by decide) (by decide) (by decide) (by decide) (by decide) (by decide) (by decide)]; exact hr.2.2.2.2.2.2.2.2.2.2 k hk⟩, ⟨fun k hk => ?_, ⟨?_, ?_⟩, fun _ => ?_, hw.2.2.2⟩⟩
      · exact ⟨t8, Nat.zero_le 40, fun j y hy => by simp at hy⟩
      · simp only [List.mem_cons, List.not_mem_nil, or_false] at hj
        exact ej j (by omega) (by omega) (by omega) (by omega) (by omega) (by omega) (by omega)
      · have := b1 k; have := lo0 k hk; omega
      · have := b1 1; have := (lo0 1 (by decide)).2.2 (Or.inl rfl); omega
      · have := b1 3; have := (lo0 3 (by decide)).2.2 (Or.inr rfl); omega
      · have := b1 0; have := lo0 0 (by decide); omega
    · obtain ⟨M1, c1, c2, c3, c4, c5, f⟩ := k_text1 hc.1 hc.2.1 hc.2.2.2.2.1 h4 hok
      obtain ⟨M2, Mx, g1, g2, g3, g4, g5, g6, g7⟩ := r_text1 hr.1 hr.2.2.1.1 h4 hok
      have hs : SecC M1 sec := by
        have := hc.2.2.2.2.2.1
        unfold SecC at this ⊢
        rw [f 45 (by decide) (by decide) (by decide) (by decide) (by decide) (by decide), f 46 (by decide) (by decide) (by decide) (by decide) (by decide) (by decide), f 47 (by decide) (by decide) (by decide) (by decide) (by decide) (by decide)]
        exact this
      have hg : GrvC M1 grv := by
        have := hc.2.2.2.2.2.2.1
        unfold GrvC at this ⊢
        rw [f 45 (by decide) (by decide) (by decide) (by decide) (by decide) (by decide), f 48 (by decide) (by decide) (by decide) (by decide) (by decide) (by decide), f 49 (by decide) (by decide) (by decide) (by decide) (by decide) (by decide), f 50 (by decide) (by decide) (by decide) (by decide) (by decide) (by decide)]
        exact this
      have u := SvC_upd hc c2 c3 (fun j hj => by
        simp only [List.mem_cons, List.not_mem_nil, or_false] at hj
        exact f j (by omega) (by omega) (by omega) (by omega) (by omega) (by omega)) (fun j hj => f j (by omega) (by omega) (by omega) (by omega) (by omega) (by omega)) (by rw [f 0 (by decide) (by decide) (by decide) (by decide) (by decide) (by decide)]) c4 hs hg
      rw [f 0 (by decide) (by decide) (by decide) (by decide) (by decide) (by decide), c5, cb, c9] at u
      have e0 : ∀ k, k ∈ [24, 25, 28, 29, 31, 38, 43, 45] → M2 0 k = Mr 0 k := fun k hk => by
        simp only [List.mem_cons, List.not_mem_nil, or_false] at hk
        rw [g6 k (by omega) (by omega), g3.1 k (by omega) (by omega) (by omega) (by omega)]
      have ej : ∀ j, j ∈ [14, 15, 16, 17, 18, 20, 21, 23, 24, 25, 26] → M2 j = Mr j := fun j hj => by
        simp only [List.mem_cons, List.not_mem_nil, or_false] at hj
        rw [g7 j (by omega), g3.2.2.2.2 j (by omega) (by omega) (by omega) (by omega) (by omega) (by omega) (by omega) (by omega)]
      have hl : LawsM M2 (laws ++ [(lawR T).2.2]) := by
        refine ⟨by rw [g5, List.length_append]; rfl, fun w cl hw => ?_⟩
        have eq2 : ∀ j, j ∈ [2, 3, 5, 6, 7, 8] → M2 j = Mx j := fun j hj => g7 j (by simp only [List.mem_cons, List.not_mem_nil, or_false] at hj; omega)
        by_cases q : w < laws.length
        · rw [List.getElem?_append_left q] at hw
          exact LawM_eq (laws_R hr.2.2.1 g3 (Nat.le_refl _) w cl hw) eq2
        · rw [List.getElem?_append_right (by omega)] at hw
          have hw1 : w = laws.length := by
            rcases Nat.lt_or_ge (w - laws.length) 1 with z | z
            · omega
            · rw [List.getElem?_eq_none (by simpa using z)] at hw; cases hw
          subst hw1
          rw [Nat.sub_self] at hw
          have hw : (lawR T).2.2 = cl := by simpa using hw
          rw [← hw]
          exact LawM_eq g4 eq2
      have t := SvR_upd hr g2 hl (SecM_eq hr.2.2.2.1 (e0 38 (by decide)) (ej 20 (by decide)) (ej 21 (by decide))) (GrvM_eq hr.2.2.2.2.1 (e0 43 (by decide)) (ej 23 (by decide)) (ej 24 (by decide)) (ej 25 (by decide))) (fun k hk => e0 k (by simp only [List.mem_cons, List.not_mem_nil, or_false] at hk ⊢; omega)) (fun j hj => ej j (by simp only [List.mem_cons, List.not_mem_nil, or_false] at hj ⊢; omega))
      rw [e0 29 (by decide), e0 28 (by decide), rb, r28] at t
      exact ⟨_, M1, M2, c1, g1, [], n, s, _, sec, grv, W, im, mr, bold, hold, st, u, t, hw⟩
