/-! PART 95.o3: the class against the reference: acts. -/
section
variable {T T' : List Int} {n : Nat} {s : HS} {laws laws' : LwL} {sec sec' : List Sec} {grv grv' : List Grv} {W : List Wy} {im : Img} {mr : Nat → Int} {bold hold : Int} {st : Nat → Int} {M M' Mc Mr Mc' Mr' : Mem}
theorem ImgC_eq (h : ImgC M n im) (e0 : M' 0 16 = M 0 16) (ej : ∀ j, j ∈ [15, 19, 20, 24] → M' j = M j) : ImgC M' n im := by
  have e15 := ej 15 (by decide)
  have e19 := ej 19 (by decide)
  have e20 := ej 20 (by decide)
  have e24 := ej 24 (by decide)
  have eh : hv M' 19 = hv M 19 := hv_eq (h := 19) e20
  unfold ImgC WinC ldC at h ⊢
  rw [e0, e15, e19, e24, eh]
  exact h
theorem SvC_upd (h : SvC T n s laws sec grv W im mr bold hold st M) (hT : TpC M' T') (hR : RowB M') (ej : ∀ j, j ∈ [14, 15, 16, 19, 20, 22, 24, 25, 26, 27, 42, 43, 44, 51] → M' j = M j) (eS : ∀ j, 52 ≤ j → M' j = M j) (e0 : M' 0 16 = M 0 16) (hl : LawsC M' laws') (hs : SecC M' sec') (hg : GrvC M' grv') : SvC T' n s laws' sec' grv' W im mr (M' 0 15) (M' 9 6) st M' := by
  obtain ⟨h1, h2, h3, h4, h5, h6, h7, h8, h9, h10, h11, h12, h13, h14, h15⟩ := h
  have e14 := ej 14 (by decide)
  have e15 := ej 15 (by decide)
  have e16 := ej 16 (by decide)
  have e22 := ej 22 (by decide)
  have e25 := ej 25 (by decide)
  have e26 := ej 26 (by decide)
  have e27 := ej 27 (by decide)
  have e42 := ej 42 (by decide)
  have e43 := ej 43 (by decide)
  have e44 := ej 44 (by decide)
  have e51 := ej 51 (by decide)
  have eh : hv M' 15 = hv M 15 := hv_eq (h := 15) e16
  refine ⟨hT, hR, fun q hq k hk => ?_, ?_, hl, hs, hg, ?_, fun z => ?_, ImgC_eq h10 e0 (fun j hj => ej j (by simp only [List.mem_cons, List.not_mem_nil, or_false] at hj ⊢; omega)), by rw [e44]; exact h11, ⟨fun k hk => by rw [e14]; exact h12.1 k hk, by rw [e15]; exact h12.2.1, by rw [e15]; exact h12.2.2⟩, rfl, rfl, fun k hk => by rw [e51]; exact h15 k hk⟩
  · have : 52 ≤ q.1 := by
      have : ∀ q ∈ staV, 52 ≤ q.1 := by decide
      exact this q hq
    rw [eS _ this]
    exact h3 q hq k hk
  · refine ⟨?_, by rw [eh]; exact h4.2⟩
    have hh := h4.1
    have ac : ∀ sl, acC M' sl = acC M sl := fun sl => by unfold acC; rw [e26]
    unfold HouC HsC WinC ldC ActC at hh ⊢
    simp only [ac]
    rw [e15, eh, e22, e25, e27]
    exact hh
  · unfold WayC at h8 ⊢
    rw [e42, e43]
    exact h8
  · have := h9 z
    unfold HrC at this ⊢
    rw [e44]
    exact this
theorem SvR_upd (h : SvR T n s laws sec grv W im mr bold hold st M) (hT : TpM M' T') (hl : LawsM M' laws') (hs : SecM M' sec') (hg : GrvM M' grv') (e0 : ∀ k, k ∈ [24, 25, 31, 45] → M' 0 k = M 0 k) (ej : ∀ j, j ∈ [14, 15, 16, 17, 18, 26] → M' j = M j) : SvR T' n s laws' sec' grv' W im mr (M' 0 29) (M' 0 28) st M' := by
  obtain ⟨h1, h2, h3, h4, h5, h6, h7, h8, h9, h10, h11⟩ := h
  exact ⟨hT, HouM_eq h2 (e0 24 (by decide)) (ej 16 (by decide)) (e0 31 (by decide)) (ej 18 (by decide)), hl, hs, hg, WayM_eq h6 (e0 25 (by decide)) (ej 15 (by decide)), ImgM_eq h7 (e0 45 (by decide)) (ej 26 (by decide)), fun k hk => by rw [ej 14 (by decide)]; exact h8 k hk, rfl, rfl, fun k hk => by rw [ej 17 (by decide)]; exact h11 k hk⟩
theorem HouM_of {s' : HS} (hc : HouS Mc' n s') (e : Mr' 0 24 = (n : Int)) (hN : NowM (Mr' 16) n s'.1 s'.2.1 s'.2.2.1) (hA : ActM Mr' n s'.2.2.1 s'.2.2.2) : HouM Mr' n s' := by
  have hb := hc.1.1.2.1
  rw [hc.2] at hb
  exact ⟨e, hb, hN, hA, hc.1.2.2.2.2.1⟩
/-- an act that is done -/
theorem ans_act {ci cj : CI} {vs : List Int} {r : Int} {s' : HS} {S : List Nat} (hc : SvC T n s laws sec grv W im mr bold hold st Mc) (hr : SvR T n s laws sec grv W im mr bold hold st Mr) (hw : SvW n mr bold) (a : ci.2.2.2.2 vs Mc = some (r, Mc')) (b : cj.2.2.2.2 vs Mr = some (r, Mr')) (hh : HouS Mc' n s') (f : FrC S Mc Mc') (hS : ∀ j, j ∈ S → j ∈ [12, 13, 15, 16, 22, 25, 26, 27]) (e3 : Mc' 15 3 = Mc 15 3) (e4 : Mc' 15 4 = Mc 15 4) (hN : NowM (Mr' 16) n s'.1 s'.2.1 s'.2.2.1) (hA : ActM Mr' n s'.2.2.1 s'.2.2.2) (e0 : ∀ k, ¬ k = 31 → ¬ k = 32 → Mr' 0 k = Mr 0 k) (g : FrM [0, 9, 10, 16, 18] Mr Mr') : Ans ci cj vs Mc Mr :=
  ⟨r, Mc', Mr', a, b, T, n, s', laws, sec, grv, W, im, mr, bold, hold, st, SvC_act hc f hS hh e3 e4, SvR_act hr (HouM_of hh (by rw [e0 24 (by decide) (by decide)]; exact hr.2.1.1) hN hA) e0 g, hw⟩
theorem ans_rf {ci cj : CI} {vs : List Int} {r : Int} {w : Nat} (hc : SvC T n s laws sec grv W im mr bold hold st Mc) (hr : SvR T n s laws sec grv W im mr bold hold st Mr) (hw : SvW n mr bold) (a : ci.2.2.2.2 vs Mc = some (r, rfM Mc w)) (b : cj.2.2.2.2 vs Mr = some (r, ms Mr 17 w (Mr 17 w + 1))) (h5 : w < 5) : Ans ci cj vs Mc Mr := ⟨r, _, _, a, b, Rel_rf hc hr hw h5⟩
end
theorem shwW_lt {n : Nat} {a : Nat → Nat → Int} {l v : Int} {w : Nat} (h : shwW n a l v = some w) : w < 5 := by
  unfold shwW at h
  repeat' split at h
  all_goals first | (cases h; done) | (cases h; decide)
theorem wrnW_lt {n : Nat} {a : Nat → Nat → Int} {l : Int} {w : Nat} (h : wrnW n a l = some w) : w < 5 := by
  unfold wrnW at h
  repeat' split at h
  all_goals first | (cases h; done) | (cases h; decide)
theorem leaW_lt {n : Nat} {a : Nat → Nat → Int} {l : Int} {w : Nat} (h : leaW n a l = some w) : w < 5 := by
  unfold leaW at h
  repeat' split at h
  all_goals first | (cases h; done) | (cases h; decide)
theorem comW_lt {n : Nat} {a : Nat → Nat → Int} {l : Int} {w : Nat} (h : comW n a l = some w) : w < 5 := by
  unfold comW at h
  repeat' split at h
  all_goals first | (cases h; done) | (cases h; decide)
theorem yrsW_lt {n y : Nat} {k : Int} {w : Nat} (h : yrsW n y k = some w) : w < 5 := by
  unfold yrsW at h
  repeat' split at h
  all_goals first | (cases h; done) | (cases h; decide)
theorem fr16 {M M' : Mem} (f : FrM [0, 16, 18] M M') : FrM [0, 9, 10, 16, 18] M M' := fun j hj => f j (by simp at hj ⊢; omega)
theorem o_show {Mc Mr : Mem} (h : Rel Mc Mr) {l v : Int} (hl : wr l = l) (hvv : wr v = v) : Ans ci_X10_show ci_X11_show [0, l, v] Mc Mr := by
  obtain ⟨T, n, s, laws, sec, grv, W, im, mr, bold, hold, st, hc, hr, hw⟩ := h
  obtain ⟨R, ha, hy, hv_, hb, h49, y9, lC, lM, e3, e4⟩ := facts hc hr hw
  obtain ⟨r, M1, c1, c2, c3⟩ := k_show hc.2.2.2.1.1 hl hvv
  rw [ha] at c2 c3
  have R2 := r_show hr.2.1.1 hb hr.2.1.2.2.1 hr.2.1.2.2.2.1 hl hvv
  cases e : shwW n s.1 l v with
  | some w =>
    rw [e] at R2
    obtain ⟨rfl, rfl⟩ := c2 w e
    exact ans_rf hc hr hw c1 R2 (shwW_lt e)
  | none =>
    rw [e] at R2
    obtain ⟨rfl, d1, d2, d3, d4⟩ := c3 e
    obtain ⟨M2, g1, g2, g3, g4, g5⟩ := R2
    exact ans_act (s' := (up2 s.1 l.toNat 1 v, s.2.1, s.2.2.1, kpA s.1 s.2.1 s.2.2.2)) hc hr hw c1 g1 ⟨d1, d2⟩ d4 (by simp) (by rw [d3]) (by rw [d3]) g2 g3 (fun k a _ => g4 k a) (fr16 g5)
theorem o_warn {Mc Mr : Mem} (h : Rel Mc Mr) {l : Int} (hl : wr l = l) : Ans ci_X10_warn ci_X11_warn [0, l] Mc Mr := by
  obtain ⟨T, n, s, laws, sec, grv, W, im, mr, bold, hold, st, hc, hr, hw⟩ := h
  obtain ⟨R, ha, hy, hv_, hb, h49, y9, lC, lM, e3, e4⟩ := facts hc hr hw
  obtain ⟨r, M1, c1, c2, c3⟩ := k_warn hc.2.2.2.1.1 hl
  rw [ha] at c2 c3
  have R2 := r_warn hr.2.1.1 hb hr.2.1.2.2.1 hr.2.1.2.2.2.1 hl
  cases e : wrnW n s.1 l with
  | some w =>
    rw [e] at R2
    obtain ⟨rfl, rfl⟩ := c2 w e
    exact ans_rf hc hr hw c1 R2 (wrnW_lt e)
  | none =>
    rw [e] at R2
    obtain ⟨rfl, d1, d2, d3, d4⟩ := c3 e
    obtain ⟨M2, g1, g2, g3, g4, g5⟩ := R2
    exact ans_act (s' := (up2 s.1 (s.1 l.toNat 3).toNat 6 1, s.2.1, s.2.2.1, kpA s.1 s.2.1 s.2.2.2)) hc hr hw c1 g1 ⟨d1, d2⟩ d4 (by simp) (by rw [d3]) (by rw [d3]) g2 g3 (fun k a _ => g4 k a) (fr16 g5)
theorem o_leave {Mc Mr : Mem} (h : Rel Mc Mr) {l : Int} (hl : wr l = l) : Ans ci_X10_leave ci_X11_leave [0, l] Mc Mr := by
  obtain ⟨T, n, s, laws, sec, grv, W, im, mr, bold, hold, st, hc, hr, hw⟩ := h
  obtain ⟨R, ha, hy, hv_, hb, h49, y9, lC, lM, e3, e4⟩ := facts hc hr hw
  obtain ⟨r, M1, c1, c2, c3⟩ := k_leave hc.2.2.2.1.1 hl
  rw [ha] at c2 c3
  have R2 := r_leave hr.2.1.1 hb hr.2.1.2.2.1 hr.2.1.2.2.2.1 hl
  cases e : leaW n s.1 l with
  | some w =>
    rw [e] at R2
    obtain ⟨rfl, rfl⟩ := c2 w e
    exact ans_rf hc hr hw c1 R2 (leaW_lt e)
  | none =>
    rw [e] at R2
    obtain ⟨rfl, d1, d2, d3, d4⟩ := c3 e
    obtain ⟨M2, g1, g2, g3, g4, g5⟩ := R2
    exact ans_act (s' := (up2 s.1 l.toNat 5 2, s.2.1, s.2.2.1, kpA s.1 s.2.1 s.2.2.2)) hc hr hw c1 g1 ⟨d1, d2⟩ d4 (by simp) (by rw [d3]) (by rw [d3]) g2 g3 (fun k a _ => g4 k a) (fr16 g5)
theorem o_come {Mc Mr : Mem} (h : Rel Mc Mr) {l : Int} (hl : wr l = l) : Ans ci_X10_come ci_X11_come [0, l] Mc Mr := by
  obtain ⟨T, n, s, laws, sec, grv, W, im, mr, bold, hold, st, hc, hr, hw⟩ := h
  obtain ⟨R, ha, hy, hv_, hb, h49, y9, lC, lM, e3, e4⟩ := facts hc hr hw
  obtain ⟨r, M1, c1, c2, c3⟩ := k_come hc.2.2.2.1.1 hl
  rw [ha] at c2 c3
  have R2 := r_come hr.2.1.1 hb hr.2.1.2.2.1 hr.2.1.2.2.2.1 hl
  cases e : comW n s.1 l with
  | some w =>
    rw [e] at R2
    obtain ⟨rfl, rfl⟩ := c2 w e
    exact ans_rf hc hr hw c1 R2 (comW_lt e)
  | none =>
    rw [e] at R2
    obtain ⟨rfl, d1, d2, d3, d4⟩ := c3 e
    obtain ⟨M2, g1, g2, g3, g4, g5⟩ := R2
    exact ans_act (s' := (wlS s.1 l.toNat, s.2.1, s.2.2.1, kpA s.1 s.2.1 s.2.2.2)) hc hr hw c1 g1 ⟨d1, d2⟩ d4 (by simp) (by rw [d3]) (by rw [d3]) g2 g3 (fun k a _ => g4 k a) (fr16 g5)
theorem o_years {Mc Mr : Mem} (h : Rel Mc Mr) {k : Int} (hk : wr k = k) : Ans ci_X10_years ci_X11_years [0, k] Mc Mr := by
  obtain ⟨T, n, s, laws, sec, grv, W, im, mr, bold, hold, st, hc, hr, hw⟩ := h
  obtain ⟨R, ha, hy, hv_, hb, h49, y9, lC, lM, e3, e4⟩ := facts hc hr hw
  obtain ⟨r, M1, c1, c2, c3⟩ := k_years hc.2.2.2.1 lC hk
  rw [e3, e4] at c3
  have R2 := r_years hr.2.1 y9 lM hk
  cases e : yrsW n s.2.1 k with
  | some w =>
    rw [e] at R2
    obtain ⟨rfl, rfl⟩ := c2 w e
    exact ans_rf hc hr hw c1 R2 (yrsW_lt e)
  | none =>
    rw [e] at R2
    obtain ⟨rfl, d1, d2, d3, d4⟩ := c3 e
    obtain ⟨M2, g1, g2, g3, g4⟩ := R2
    exact ans_act hc hr hw c1 g1 d1 d4 (by simp) (by rw [d2, e3]) (by rw [d3, e4]) g2.2.2.1 g2.2.2.2.1 (fun k a _ => g3 k a) g4
theorem o_winters {Mc Mr : Mem} (h : Rel Mc Mr) {k x : Int} (hk : wr k = k) : Ans ci_X10_winters ci_X11_winters [0, k, x] Mc Mr := by
  obtain ⟨T, n, s, laws, sec, grv, W, im, mr, bold, hold, st, hc, hr, hw⟩ := h
  obtain ⟨R, ha, hy, hv_, hb, h49, y9, lC, lM, e3, e4⟩ := facts hc hr hw
  have cb : Mc 0 15 = bold := hc.2.2.2.2.2.2.2.2.2.2.2.2.1
  have rb : Mr 0 29 = bold := hr.2.2.2.2.2.2.2.2.1
  have wb : wr bold = bold := by have := hw.2.2.2; exact wr_id (by omega) (by omega)
  obtain ⟨r, M1, c1, c2, c3⟩ := k_winters (x := x) hc.2.2.2.1 lC (by rw [cb]; exact wb) hk
  rw [e3, e4, cb] at c3
  have R2 := r_winters (x := x) hr.2.1 y9 lM rb wb hk
  cases e : winB n s.2.1 k with
  | false =>
    rw [e, if_neg (by decide)] at R2
    obtain ⟨rfl, rfl⟩ := c2 e
    exact ans_s hc hr hw c1 R2
  | true =>
    rw [e, if_pos rfl] at R2
    obtain ⟨rfl, d1, d2, d3, d4⟩ := c3 e
    obtain ⟨M2, g1, g2, g3, g4⟩ := R2
    exact ans_act hc hr hw c1 g1 d1 d4 (by simp) (by rw [d2, e3]) (by rw [d3, e4]) g2.2.2.1 g2.2.2.2.1 g3 g4
theorem o_undo {Mc Mr : Mem} (h : Rel Mc Mr) : Ans ci_X10_undo ci_X11_undo [0] Mc Mr := by
  obtain ⟨T, n, ⟨sa, sy, sH, sL⟩, laws, sec, grv, W, im, mr, bold, hold, st, hc, hr, hw⟩ := h
  obtain ⟨r, M1, c1, c2, c3⟩ := k_undo hc.2.2.2.1
  match sL, hc, hr, c2, c3 with
  | [], hc, hr, c2, c3 =>
    have R2 := r_undo hr.2.1.2.1.1 hr.2.1.2.2.2.1
    obtain ⟨rfl, rfl⟩ := c2 rfl
    exact ans_s hc hr hw c1 R2
  | x :: L, hc, hr, c2, c3 =>
    have R2 := r_undo hr.2.1.2.1.1 hr.2.1.2.2.2.1
    obtain ⟨rfl, d1, d2, d3, d4⟩ := c3 x L rfl
    obtain ⟨M2, g1, g2, g3, g4, g5⟩ := R2
    exact ans_act hc hr hw c1 g1 d1 d4 (by simp) d2 d3 g2 g3 (fun k a _ => g4 k a) (fun j hj => g5 j (by simp at hj ⊢; omega))
theorem o_back {Mc Mr : Mem} (h : Rel Mc Mr) : Ans ci_X10_back ci_X11_back [0] Mc Mr := by
  obtain ⟨T, n, s, laws, sec, grv, W, im, mr, bold, hold, st, hc, hr, hw⟩ := h
  obtain ⟨r, M1, c1, c2, c3⟩ := k_back hc.2.2.2.1 hc.2.2.2.2.2.2.2.2.2.1
  have R2 := r_back hr.2.1.2.1.1 hr.2.2.2.2.2.2.1
  match im, hc, hr, c2, c3, R2 with
  | none, hc, hr, c2, c3, R2 =>
    obtain ⟨rfl, rfl⟩ := c2 rfl
    exact ans_s hc hr hw c1 R2
  | some q, hc, hr, c2, c3, R2 =>
    obtain ⟨rfl, d1, d2, d3, d4⟩ := c3 q rfl
    obtain ⟨M2, g1, g2, g3, g4, g5⟩ := R2
    exact ans_act hc hr hw c1 g1 d1 d4 (by simp) d2 d3 g2 g3 (fun k a _ => g4 k a) (fun j hj => g5 j (by simp at hj ⊢; omega))
theorem o_bold {Mc Mr : Mem} (h : Rel Mc Mr) {v : Int} (hv' : wr v = v) : Ans ci_X10_bold ci_X11_bold [0, v] Mc Mr := by
  obtain ⟨T, n, s, laws, sec, grv, W, im, mr, bold, hold, st, hc, hr, hw⟩ := h
  have cb : Mc 0 15 = bold := hc.2.2.2.2.2.2.2.2.2.2.2.2.1
  have c9 : Mc 9 6 = hold := hc.2.2.2.2.2.2.2.2.2.2.2.2.2.1
  have rb : Mr 0 29 = bold := hr.2.2.2.2.2.2.2.2.1
  have r28 : Mr 0 28 = hold := hr.2.2.2.2.2.2.2.2.2.1
  have wb : wr bold = bold := by have := hw.2.2.2; exact wr_id (by omega) (by omega)
  have a := k_bold (M := Mc) (by rw [cb]; exact wb) hv'
  have b := r_bold rb wb hv'
  rw [cb] at a
  by_cases k : 0 ≤ v ∧ v ≤ 9 ∧ ¬ v = bold
  · rw [if_pos k, if_pos k] at a
    rw [if_pos ⟨⟨k.1, k.2.1⟩, k.2.2⟩] at b
    have u := SvC_upd (M' := ms Mc 0 15 v) hc (T' := T) (TpC_fr hc.1 (FrC_ms (S := [0]) (by simp) (by decide)) (by decide) (by decide)) (RowB_fr hc.2.1 (FrC_ms (S := [0]) (by simp) (by decide)) (by decide) (by decide) (by decide) (by decide)) (fun j hj => ms_ne (by simp only [List.mem_cons, List.not_mem_nil, or_false] at hj; omega)) (fun j hj => ms_ne (by omega)) (by rw [ms_at, if_neg (by decide)]) (LawsC_fr hc.2.2.2.2.1 (FrC_ms (S := [0]) (by simp) (by decide)) (by decide) (by decide)) (SecC_fr hc.2.2.2.2.2.1 (FrC_ms (S := [0]) (by simp) (by decide)) (by decide) (by decide) (by decide)) (GrvC_fr hc.2.2.2.2.2.2.1 (FrC_ms (S := [0]) (by simp) (by decide)) (by decide) (by decide) (by decide) (by decide))
    have t := SvR_upd (M' := ms Mr 0 29 v) hr (T' := T) (TpM_0 hr.1 (by decide)) ⟨by rw [ms_at, if_neg (by decide)]; exact hr.2.2.1.1, fun w cl hw => LawM_eq (hr.2.2.1.2 w cl hw) (fun j hj => ms_ne (by simp only [List.mem_cons, List.not_mem_nil, or_false] at hj; omega))⟩ (SecM_eq hr.2.2.2.1 (by rw [ms_at, if_neg (by decide)]) (ms_ne (by decide)) (ms_ne (by decide))) (GrvM_eq hr.2.2.2.2.1 (by rw [ms_at, if_neg (by decide)]) (ms_ne (by decide)) (ms_ne (by decide)) (ms_ne (by decide))) (fun k hk => by rw [ms_at, if_neg (by simp only [List.mem_cons, List.not_mem_nil, or_false] at hk; omega)]) (fun j hj => ms_ne (by simp only [List.mem_cons, List.not_mem_nil, or_false] at hj; omega))
    rw [ms_at, if_pos ⟨rfl, rfl⟩, ms_ne (by decide), c9] at u
    rw [ms_at, if_pos ⟨rfl, rfl⟩, ms_at, if_neg (by decide), r28] at t
    exact ⟨1, _, _, a, b, T, n, s, laws, sec, grv, W, im, mr, v, hold, st, u, t, hw.1, hw.2.1, hw.2.2.1, k.1, k.2.1⟩
  · rw [if_neg k, if_neg k] at a
    rw [if_neg (fun z => k ⟨z.1.1, z.1.2, z.2⟩)] at b
    exact ans_s hc hr hw a b
theorem o_law {Mc Mr : Mem} (h : Rel Mc Mr) {w : Int} (hw_ : wr w = w) : Ans ci_X10_law ci_X11_law [0, w] Mc Mr := by
  obtain ⟨T, n, s, laws, sec, grv, W, im, mr, bold, hold, st, hc, hr, hw⟩ := h
  have cb : Mc 0 15 = bold := hc.2.2.2.2.2.2.2.2.2.2.2.2.1
  have rb : Mr 0 29 = bold := hr.2.2.2.2.2.2.2.2.1
  have a := k_law hc.2.2.2.2.1 hw_
  have b := r_hold hr.2.2.1.1 hc.2.2.2.2.1.2.1 hw_
  by_cases k : -1 ≤ w ∧ w < laws.length
  · rw [if_pos k, if_pos k] at a
    rw [if_pos k] at b
    have hl : LawsC (ms Mc 9 6 w) laws := by
      obtain ⟨l1, l2, l3, l4, l5⟩ := hc.2.2.2.2.1
      refine ⟨by rw [ms_at, if_neg (by decide)]; exact l1, l2, fun q cl hq => ?_, by rw [ms_at, if_pos ⟨rfl, rfl⟩]; exact k.1, by rw [ms_at, if_pos ⟨rfl, rfl⟩]; exact k.2⟩
      have := l3 q cl hq
      unfold LawC At at this ⊢
      rw [ms_ne (by decide), ms_ne (by decide)]
      exact this
    have hs : SecC (ms Mc 9 6 w) sec := by
      have := hc.2.2.2.2.2.1
      unfold SecC at this ⊢
      rw [ms_ne (by decide), ms_ne (by decide), ms_ne (by decide)]
      exact this
    have hg : GrvC (ms Mc 9 6 w) grv := by
      have := hc.2.2.2.2.2.2.1
      unfold GrvC at this ⊢
      rw [ms_ne (by decide), ms_ne (by decide), ms_ne (by decide), ms_ne (by decide)]
      exact this
    have hT : TpC (ms Mc 9 6 w) T := by
      have := hc.1
      unfold TpC at this ⊢
      rw [ms_ne (by decide), ms_ne (by decide)]
      exact this
    have hR : RowB (ms Mc 9 6 w) := by
      have := hc.2.1
      unfold RowB at this ⊢
      rw [ms_ne (by decide), ms_ne (by decide), ms_ne (by decide), ms_ne (by decide)]
      exact this
    have u := SvC_upd (M' := ms Mc 9 6 w) hc hT hR (fun j hj => ms_ne (by simp only [List.mem_cons, List.not_mem_nil, or_false] at hj; omega)) (fun j hj => ms_ne (by omega)) (by rw [ms_ne (by decide)]) hl hs hg
    have t := SvR_upd (M' := ms Mr 0 28 w) hr (T' := T) (TpM_0 hr.1 (by decide)) ⟨by rw [ms_at, if_neg (by decide)]; exact hr.2.2.1.1, fun q cl hq => LawM_eq (hr.2.2.1.2 q cl hq) (fun j hj => ms_ne (by simp only [List.mem_cons, List.not_mem_nil, or_false] at hj; omega))⟩ (SecM_eq hr.2.2.2.1 (by rw [ms_at, if_neg (by decide)]) (ms_ne (by decide)) (ms_ne (by decide))) (GrvM_eq hr.2.2.2.2.1 (by rw [ms_at, if_neg (by decide)]) (ms_ne (by decide)) (ms_ne (by decide)) (ms_ne (by decide))) (fun k hk => by rw [ms_at, if_neg (by simp only [List.mem_cons, List.not_mem_nil, or_false] at hk; omega)]) (fun j hj => ms_ne (by simp only [List.mem_cons, List.not_mem_nil, or_false] at hj; omega))
    rw [ms_ne (by decide), ms_at, if_pos ⟨rfl, rfl⟩, cb] at u
    rw [ms_at, if_neg (by decide), ms_at, if_pos ⟨rfl, rfl⟩, rb] at t
    exact ⟨1, _, _, a, b, T, n, s, laws, sec, grv, W, im, mr, bold, w, st, u, t, hw⟩
  · rw [if_neg k, if_neg k] at a
    rw [if_neg k] at b
    exact ans_s hc hr hw a b
