/-! PART 95.o2: the class against the reference: questions. -/
section
variable {T : List Int} {n : Nat} {s : HS} {laws : LwL} {sec : List Sec} {grv : List Grv} {W : List Wy} {im : Img} {mr : Nat → Int} {bold hold : Int} {st : Nat → Int} {Mc Mr Mc' Mr' : Mem}
theorem facts (hc : SvC T n s laws sec grv W im mr bold hold st Mc) (hr : SvR T n s laws sec grv W im mr bold hold st Mr) (hw : SvW n mr bold) : HsC Mc n ∧ hv Mc 15 = s.1 ∧ Mc 15 2 = (s.2.1 : Int) ∧ VwM Mr n s.1 ∧ HB n s.1 ∧ Mr 16 49 = (s.2.1 : Int) ∧ s.2.1 ≤ 999 ∧ HoldC Mc (hoLaw laws hold) ∧ LwP Mr (hoLaw laws hold) (mr 1) (mr 3) ∧ Mc 15 3 = mr 1 ∧ Mc 15 4 = mr 3 := by
  obtain ⟨h1, h2, h3, h4, h5, h6, h7, h8, h9, h10, h11, h12, h13, h14, h15⟩ := hc
  obtain ⟨g1, g2, g3, g4, g5, g6, g7, g8, g9, g10, g11⟩ := hr
  have R := h4.1.1
  have hy := h4.1.2.1
  have lc := LawsC_hold h5
  rw [h14] at lc
  have m1 := hw.1 1 (by decide)
  have m3 := hw.1 3 (by decide)
  exact ⟨R, h4.2, hy, NowM_vw g2.2.2.1 g2.1, g2.2.1, g2.2.2.1.2.2.1, by have := R.2.2.1; omega, lc, ⟨hold_M g3 h5 h14 g10, g8 1 (by decide), g8 3 (by decide), ⟨m1.1, hw.2.1.1⟩, ⟨m3.1, hw.2.1.2⟩⟩, h12.2.1, h12.2.2⟩
theorem ans_q {ci cj : CI} {vs : List Int} {r : Int} {S S' : List Nat} (hc : SvC T n s laws sec grv W im mr bold hold st Mc) (hr : SvR T n s laws sec grv W im mr bold hold st Mr) (hw : SvW n mr bold) (a : ci.2.2.2.2 vs Mc = some (r, Mc')) (b : cj.2.2.2.2 vs Mr = some (r, Mr')) (f : FrC S Mc Mc') (hS : ∀ j, j ∈ S → j ∈ SCR) (g : FrM S' Mr Mr') (hS' : ∀ j, j ∈ S' → j ∈ [9, 10, 19, 22]) : Ans ci cj vs Mc Mr := ⟨r, Mc', Mr', a, b, T, n, s, laws, sec, grv, W, im, mr, bold, hold, st, SvC_scr hc f hS, SvR_scr hr g hS', hw⟩
theorem ans_s {ci cj : CI} {vs : List Int} {r : Int} (hc : SvC T n s laws sec grv W im mr bold hold st Mc) (hr : SvR T n s laws sec grv W im mr bold hold st Mr) (hw : SvW n mr bold) (a : ci.2.2.2.2 vs Mc = some (r, Mc)) (b : cj.2.2.2.2 vs Mr = some (r, Mr)) : Ans ci cj vs Mc Mr := ⟨r, Mc, Mr, a, b, T, n, s, laws, sec, grv, W, im, mr, bold, hold, st, hc, hr, hw⟩
end
theorem Fi_rnd : ∀ (W : List Wy) (K : Int) (D : Nat → Int), Fi K D → (∀ w ∈ W, okW1 w) → K + 9 * (W.length : Int) ≤ 10000 → Fi (K + 9 * (W.length : Int)) (rnd W D)
  | [], K, D, h, _, _ => Fi_up h (by simp)
  | w :: W, K, D, h, ok, hk => by
    rw [List.length_cons] at hk ⊢
    have := Fi_rnd W (K + 9) (wst D w) (Fi_w h (ok w List.mem_cons_self) (by omega)) (fun v hv => ok v (List.mem_cons_of_mem _ hv)) (by omega)
    have e : K + 9 * ((W.length + 1 : Nat) : Int) = K + 9 + 9 * (W.length : Int) := by omega
    rw [e]
    exact this
theorem Fi_itr {W : List Wy} (ok : ∀ w ∈ W, okW1 w) (hl : W.length ≤ 9) : ∀ k : Nat, k ≤ 5 → Fi (81 * (k : Int)) (itr W k)
  | 0, _ => Fi_0 W
  | k + 1, hk => by
    have ih := Fi_itr ok hl k (by omega)
    have := Fi_rnd W _ _ ih ok (by omega)
    exact Fi_up this (by omega)
theorem mas_c {n : Nat} {f g : Nat → Int} {w : Int} (h : ∀ k, k < 4 → f k = g k) : masS n f w = masS n g w := by
  unfold masS
  by_cases e : 0 < n ∧ 0 ≤ w ∧ w < 4
  · rw [if_pos e, if_pos e]
    exact h _ (by omega)
  · rw [if_neg e, if_neg e]
theorem sta_c {f g : Nat → Int} {w : Int} (h : ∀ k, k < 5 → f k = g k) : staS f w = staS g w := by
  unfold staS
  by_cases e : 0 ≤ w ∧ w < 5
  · rw [if_pos e, if_pos e]
    exact h _ (by omega)
  · rw [if_neg e, if_neg e]
theorem o_way {Mc Mr : Mem} (h : Rel Mc Mr) {w x : Int} (hw_ : wr w = w) (hx_ : wr x = x) : Ans ci_X10_way ci_X11_way [0, w, x] Mc Mr := by
  obtain ⟨T, n, s, laws, sec, grv, W, im, mr, bold, hold, st, hc, hr, hw⟩ := h
  obtain ⟨R, ha, hy, hv_, hb, h49, y9, lC, lM, e3, e4⟩ := facts hc hr hw
  have a := k_way hc.2.2.2.2.2.2.2.1 hw_ hx_
  try rw [ha] at a
  try rw [hy] at a
  try rw [e3] at a
  try rw [e4] at a
  have b := r_way hr.2.2.2.2.2.1 hw_ hx_
  exact ans_s hc hr hw a b
theorem o_chosen {Mc Mr : Mem} (h : Rel Mc Mr) : Ans ci_X10_chosen ci_X11_chosen [0] Mc Mr := by
  obtain ⟨T, n, s, laws, sec, grv, W, im, mr, bold, hold, st, hc, hr, hw⟩ := h
  obtain ⟨R, ha, hy, hv_, hb, h49, y9, lC, lM, e3, e4⟩ := facts hc hr hw
  have a := k_chosen R
  try rw [ha] at a
  try rw [hy] at a
  try rw [e3] at a
  try rw [e4] at a
  have b := r_chosenF hv_ hb
  exact ans_s hc hr hw a b
theorem o_order {Mc Mr : Mem} (h : Rel Mc Mr) : Ans ci_X10_order ci_X11_order [0] Mc Mr := by
  obtain ⟨T, n, s, laws, sec, grv, W, im, mr, bold, hold, st, hc, hr, hw⟩ := h
  obtain ⟨R, ha, hy, hv_, hb, h49, y9, lC, lM, e3, e4⟩ := facts hc hr hw
  have a := k_order R
  try rw [ha] at a
  try rw [hy] at a
  try rw [e3] at a
  try rw [e4] at a
  have b := r_order hv_ hb
  exact ans_s hc hr hw a b
theorem o_tells {Mc Mr : Mem} (h : Rel Mc Mr) {l : Int} (hl_ : wr l = l) : Ans ci_X10_tells ci_X11_tells [0, l] Mc Mr := by
  obtain ⟨T, n, s, laws, sec, grv, W, im, mr, bold, hold, st, hc, hr, hw⟩ := h
  obtain ⟨R, ha, hy, hv_, hb, h49, y9, lC, lM, e3, e4⟩ := facts hc hr hw
  have a := k_tells R hl_
  try rw [ha] at a
  try rw [hy] at a
  try rw [e3] at a
  try rw [e4] at a
  have b := r_tells hv_ hb hl_
  exact ans_s hc hr hw a b
theorem o_twins {Mc Mr : Mem} (h : Rel Mc Mr) {i : Int} (hi_ : wr i = i) : Ans ci_X10_twins ci_X11_twins [0, i] Mc Mr := by
  obtain ⟨T, n, s, laws, sec, grv, W, im, mr, bold, hold, st, hc, hr, hw⟩ := h
  obtain ⟨R, ha, hy, hv_, hb, h49, y9, lC, lM, e3, e4⟩ := facts hc hr hw
  have a := k_twins R hi_
  try rw [ha] at a
  try rw [hy] at a
  try rw [e3] at a
  try rw [e4] at a
  have b := r_twins hv_ hb hi_
  exact ans_s hc hr hw a b
theorem o_chain {Mc Mr : Mem} (h : Rel Mc Mr) {l o : Int} (hl_ : wr l = l) (ho_ : wr o = o) : Ans ci_X10_chain ci_X11_chain [0, l, o] Mc Mr := by
  obtain ⟨T, n, s, laws, sec, grv, W, im, mr, bold, hold, st, hc, hr, hw⟩ := h
  obtain ⟨R, ha, hy, hv_, hb, h49, y9, lC, lM, e3, e4⟩ := facts hc hr hw
  have a := k_chain R hl_ ho_
  try rw [ha] at a
  try rw [hy] at a
  try rw [e3] at a
  try rw [e4] at a
  have b := r_chain hv_ hb hl_ ho_
  exact ans_s hc hr hw a b
theorem o_trusts {Mc Mr : Mem} (h : Rel Mc Mr) {l : Int} (hl_ : wr l = l) : Ans ci_X10_trusts ci_X11_trusts [0, l] Mc Mr := by
  obtain ⟨T, n, s, laws, sec, grv, W, im, mr, bold, hold, st, hc, hr, hw⟩ := h
  obtain ⟨R, ha, hy, hv_, hb, h49, y9, lC, lM, e3, e4⟩ := facts hc hr hw
  have a := k_trusts R hl_
  try rw [ha] at a
  try rw [hy] at a
  try rw [e3] at a
  try rw [e4] at a
  have b := r_trusts hv_ hb hl_
  exact ans_s hc hr hw a b
theorem o_friends {Mc Mr : Mem} (h : Rel Mc Mr) {l : Int} (hl_ : wr l = l) : Ans ci_X10_friends ci_X11_friends [0, l] Mc Mr := by
  obtain ⟨T, n, s, laws, sec, grv, W, im, mr, bold, hold, st, hc, hr, hw⟩ := h
  obtain ⟨R, ha, hy, hv_, hb, h49, y9, lC, lM, e3, e4⟩ := facts hc hr hw
  have a := k_friends R hl_
  try rw [ha] at a
  try rw [hy] at a
  try rw [e3] at a
  try rw [e4] at a
  have b := r_friends hv_ hb hl_
  exact ans_s hc hr hw a b
theorem o_ablest {Mc Mr : Mem} (h : Rel Mc Mr) : Ans ci_X10_ablest ci_X11_ablest [0] Mc Mr := by
  obtain ⟨T, n, s, laws, sec, grv, W, im, mr, bold, hold, st, hc, hr, hw⟩ := h
  obtain ⟨R, ha, hy, hv_, hb, h49, y9, lC, lM, e3, e4⟩ := facts hc hr hw
  have a := k_ablest R
  try rw [ha] at a
  try rw [hy] at a
  try rw [e3] at a
  try rw [e4] at a
  have b := r_ablest hv_ hb
  exact ans_s hc hr hw a b
theorem o_oldest {Mc Mr : Mem} (h : Rel Mc Mr) : Ans ci_X10_oldest ci_X11_oldest [0] Mc Mr := by
  obtain ⟨T, n, s, laws, sec, grv, W, im, mr, bold, hold, st, hc, hr, hw⟩ := h
  obtain ⟨R, ha, hy, hv_, hb, h49, y9, lC, lM, e3, e4⟩ := facts hc hr hw
  have a := k_oldest R
  try rw [ha] at a
  try rw [hy] at a
  try rw [e3] at a
  try rw [e4] at a
  have b := r_oldest hv_ hb
  exact ans_s hc hr hw a b
theorem o_hides {Mc Mr : Mem} (h : Rel Mc Mr) {l : Int} (hl_ : wr l = l) : Ans ci_X10_hides ci_X11_hides [0, l] Mc Mr := by
  obtain ⟨T, n, s, laws, sec, grv, W, im, mr, bold, hold, st, hc, hr, hw⟩ := h
  obtain ⟨R, ha, hy, hv_, hb, h49, y9, lC, lM, e3, e4⟩ := facts hc hr hw
  have a := k_hides R hl_
  try rw [ha] at a
  try rw [hy] at a
  try rw [e3] at a
  try rw [e4] at a
  have b := r_hides hv_ hb hl_
  exact ans_s hc hr hw a b
theorem o_dug {Mc Mr : Mem} (h : Rel Mc Mr) : Ans ci_X10_dug ci_X11_dug [0] Mc Mr := by
  obtain ⟨T, n, s, laws, sec, grv, W, im, mr, bold, hold, st, hc, hr, hw⟩ := h
  obtain ⟨R, ha, hy, hv_, hb, h49, y9, lC, lM, e3, e4⟩ := facts hc hr hw
  have a := k_dug R hc.2.2.2.2.2.2.1
  try rw [ha] at a
  try rw [hy] at a
  try rw [e3] at a
  try rw [e4] at a
  have b := r_dug hv_ hb hr.2.2.2.2.1
  exact ans_s hc hr hw a b
theorem o_odds {Mc Mr : Mem} (h : Rel Mc Mr) {l k : Int} (hl_ : wr l = l) (hk_ : wr k = k) : Ans ci_X10_odds ci_X11_odds [0, l, k] Mc Mr := by
  obtain ⟨T, n, s, laws, sec, grv, W, im, mr, bold, hold, st, hc, hr, hw⟩ := h
  obtain ⟨R, ha, hy, hv_, hb, h49, y9, lC, lM, e3, e4⟩ := facts hc hr hw
  have a := k_odds R hl_ hk_
  try rw [ha] at a
  try rw [hy] at a
  try rw [e3] at a
  try rw [e4] at a
  have b := r_odds hv_ hb hl_ hk_
  exact ans_s hc hr hw a b
theorem o_spies {Mc Mr : Mem} (h : Rel Mc Mr) {k i : Int} (hk_ : wr k = k) (hi_ : wr i = i) : Ans ci_X10_spies ci_X11_spies [0, k, i] Mc Mr := by
  obtain ⟨T, n, s, laws, sec, grv, W, im, mr, bold, hold, st, hc, hr, hw⟩ := h
  obtain ⟨R, ha, hy, hv_, hb, h49, y9, lC, lM, e3, e4⟩ := facts hc hr hw
  have a := k_spies R hc.2.2.2.2.2.1 hk_ hi_
  try rw [ha] at a
  try rw [hy] at a
  try rw [e3] at a
  try rw [e4] at a
  have b := r_spies hv_.1 hb.1 hr.2.2.2.1 hk_ hi_
  exact ans_s hc hr hw a b
theorem o_clear {Mc Mr : Mem} (h : Rel Mc Mr) {k : Int} (hk_ : wr k = k) : Ans ci_X10_clear ci_X11_clear [0, k] Mc Mr := by
  obtain ⟨T, n, s, laws, sec, grv, W, im, mr, bold, hold, st, hc, hr, hw⟩ := h
  obtain ⟨R, ha, hy, hv_, hb, h49, y9, lC, lM, e3, e4⟩ := facts hc hr hw
  have a := k_clear R hc.2.2.2.2.2.1 hk_
  try rw [ha] at a
  try rw [hy] at a
  try rw [e3] at a
  try rw [e4] at a
  have b := r_clear hv_.1 hb.1 hr.2.2.2.1 hk_
  exact ans_s hc hr hw a b
theorem o_best {Mc Mr : Mem} (h : Rel Mc Mr) {k : Int} (hk_ : wr k = k) : Ans ci_X10_best ci_X11_best [0, k] Mc Mr := by
  obtain ⟨T, n, s, laws, sec, grv, W, im, mr, bold, hold, st, hc, hr, hw⟩ := h
  obtain ⟨R, ha, hy, hv_, hb, h49, y9, lC, lM, e3, e4⟩ := facts hc hr hw
  have a := k_best R hc.2.2.2.2.2.1 hk_
  try rw [ha] at a
  try rw [hy] at a
  try rw [e3] at a
  try rw [e4] at a
  have b := r_best hv_.1 hb.1 hr.2.2.2.1 hk_
  exact ans_s hc hr hw a b
theorem o_log {Mc Mr : Mem} (h : Rel Mc Mr) {i w : Int} (hi_ : wr i = i) (hw_ : wr w = w) : Ans ci_X10_log ci_X11_log [0, i, w] Mc Mr := by
  obtain ⟨T, n, s, laws, sec, grv, W, im, mr, bold, hold, st, hc, hr, hw⟩ := h
  obtain ⟨R, ha, hy, hv_, hb, h49, y9, lC, lM, e3, e4⟩ := facts hc hr hw
  have a := k_log hc.2.2.2.1 hi_ hw_
  try rw [ha] at a
  try rw [hy] at a
  try rw [e3] at a
  try rw [e4] at a
  have b := r_log hr.2.1.2.2.1 hi_ hw_
  exact ans_s hc hr hw a b
theorem o_learns {Mc Mr : Mem} (h : Rel Mc Mr) {l : Int} (hl_ : wr l = l) : Ans ci_X10_learns ci_X11_learns [0, l] Mc Mr := by
  obtain ⟨T, n, s, laws, sec, grv, W, im, mr, bold, hold, st, hc, hr, hw⟩ := h
  obtain ⟨R, ha, hy, hv_, hb, h49, y9, lC, lM, e3, e4⟩ := facts hc hr hw
  obtain ⟨M1, a, f1⟩ := k_learns R lC hl_
  try rw [ha] at a
  try rw [hy] at a
  try rw [e3] at a
  try rw [e4] at a
  obtain ⟨M2, b, f2⟩ := r_learns hv_ hb lM h49 (by omega) hl_
  exact ans_q hc hr hw a b f1 (fun _ h => h) f2 (by simp)
theorem o_holds {Mc Mr : Mem} (h : Rel Mc Mr) {l : Int} (hl_ : wr l = l) : Ans ci_X10_holds ci_X11_holds [0, l] Mc Mr := by
  obtain ⟨T, n, s, laws, sec, grv, W, im, mr, bold, hold, st, hc, hr, hw⟩ := h
  obtain ⟨R, ha, hy, hv_, hb, h49, y9, lC, lM, e3, e4⟩ := facts hc hr hw
  obtain ⟨M1, a, f1⟩ := k_holds R lC hl_
  try rw [ha] at a
  try rw [hy] at a
  try rw [e3] at a
  try rw [e4] at a
  obtain ⟨M2, b, f2⟩ := r_holds hv_ hb lM h49 (by omega) hl_
  exact ans_q hc hr hw a b f1 (fun _ h => h) f2 (by simp)
theorem o_safe {Mc Mr : Mem} (h : Rel Mc Mr) {l : Int} (hl_ : wr l = l) : Ans ci_X10_safe ci_X11_safe [0, l] Mc Mr := by
  obtain ⟨T, n, s, laws, sec, grv, W, im, mr, bold, hold, st, hc, hr, hw⟩ := h
  obtain ⟨R, ha, hy, hv_, hb, h49, y9, lC, lM, e3, e4⟩ := facts hc hr hw
  obtain ⟨M1, a, f1⟩ := k_safe R hl_
  try rw [ha] at a
  try rw [hy] at a
  try rw [e3] at a
  try rw [e4] at a
  have b := r_safe hv_ hb hl_
  exact ans_q hc hr hw a b f1 (fun _ h => h) (FrM_refl [] Mr) (by simp)
theorem o_game {Mc Mr : Mem} (h : Rel Mc Mr) {o p x y w : Int} (ho_ : wr o = o) (hp_ : wr p = p) (hx_ : wr x = x) (hy_ : wr y = y) (hw_ : wr w = w) : Ans ci_X10_game ci_X11_game [0, o, p, x, y, w] Mc Mr := by
  obtain ⟨T, n, s, laws, sec, grv, W, im, mr, bold, hold, st, hc, hr, hw⟩ := h
  obtain ⟨R, ha, hy, hv_, hb, h49, y9, lC, lM, e3, e4⟩ := facts hc hr hw
  obtain ⟨M1, a, f1⟩ := k_game R lC ho_ hp_ hx_ hy_ hw_
  try rw [ha] at a
  try rw [hy] at a
  try rw [e3] at a
  try rw [e4] at a
  obtain ⟨M2, b, f2⟩ := r_game hv_ hb lM h49 (by omega) ho_ hp_ hx_ hy_ hw_
  exact ans_q hc hr hw a b f1 (fun _ h => h) f2 (by simp)
theorem o_rests {Mc Mr : Mem} (h : Rel Mc Mr) {o p i : Int} (ho_ : wr o = o) (hp_ : wr p = p) (hi_ : wr i = i) : Ans ci_X10_rests ci_X11_rests [0, o, p, i] Mc Mr := by
  obtain ⟨T, n, s, laws, sec, grv, W, im, mr, bold, hold, st, hc, hr, hw⟩ := h
  obtain ⟨R, ha, hy, hv_, hb, h49, y9, lC, lM, e3, e4⟩ := facts hc hr hw
  obtain ⟨M1, a, f1⟩ := k_rests R lC ho_ hp_ hi_
  try rw [ha] at a
  try rw [hy] at a
  try rw [e3] at a
  try rw [e4] at a
  obtain ⟨M2, b, f2⟩ := r_rests hv_ hb lM h49 (by omega) ho_ hp_ hi_
  exact ans_q hc hr hw a b f1 (fun _ h => h) f2 (by simp)
theorem o_flight {Mc Mr : Mem} (h : Rel Mc Mr) {p : Int} (hp_ : wr p = p) : Ans ci_X10_flight ci_X11_flight [0, p] Mc Mr := by
  obtain ⟨T, n, s, laws, sec, grv, W, im, mr, bold, hold, st, hc, hr, hw⟩ := h
  obtain ⟨R, ha, hy, hv_, hb, h49, y9, lC, lM, e3, e4⟩ := facts hc hr hw
  have a := k_flight R hc.2.2.2.2.2.2.2.2.1 hp_
  try rw [ha] at a
  try rw [hy] at a
  try rw [e3] at a
  try rw [e4] at a
  obtain ⟨M2, b, f2⟩ := r_flight hr.2.2.2.2.2.1 hv_.1 hb.1 hp_
  exact ans_q hc hr hw a b (FrC_refl [] Mc) (by simp) f2 (by simp)
theorem o_master {Mc Mr : Mem} (h : Rel Mc Mr) {w : Int} (hw_ : wr w = w) : Ans ci_X10_master ci_X11_master [0, w] Mc Mr := by
  obtain ⟨T, n, s, laws, sec, grv, W, im, mr, bold, hold, st, hc, hr, hw⟩ := h
  obtain ⟨R, ha, hy, hv_, hb, h49, y9, lC, lM, e3, e4⟩ := facts hc hr hw
  have a := k_master R hw_
  have b := r_master hv_.1 hb.1 hw_
  rw [mas_c (g := mr) hc.2.2.2.2.2.2.2.2.2.2.2.1.1] at a
  rw [mas_c (g := mr) hr.2.2.2.2.2.2.2.1] at b
  exact ans_s hc hr hw a b
theorem o_status {Mc Mr : Mem} (h : Rel Mc Mr) {w : Int} (hw_ : wr w = w) : Ans ci_X10_status ci_X11_status [0, w] Mc Mr := by
  obtain ⟨T, n, s, laws, sec, grv, W, im, mr, bold, hold, st, hc, hr, hw⟩ := h
  have a := k_status (M := Mc) hw_
  have b := r_status (M := Mr) rfl hw_
  rw [sta_c (g := st) hc.2.2.2.2.2.2.2.2.2.2.2.2.2.2] at a
  rw [sta_c (g := st) hr.2.2.2.2.2.2.2.2.2.2] at b
  exact ans_s hc hr hw a b
theorem o_dare {Mc Mr : Mem} (h : Rel Mc Mr) : Ans ci_X10_dare ci_X11_dare [0] Mc Mr := by
  obtain ⟨T, n, s, laws, sec, grv, W, im, mr, bold, hold, st, hc, hr, hw⟩ := h
  obtain ⟨R, ha, hy, hv_, hb, h49, y9, lC, lM, e3, e4⟩ := facts hc hr hw
  have c0 : Mc 14 0 = mr 0 := hc.2.2.2.2.2.2.2.2.2.2.2.1.1 0 (by decide)
  have r0 : Mr 14 0 = mr 0 := hr.2.2.2.2.2.2.2.1 0 (by decide)
  have m0 := hw.1 0 (by decide)
  have w0 : wr (mr 0) = mr 0 := wr_id (by omega) (by omega)
  have a := k_dare R (by rw [c0]; exact w0)
  have b := r_dare hv_ hb (by rw [r0]; exact w0)
  rw [ha, c0] at a
  rw [r0] at b
  exact ans_s hc hr hw a b
theorem o_shares {Mc Mr : Mem} (h : Rel Mc Mr) {l : Int} (hl_ : wr l = l) : Ans ci_X10_shares ci_X11_shares [0, l] Mc Mr := by
  obtain ⟨T, n, s, laws, sec, grv, W, im, mr, bold, hold, st, hc, hr, hw⟩ := h
  obtain ⟨R, ha, hy, hv_, hb, h49, y9, lC, lM, e3, e4⟩ := facts hc hr hw
  have c0 : Mc 14 0 = mr 0 := hc.2.2.2.2.2.2.2.2.2.2.2.1.1 0 (by decide)
  have r0 : Mr 14 0 = mr 0 := hr.2.2.2.2.2.2.2.1 0 (by decide)
  have m0 := hw.1 0 (by decide)
  have w0 : wr (mr 0) = mr 0 := wr_id (by omega) (by omega)
  have a := k_shares R hc.2.2.1 (by rw [c0]; exact w0) hl_
  have b := r_shares hv_ hb r0 w0 hw.2.2.1 hl_
  rw [ha, c0] at a
  exact ans_s hc hr hw a b
theorem o_reach {Mc Mr : Mem} (h : Rel Mc Mr) : Ans ci_X10_reach ci_X11_reach [0] Mc Mr := by
  obtain ⟨T, n, s, laws, sec, grv, W, im, mr, bold, hold, st, hc, hr, hw⟩ := h
  obtain ⟨R, ha, hy, hv_, hb, h49, y9, lC, lM, e3, e4⟩ := facts hc hr hw
  have c0 : Mc 14 2 = mr 2 := hc.2.2.2.2.2.2.2.2.2.2.2.1.1 2 (by decide)
  have r0 : Mr 14 2 = mr 2 := hr.2.2.2.2.2.2.2.1 2 (by decide)
  have m0 := hw.1 2 (by decide)
  have w0 : wr (mr 2) = mr 2 := wr_id (by omega) (by omega)
  have a := k_reach R (D := itr W 5) (fun z => ⟨hc.2.2.2.2.2.2.2.2.1 z, Fi_up (Fi_itr (WayM_ok hr.2.2.2.2.2.1) hr.2.2.2.2.2.1.2.1 5 (by decide)) (by decide)⟩) (by rw [c0]; exact w0)
  obtain ⟨M2, b, f2⟩ := r_reach hr.2.2.2.2.2.1 hv_.1 hb.1 r0 (by omega) (by omega)
  rw [c0] at a
  exact ans_q hc hr hw a b (FrC_refl [] Mc) (by simp) f2 (by simp)
theorem o_path {Mc Mr : Mem} (h : Rel Mc Mr) {l k w : Int} (hl_ : wr l = l) (hk_ : wr k = k) (hw_ : wr w = w) : Ans ci_X10_path ci_X11_path [0, l, k, w] Mc Mr := by
  obtain ⟨T, n, s, laws, sec, grv, W, im, mr, bold, hold, st, hc, hr, hw⟩ := h
  obtain ⟨R, ha, hy, hv_, hb, h49, y9, lC, lM, e3, e4⟩ := facts hc hr hw
  obtain ⟨M1, a, f1⟩ := k_path R lC hl_ hk_ hw_
  rw [ha, hy, e3, e4] at a
  obtain ⟨M2, b, b2, f2⟩ := r_path hv_ hb lM h49 (by omega) hl_ hk_ hw_
  exact ⟨_, M1, M2, a, b, T, n, s, laws, sec, grv, W, im, mr, bold, hold, st, SvC_scr hc f1 (fun _ h => h), SvR_0 hr b2 f2, hw⟩
theorem o_count {Mc Mr : Mem} (h : Rel Mc Mr) {w : Int} (hw_ : wr w = w) : Ans ci_X10_count ci_X11_count [0, w] Mc Mr := by
  obtain ⟨T, n, s, laws, sec, grv, W, im, mr, bold, hold, st, hc, hr, hw⟩ := h
  have a := k_count hc.2.2.2.1 hc.1 hc.2.2.2.2.2.2.2.1 hc.2.2.2.2.1 hc.2.2.2.2.2.1 hc.2.2.2.2.2.2.1 hw_
  have b := r_count hr.2.1 hr.1.1 hr.2.2.2.2.2.1 hr.2.2.1.1 hr.2.2.2.1 hr.2.2.2.2.1 hw_
  rw [hc.2.2.2.2.2.2.2.2.2.2.2.2.2.1, hc.2.2.2.2.2.2.2.2.2.2.2.2.1] at a
  rw [hr.2.2.2.2.2.2.2.2.2.1, hr.2.2.2.2.2.2.2.2.1] at b
  exact ans_s hc hr hw a b
