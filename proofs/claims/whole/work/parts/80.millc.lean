/-! PART 80: the class reads mills: items. -/
/-- how the reading stands -/
def InM (T : List Int) (r : Bool × Nat) (M : Mem) : Prop := (r.1 = true → ∃ p, TaC T M p (-1) ∧ skS T p = skS T r.2) ∧ (r.1 = false → ∃ p, TaC T M p (r.2 : Int))
def InMX (T : List Int) (r : Bool × Nat) (M : Mem) : Prop := (r.1 = true → TaC T M (skS T r.2) (-1)) ∧ (r.1 = false → ∃ p, TaC T M p (r.2 : Int))
theorem InMX_M {T : List Int} {r : Bool × Nat} {M : Mem} (h : InMX T r M) : InM T r M := ⟨fun e => ⟨_, h.1 e, skS_idem _ _⟩, h.2⟩
theorem InM_TpC {T : List Int} {r : Bool × Nat} {M : Mem} (h : InM T r M) : TpC M T := by
  cases e : r.1 with
  | true => obtain ⟨p, h1, -⟩ := h.1 e; exact h1.1
  | false => obtain ⟨p, h1⟩ := h.2 e; exact h1.1
theorem TaC_fr {T : List Int} {M M' : Mem} {p : Nat} {b : Int} {S : List Nat} (h : TaC T M p b) (f : FrC S M M') (s1 : ¬ 1 ∈ S) (s2 : ¬ 2 ∈ S) : TaC T M' p b := by
  unfold TaC TpC at *
  rw [f.1 1 s1 (by decide), f.1 2 s2 (by decide)]
  exact h
theorem InM_fr {T : List Int} {r : Bool × Nat} {M M' : Mem} {S : List Nat} (h : InM T r M) (f : FrC S M M') (s1 : ¬ 1 ∈ S) (s2 : ¬ 2 ∈ S) : InM T r M' := ⟨fun e => by
  obtain ⟨p, h1, h2⟩ := h.1 e
  exact ⟨p, TaC_fr h1 f s1 s2, h2⟩, fun e => by
  obtain ⟨p, h1⟩ := h.2 e
  exact ⟨p, TaC_fr h1 f s1 s2⟩⟩
def sgM (T : List Int) (r : Bool × Nat) : Int := if r.1 = true then sgT T r.2 else -1
theorem sgM_rng {T : List Int} {r : Bool × Nat} {M : Mem} (h : InM T r M) : -1 ≤ sgM T r ∧ sgM T r ≤ 255 := by
  unfold sgM
  split
  · exact sgT_rng (InM_TpC h) _
  · omega
theorem m_sign {T : List Int} {r : Bool × Nat} {M : Mem} (h : InM T r M) : ∃ M', ci_X8_sign.2.2.2.2 [1] M = some (sgM T r, M') ∧ FrC [1] M M' ∧ InMX T r M' := by
  unfold sgM
  cases e : r.1 with
  | true =>
    obtain ⟨p, h1, h3⟩ := h.1 e
    have g := c_sign h1.1 h1.2.2.1 (b := -1) (by decide) (by decide)
    rw [← TaC_M h1, if_pos rfl] at g
    have hs := skS_le h1.2.2.1
    refine ⟨_, by rw [g]; unfold sgT; rw [h3]; rfl, Fr_tpM _ _ _, ⟨fun _ => ?_, fun z => by rw [e] at z; cases z⟩⟩
    exact TaC_tpM (q := 0) (c := 0) h1.1 (by omega) (by decide) (by decide)
  | false =>
    obtain ⟨p, h1⟩ := h.2 e
    have g := c_sign h1.1 h1.2.2.1 h1.2.2.2.2.1 h1.2.2.2.2.2
    rw [← TaC_M h1, if_neg (by omega)] at g
    have hs := skS_le h1.2.2.1
    exact ⟨_, g, Fr_tpM _ _ _, ⟨(fun z => by rw [e] at z; cases z), fun _ => ⟨_, TaC_tpM (q := 0) (c := 0) h1.1 (by omega) h1.2.2.2.2.1 h1.2.2.2.2.2⟩⟩⟩
theorem m_step {T : List Int} {r : Bool × Nat} {M : Mem} (h : InMX T r M) (e : r.1 = true) (hc : ¬ sgT T r.2 = -1) : ∃ M', ci_X8_step.2.2.2.2 [1] M = some (0, M') ∧ FrC [1] M M' ∧ TaC T M' (skS T r.2 + 1) (-1) := by
  have h1 := h.1 e
  have g := c_step (M := M) (p := skS T r.2) (b := -1)
  rw [← TaC_M h1] at g
  have hl := sg_lt hc
  exact ⟨_, g, Fr_tpM _ _ _, TaC_tpM (q := 0) (c := 0) h1.1 hl (by decide) (by decide)⟩
theorem m_fail {T : List Int} {r : Bool × Nat} {M : Mem} (h : InMX T r M) : ∃ M', ci_X8_fail.2.2.2.2 [1] M = some (0, M') ∧ FrC [1] M M' ∧ InM T (false, if r.1 = true then skS T r.2 else r.2) M' := by
  cases e : r.1 with
  | true =>
    have h1 := h.1 e
    have g := c_fail (M := M) (p := (skS T r.2 : Nat)) (b := -1) (by decide) (by decide)
    rw [← TaC_M h1, if_pos rfl] at g
    have hlen := TaC_len h1
    have hs := h1.2.2.1
    exact ⟨_, g, Fr_tpM _ _ _, ⟨(fun z => by cases z), fun _ => ⟨_, TaC_tpM (q := 0) (c := 0) h1.1 hs (by omega) (by omega)⟩⟩⟩
  | false =>
    obtain ⟨p, h1⟩ := h.2 e
    have g := c_fail (M := M) (p := (p : Int)) (b := (r.2 : Int)) (by omega) h1.2.2.2.2.2
    rw [← TaC_M h1, if_neg (by omega), ← TaC_M h1] at g
    exact ⟨_, g, FrC_refl _ _, ⟨(fun z => by cases z), fun _ => ⟨p, h1⟩⟩⟩
/-- a number read, held against its bounds, and put -/
theorem m_number {T : List Int} {M : Mem} {q : Nat} (h : TaC T M q (-1)) : ∃ v M' p' b', ci_X8_number.2.2.2.2 [1, 2] M = some (v, M') ∧ FrC [1] M M' ∧ TaC T M' p' b' ∧ 0 ≤ v ∧ v ≤ 99 ∧
    ∀ lo hi : Int, (if b' = -1 then (if v < lo ∨ hi < v then ((p' : Int) - 1) else -1) else b') = (if (nbR T lo hi q).1 = true then -1 else ((nbR T lo hi q).2.1 : Int)) ∧ ((nbR T lo hi q).1 = true → (nbR T lo hi q).2.1 = p' ∧ (nbR T lo hi q).2.2 = v) := by
  have g := c_number h.1 h.2.2.1 (b := -1) (by decide) (by decide) (d := 2) (by decide)
  have g : ci_X8_number.2.2.2.2 [1, 2] _ = _ := g
  rw [← TaC_M h, if_pos rfl, if_pos rfl] at g
  have hs := skS_le h.2.2.1
  have hlen := TaC_len h
  by_cases e : dgB (sgT T q) = true
  · rw [if_pos e, if_pos e] at g
    have hl := sg_lt (T := T) (p := q) (fun z => by rw [z] at e; cases e)
    have h2 := nuS_le2 hl e
    have hv := nuS_two (T := T) 0 (skS T q) (by decide) (by decide)
    by_cases e2 : (nuS T 2 0 (skS T q)).1 = true
    · rw [if_pos e2] at g
      refine ⟨_, _, _, _, g, Fr_tpM _ _ _, TaC_tpM (q := 0) (c := 0) h.1 h2.2 (by decide) (by decide), hv.1, hv.2, fun lo hi => ?_⟩
      unfold nbR
      rw [if_pos e, if_pos e2, if_pos rfl]
      by_cases e3 : (nuS T 2 0 (skS T q)).2.2 < lo ∨ hi < (nuS T 2 0 (skS T q)).2.2
      · rw [if_pos e3, if_pos e3]
        refine ⟨?_, fun z => by cases z⟩
        simp only [Bool.false_eq_true, if_false]
        omega
      · rw [if_neg e3, if_neg e3]
        exact ⟨rfl, fun _ => ⟨rfl, rfl⟩⟩
    · rw [if_neg e2] at g
      refine ⟨_, _, _, _, g, Fr_tpM _ _ _, TaC_tpM (q := 0) (c := 0) h.1 h2.2 (by omega) (by omega), hv.1, hv.2, fun lo hi => ?_⟩
      unfold nbR
      rw [if_pos e, if_neg e2, if_neg (by omega)]
      exact ⟨rfl, fun z => by cases z⟩
  · rw [if_neg e, if_neg e] at g
    refine ⟨_, _, _, _, g, Fr_tpM _ _ _, TaC_tpM (q := 0) (c := 0) h.1 hs.2 (by omega) (by omega), by decide, by decide, fun lo hi => ?_⟩
    unfold nbR
    rw [if_neg e, if_neg (by omega)]
    exact ⟨rfl, fun z => by cases z⟩
theorem testBit_or_pow {had w k : Nat} : (had ||| 2 ^ w).testBit k = (had.testBit k || decide (w = k)) := by
  rw [Nat.testBit_or, Nat.testBit_two_pow]
/-- the loop over items -/
theorem m_items {T : List Int} {s lo hi a na from' len : Nat} (hs : s < 3) (hlen : lenS.getD s 0 = len) (hl6 : len ≤ 6) (alo : arR wC 0 (lo : Int) = some len) (ahi : arR wC 0 (hi : Int) = some len) (aa : arR wC 0 (a : Int) = some na) (pa : arP wC 0 (a : Int) = some na) (hna : from' + len ≤ na) (hna2 : na < 1000) (ha : ¬ a = 1 ∧ ¬ a = 2 ∧ ¬ a = 9 ∧ ¬ lo = a ∧ ¬ hi = a ∧ ¬ lo = 1 ∧ ¬ hi = 1 ∧ ¬ lo = 9 ∧ ¬ hi = 9) :
    ∀ (f i had : Nat) (row : Nat → Int) (r : Bool × Nat) (M : Mem) (x y : Int), i + f = len → had < 64 → InM T r M → (∀ k, k < len → M lo k = loS s k ∧ M hi k = hiS s k) → (∀ k, k < len → 0 ≤ M a (from' + k) ∧ M a (from' + k) ≤ 99) → (r.1 = true → ∀ k, k < len → M a (from' + k) = row k) →
    ∃ ro ρ M', dWh wc1_X6_items wb1_X6_items [1, ((62 + s : Nat) : Int), (lo : Int), (hi : Int), (a : Int), (from' : Int), (had : Int), (i : Int), x, y] M = some (ro, ρ, M') ∧ (ro = none ∨ ro = some 0) ∧ FrC [1, a] M M' ∧ (∀ j, (j < from' ∨ from' + len ≤ j) → M' a j = M a j) ∧ (∀ k, k < len → 0 ≤ M' a (from' + k) ∧ M' a (from' + k) ≤ 99) ∧
      (r.1 = true → InM T ((itR T s f r.2 had row).1, (itR T s f r.2 had row).2.1) M' ∧ ((itR T s f r.2 had row).1 = true → ∀ k, k < len → M' a (from' + k) = (itR T s f r.2 had row).2.2 k)) ∧ (r.1 = false → InM T r M')
  | 0, i, had, row, r, M, x, y, hi', hh, h, hc, hj, hrow => by
    have tx : isTx ((62 + s : Nat) : Int) = true := decide_eq_true (by omega)
    have en : (((62 + s : Nat) : Int)).toNat - 62 = s := by omega
    have sl : ci_Slen.2.2.2.2 [((62 + s : Nat) : Int)] M = some ((len : Int), M) := by
      show (if isTx ((62 + s : Nat) : Int) = true then some (((lenS.getD ((((62 + s : Nat) : Int)).toNat - 62) 0 : Nat) : Int), M) else none) = _
      rw [if_pos tx, en, hlen]
    have rS : recvOk wC ci_Slen [((62 + s : Nat) : Int)] = true := tx
    have wi : wr (i : Int) = i := wr_nat (by omega)
    have wl : wr (len : Int) = len := wr_nat (by omega)
    refine ⟨none, _, M, dWh_end (M1 := M) ?_, Or.inl rfl, FrC_refl _ _, fun _ _ => rfl, hj, fun e => ⟨?_, fun _ => hrow e⟩, fun _ => h⟩
    · simp only [wc1_X6_items, fin, dSeq, dSet, dInc, dIf, dIfE, dRet, dReV, dInt, dLoc, dBin, dDiv, dUn, dFld, dAr, dLen, dRo, dCal, dCon, dBo, dCmp, dCm0, dCmpL, dNul, dAnd, dOr, dNot, dA0, dA1, dDo, dPutF, dUpdF, dPutA, dUpdA, Option.bind_some, Option.bind_none, opF, dvF, dvW, mtF, List.getD_cons_zero, List.getD_cons_succ, List.set_cons_zero, List.set_cons_succ, List.length_cons, List.length_nil, List.headD_cons, List.nil_append, List.cons_append, ite_bind, cmpI, cmpL, wr_0, decide_eq_true_eq, reduceIte, true_and, and_true, false_and, and_false, not_true_eq_false, not_false_eq_true, true_or, or_true, false_or, or_false, Int.cast_ofNat_Int, Int.toNat_natCast, Bool.false_eq_true, Nat.reduceLT, Nat.reduceLeDiff, Nat.reduceAdd, Nat.reduceMul, Nat.reduceSub, Nat.reduceEqDiff, Int.reduceLT, Int.reduceLE, Int.reduceEq, Int.reduceNeg, Int.reduceAdd, Int.reduceMul, Int.reduceSub, Int.reduceToNat, Bool.not_true, Bool.not_false, Bool.not_eq_true, Bool.not_eq_eq_eq_not, decide_true, decide_false, ne_eq, reduceCtorEq, ms_eq, id_eq, Option.map_some, Nat.lt_add_one, Nat.zero_lt_succ, rS, sl, wi, wl]
      rw [decide_eq_false (by omega)]
    · have : r = (true, r.2) := by rw [← e]
      rw [this] at h
      exact h
  | f + 1, i, had, row, r, M, x, y, hi', hh, h, hc, hj, hrow => by
    have tx : isTx ((62 + s : Nat) : Int) = true := decide_eq_true (by omega)
    have en : (((62 + s : Nat) : Int)).toNat - 62 = s := by omega
    have sl : ci_Slen.2.2.2.2 [((62 + s : Nat) : Int)] M = some ((len : Int), M) := by
      show (if isTx ((62 + s : Nat) : Int) = true then some (((lenS.getD ((((62 + s : Nat) : Int)).toNat - 62) 0 : Nat) : Int), M) else none) = _
      rw [if_pos tx, en, hlen]
    have rS : recvOk wC ci_Slen [((62 + s : Nat) : Int)] = true := tx
    have wi : wr (i : Int) = i := wr_nat (by omega)
    have wl : wr (len : Int) = len := wr_nat (by omega)
    have hcond : wc1_X6_items [1, ((62 + s : Nat) : Int), (lo : Int), (hi : Int), (a : Int), (from' : Int), (had : Int), (i : Int), x, y] M = some (true, M) := by
      simp only [wc1_X6_items, fin, dSeq, dSet, dInc, dIf, dIfE, dRet, dReV, dInt, dLoc, dBin, dDiv, dUn, dFld, dAr, dLen, dRo, dCal, dCon, dBo, dCmp, dCm0, dCmpL, dNul, dAnd, dOr, dNot, dA0, dA1, dDo, dPutF, dUpdF, dPutA, dUpdA, Option.bind_some, Option.bind_none, opF, dvF, dvW, mtF, List.getD_cons_zero, List.getD_cons_succ, List.set_cons_zero, List.set_cons_succ, List.length_cons, List.length_nil, List.headD_cons, List.nil_append, List.cons_append, ite_bind, cmpI, cmpL, wr_0, decide_eq_true_eq, reduceIte, true_and, and_true, false_and, and_false, not_true_eq_false, not_false_eq_true, true_or, or_true, false_or, or_false, Int.cast_ofNat_Int, Int.toNat_natCast, Bool.false_eq_true, Nat.reduceLT, Nat.reduceLeDiff, Nat.reduceAdd, Nat.reduceMul, Nat.reduceSub, Nat.reduceEqDiff, Int.reduceLT, Int.reduceLE, Int.reduceEq, Int.reduceNeg, Int.reduceAdd, Int.reduceMul, Int.reduceSub, Int.reduceToNat, Bool.not_true, Bool.not_false, Bool.not_eq_true, Bool.not_eq_eq_eq_not, decide_true, decide_false, ne_eq, reduceCtorEq, ms_eq, id_eq, Option.map_some, Nat.lt_add_one, Nat.zero_lt_succ, rS, sl, wi, wl]
      rw [decide_eq_true (by omega)]
    obtain ⟨M1, a1, a2, a3⟩ := m_sign h
    have hr := sgM_rng h
    have gp := c_placeIn (s := s) (by omega) (M := M1) (c := sgM T r) (wr_id (by omega) (by omega))
    have pr := plS_rng (s := s) (by omega) (sgM T r)
    rw [hlen] at pr
    -- nothing more
    have stop : ∀ w : Int, plS s (sgM T r) = w → (w = -1 ∨ had.testBit w.toNat = true) → wb1_X6_items [1, ((62 + s : Nat) : Int), (lo : Int), (hi : Int), (a : Int), (from' : Int), (had : Int), (i : Int), x, y] M = some (some 0, [1, ((62 + s : Nat) : Int), (lo : Int), (hi : Int), (a : Int), (from' : Int), (had : Int), (i : Int), w, y], M1) := fun w hw hs2 => by
      rw [hw] at gp pr
      have ww : wr w = w := wr_id (by omega) (by omega)
      by_cases e1 : w = -1
      · subst e1
        simp only [wb1_X6_items, fin, dSeq, dSet, dInc, dIf, dIfE, dRet, dReV, dInt, dLoc, dBin, dDiv, dUn, dFld, dAr, dLen, dRo, dCal, dCon, dBo, dCmp, dCm0, dCmpL, dNul, dAnd, dOr, dNot, dA0, dA1, dDo, dPutF, dUpdF, dPutA, dUpdA, Option.bind_some, Option.bind_none, opF, dvF, dvW, mtF, List.getD_cons_zero, List.getD_cons_succ, List.set_cons_zero, List.set_cons_succ, List.length_cons, List.length_nil, List.headD_cons, List.nil_append, List.cons_append, ite_bind, cmpI, cmpL, wr_0, decide_eq_true_eq, reduceIte, true_and, and_true, false_and, and_false, not_true_eq_false, not_false_eq_true, true_or, or_true, false_or, or_false, Int.cast_ofNat_Int, Int.toNat_natCast, Bool.false_eq_true, Nat.reduceLT, Nat.reduceLeDiff, Nat.reduceAdd, Nat.reduceMul, Nat.reduceSub, Nat.reduceEqDiff, Int.reduceLT, Int.reduceLE, Int.reduceEq, Int.reduceNeg, Int.reduceAdd, Int.reduceMul, Int.reduceSub, Int.reduceToNat, Bool.not_true, Bool.not_false, Bool.not_eq_true, Bool.not_eq_eq_eq_not, decide_true, decide_false, ne_eq, reduceCtorEq, ms_eq, id_eq, Option.map_some, Nat.lt_add_one, Nat.zero_lt_succ, obC0, isC0, obC1, isC1, arC2, apC2, obC3, isC3, arC4, apC4, arC5, apC5, arC6, apC6, obC7, isC7, arC8, apC8, obC9, isC9, arC10, apC10, arC11, apC11, arC12, apC12, arC13, apC13, arC14, apC14, obC15, isC15, arC16, apC16, obC17, isC17, arC18, apC18, obC19, isC19, arC20, apC20, obC21, isC21, arC22, apC22, obC23, isC23, arC24, apC24, obC25, isC25, arC26, apC26, arC27, apC27, obC28, isC28, roC29, obC30, isC30, arC31, apC31, obC32, isC32, arC33, apC33, obC34, isC34, arC35, apC35, obC36, isC36, arC37, apC37, obC38, isC38, arC39, apC39, obC40, isC40, arC41, apC41, obC42, isC42, arC43, apC43, arC44, apC44, obC45, isC45, arC46, apC46, arC47, apC47, arC48, apC48, arC49, apC49, arC50, apC50, arC51, apC51, arC52, arC53, arC54, arC55, arC56, arC57, arC58, arC59, arC60, arC61, rc_X10_filled, rc_X10_put, rc_X8_addWord, rc_X10_feed, rc_X10_end, rc_X8_begin, rc_X10_move, rc_X8_sign, rc_X8_step, rc_X10_placeIn, rc_X10_isDigit, rc_X8_failAt, rc_X8_fail, rc_X10_at, rc_X8_number, rc_X6_items, rc_X6_clause, rc_X8_wantOver, rc_X6_item, rc_X6_isWhole, rc_X6_read, rc_X8_want, rc_X3_write, rc_X3_mayNest, rc_X3_atom, rc_X3_sum, rc_X3_term, rc_X3_isRelation, rc_X3_condition, rc_X3_nested, rc_X3_truth, rc_X3_unit, rc_X3_clause, rc_X3_read, rc_X10_fault, rc_X2_set, rc_X2_settle, rc_X7_shorten, rc_X7_build, rc_X1_forget, rc_X0_forget, rc_X10_found, rc_X4_add, rc_X10_text, rc_X10_isTold, rc_X10_master, rc_X10_way, rc_X10_law, rc_X2_has, rc_X2_get, rc_X2_lives, rc_X10_refuse, rc_X0_keep, rc_X2_fear, rc_X10_show, rc_X10_warn, rc_X2_living, rc_J6_bitCount_0f7a4C, rc_X2_manyLive, rc_X10_leave, rc_X2_welcome, rc_X10_come, rc_X10_within, rc_X4_pop, rc_X4_push, rc_X4_result, rc_X4_held, rc_X4_work, rc_X4_worth, rc_X4_lessonOf, rc_X2_grow, rc_X2_mostFeared, rc_X2_pass, rc_X2_artOf, rc_X2_artOfAll, rc_X5_write, rc_X10_passYear, rc_X10_years, rc_X10_bold, rc_X10_stepped, rc_X10_drawn, rc_X10_showByDraws, rc_X10_comeByDraws, rc_X10_winters, rc_X10_status, rc_X0_takeBack, rc_X10_undo, rc_X10_logLength, rc_X5_read, rc_X10_log, rc_X2_copy, rc_X5_copy, rc_X10_image, rc_X10_back, rc_X10_chosen, rc_X2_rankedByFear, rc_X10_order, rc_X10_safe, rc_X9_stepAt, rc_X9_tread, rc_X9_search, rc_X10_path, rc_X10_holds, rc_X2_lotsOfAll, rc_X10_odds, rc_X10_learns, rc_X2_befriending, rc_X2_signs, rc_X2_differsFromAll, rc_X2_tellingSigns, rc_X10_tells, rc_X2_areTwins, rc_X10_twins, rc_X2_stepsBetween, rc_X10_chain, rc_X2_trusted, rc_X10_trusts, rc_X10_friends, rc_X1_addSecret, rc_X10_out, rc_X10_asksForSpies, rc_X1_fits, rc_X1_fits_, rc_X1_manyFitting, rc_X1_fitting, rc_X10_spies, rc_X1_manyFittingWith, rc_X10_clear, rc_X10_best, rc_X1_addGrave, rc_X10_grave, rc_X1_couldDig, rc_X1_diggers, rc_X10_dug, rc_X7_hoursTo, rc_X10_flight, rc_X10_reach, rc_X2_fewestWith, rc_X10_dare, rc_X2_turningOrders, rc_X10_shares, rc_X10_canPlay, rc_X10_played, rc_X10_game, rc_X10_isRest, rc_X10_rests, rc_X2_mostOf, rc_X10_ablest, rc_X10_oldest, rc_X10_hides, rc_X2_warned, rc_X10_count, fv_0_0, fv_0_1, fv_0_2, fv_0_3, fv_1_0, fv_1_1, fv_1_2, fv_1_3, fv_1_4, fv_1_5, fv_1_6, fv_2_0, fv_2_1, fv_2_2, fv_2_3, fv_2_4, fv_3_0, fv_3_1, fv_4_0, fv_4_1, fv_4_2, fv_4_3, fv_4_4, fv_4_5, fv_4_6, fv_5_0, fv_6_0, fv_6_1, fv_6_2, fv_6_3, fv_6_4, fv_6_5, fv_7_0, fv_7_1, fv_7_2, fv_8_0, fv_8_1, fv_8_2, fv_8_3, fv_9_0, fv_9_1, fv_9_2, fv_10_0, fv_10_1, fv_10_2, fv_10_3, fv_10_4, fv_10_5, fv_10_6, fv_10_7, fv_10_8, fv_10_9, fv_10_10, fv_10_11, fv_10_12, fv_10_13, fv_10_14, fv_10_15, fv_10_16, fv_11_0, fv_11_1, fv_11_2, fv_11_3, fv_11_4, fv_11_5, fv_11_6, fv_11_7, fv_11_8, fv_11_9, fv_11_10, fv_11_11, fv_11_12, fv_11_13, fv_11_14, fv_11_15, fv_11_16, fv_11_17, fv_11_18, fv_11_19, fv_11_20, fv_11_21, fv_11_22, fv_11_23, fv_11_24, fv_11_25, fv_11_26, fv_11_27, fv_11_28, fv_11_29, fv_11_30, fv_11_31, fv_11_32, fv_11_33, fv_11_34, fv_11_35, fv_11_36, fv_11_37, fv_11_38, fv_11_39, fv_11_40, fv_11_41, fv_11_42, fv_11_43, fv_11_44, fv_11_45, ft_0_2, ft_0_3, ft_1_5, ft_1_6, ft_2_1, ft_2_2, ft_2_3, ft_2_4, ft_3_1, ft_4_4, ft_4_5, ft_4_6, ft_6_3, ft_6_4, ft_6_5, ft_7_2, ft_8_1, ft_8_2, ft_8_3, ft_9_1, ft_9_2, ft_10_15, ft_10_16, ft_11_0, ft_11_2, ft_11_3, ft_11_4, ft_11_5, ft_11_13, ft_11_14, ft_11_20, ft_11_21, ft_11_24, ft_11_25, ft_11_28, ft_11_29, ft_11_31, ft_11_32, ft_11_34, ft_11_35, ft_11_38, ft_11_43, ft_11_45, a1, gp, wk_1, wk_2, wk_3, wk_4, wk_5, wk_6, wk_7, wk_8, wk_9, wk_10, wk_11, wk_12, wk_14, wk_16, wk_19, wk_20, wk_24, wk_30, wk_32, wk_33, wk_38, wk_39, wk_40, wk_41, wk_42, wk_43, wk_45, wk_47, wk_48, wk_49, wk_50, wk_55, wk_57, wk_58, wk_59, wk_60, wk_61, wk_62, wk_63, wk_64, wk_80, wk_91, wk_93, wk_97, wk_98, wk_99, wk_100, wk_101, wk_102, wk_103, wk_104, wk_107, wk_108, wk_110, wk_111, wk_112, wk_115, wk_119, wk_121, wk_124, wk_140, wk_200, wk_231, wk_240, wk_255, wk_300, wk_520, wk_999, wk_1000, wk_1000000, wk_10000, wk_20000, wk_10033, wk_10059, wk_10063, wk_m1, wk_m2]
      · have hb := b_ubit (m := had) (i := w.toNat) (by omega) (by omega)
        rw [show ((w.toNat : Nat) : Int) = w by omega, hs2.resolve_left e1, if_pos rfl] at hb
        simp only [wb1_X6_items, fin, dSeq, dSet, dInc, dIf, dIfE, dRet, dReV, dInt, dLoc, dBin, dDiv, dUn, dFld, dAr, dLen, dRo, dCal, dCon, dBo, dCmp, dCm0, dCmpL, dNul, dAnd, dOr, dNot, dA0, dA1, dDo, dPutF, dUpdF, dPutA, dUpdA, Option.bind_some, Option.bind_none, opF, dvF, dvW, mtF, List.getD_cons_zero, List.getD_cons_succ, List.set_cons_zero, List.set_cons_succ, List.length_cons, List.length_nil, List.headD_cons, List.nil_append, List.cons_append, ite_bind, cmpI, cmpL, wr_0, decide_eq_true_eq, reduceIte, true_and, and_true, false_and, and_false, not_true_eq_false, not_false_eq_true, true_or, or_true, false_or, or_false, Int.cast_ofNat_Int, Int.toNat_natCast, Bool.false_eq_true, Nat.reduceLT, Nat.reduceLeDiff, Nat.reduceAdd, Nat.reduceMul, Nat.reduceSub, Nat.reduceEqDiff, Int.reduceLT, Int.reduceLE, Int.reduceEq, Int.reduceNeg, Int.reduceAdd, Int.reduceMul, Int.reduceSub, Int.reduceToNat, Bool.not_true, Bool.not_false, Bool.not_eq_true, Bool.not_eq_eq_eq_not, decide_true, decide_false, ne_eq, reduceCtorEq, ms_eq, id_eq, Option.map_some, Nat.lt_add_one, Nat.zero_lt_succ, obC0, isC0, obC1, isC1, arC2, apC2, obC3, isC3, arC4, apC4, arC5, apC5, arC6, apC6, obC7, isC7, arC8, apC8, obC9, isC9, arC10, apC10, arC11, apC11, arC12, apC12, arC13, apC13, arC14, apC14, obC15, isC15, arC16, apC16, obC17, isC17, arC18, apC18, obC19, isC19, arC20, apC20, obC21, isC21, arC22, apC22, obC23, isC23, arC24, apC24, obC25, isC25, arC26, apC26, arC27, apC27, obC28, isC28, roC29, obC30, isC30, arC31, apC31, obC32, isC32, arC33, apC33, obC34, isC34, arC35, apC35, obC36, isC36, arC37, apC37, obC38, isC38, arC39, apC39, obC40, isC40, arC41, apC41, obC42, isC42, arC43, apC43, arC44, apC44, obC45, isC45, arC46, apC46, arC47, apC47, arC48, apC48, arC49, apC49, arC50, apC50, arC51, apC51, arC52, arC53, arC54, arC55, arC56, arC57, arC58, arC59, arC60, arC61, rc_X10_filled, rc_X10_put, rc_X8_addWord, rc_X10_feed, rc_X10_end, rc_X8_begin, rc_X10_move, rc_X8_sign, rc_X8_step, rc_X10_placeIn, rc_X10_isDigit, rc_X8_failAt, rc_X8_fail, rc_X10_at, rc_X8_number, rc_X6_items, rc_X6_clause, rc_X8_wantOver, rc_X6_item, rc_X6_isWhole, rc_X6_read, rc_X8_want, rc_X3_write, rc_X3_mayNest, rc_X3_atom, rc_X3_sum, rc_X3_term, rc_X3_isRelation, rc_X3_condition, rc_X3_nested, rc_X3_truth, rc_X3_unit, rc_X3_clause, rc_X3_read, rc_X10_fault, rc_X2_set, rc_X2_settle, rc_X7_shorten, rc_X7_build, rc_X1_forget, rc_X0_forget, rc_X10_found, rc_X4_add, rc_X10_text, rc_X10_isTold, rc_X10_master, rc_X10_way, rc_X10_law, rc_X2_has, rc_X2_get, rc_X2_lives, rc_X10_refuse, rc_X0_keep, rc_X2_fear, rc_X10_show, rc_X10_warn, rc_X2_living, rc_J6_bitCount_0f7a4C, rc_X2_manyLive, rc_X10_leave, rc_X2_welcome, rc_X10_come, rc_X10_within, rc_X4_pop, rc_X4_push, rc_X4_result, rc_X4_held, rc_X4_work, rc_X4_worth, rc_X4_lessonOf, rc_X2_grow, rc_X2_mostFeared, rc_X2_pass, rc_X2_artOf, rc_X2_artOfAll, rc_X5_write, rc_X10_passYear, rc_X10_years, rc_X10_bold, rc_X10_stepped, rc_X10_drawn, rc_X10_showByDraws, rc_X10_comeByDraws, rc_X10_winters, rc_X10_status, rc_X0_takeBack, rc_X10_undo, rc_X10_logLength, rc_X5_read, rc_X10_log, rc_X2_copy, rc_X5_copy, rc_X10_image, rc_X10_back, rc_X10_chosen, rc_X2_rankedByFear, rc_X10_order, rc_X10_safe, rc_X9_stepAt, rc_X9_tread, rc_X9_search, rc_X10_path, rc_X10_holds, rc_X2_lotsOfAll, rc_X10_odds, rc_X10_learns, rc_X2_befriending, rc_X2_signs, rc_X2_differsFromAll, rc_X2_tellingSigns, rc_X10_tells, rc_X2_areTwins, rc_X10_twins, rc_X2_stepsBetween, rc_X10_chain, rc_X2_trusted, rc_X10_trusts, rc_X10_friends, rc_X1_addSecret, rc_X10_out, rc_X10_asksForSpies, rc_X1_fits, rc_X1_fits_, rc_X1_manyFitting, rc_X1_fitting, rc_X10_spies, rc_X1_manyFittingWith, rc_X10_clear, rc_X10_best, rc_X1_addGrave, rc_X10_grave, rc_X1_couldDig, rc_X1_diggers, rc_X10_dug, rc_X7_hoursTo, rc_X10_flight, rc_X10_reach, rc_X2_fewestWith, rc_X10_dare, rc_X2_turningOrders, rc_X10_shares, rc_X10_canPlay, rc_X10_played, rc_X10_game, rc_X10_isRest, rc_X10_rests, rc_X2_mostOf, rc_X10_ablest, rc_X10_oldest, rc_X10_hides, rc_X2_warned, rc_X10_count, fv_0_0, fv_0_1, fv_0_2, fv_0_3, fv_1_0, fv_1_1, fv_1_2, fv_1_3, fv_1_4, fv_1_5, fv_1_6, fv_2_0, fv_2_1, fv_2_2, fv_2_3, fv_2_4, fv_3_0, fv_3_1, fv_4_0, fv_4_1, fv_4_2, fv_4_3, fv_4_4, fv_4_5, fv_4_6, fv_5_0, fv_6_0, fv_6_1, fv_6_2, fv_6_3, fv_6_4, fv_6_5, fv_7_0, fv_7_1, fv_7_2, fv_8_0, fv_8_1, fv_8_2, fv_8_3, fv_9_0, fv_9_1, fv_9_2, fv_10_0, fv_10_1, fv_10_2, fv_10_3, fv_10_4, fv_10_5, fv_10_6, fv_10_7, fv_10_8, fv_10_9, fv_10_10, fv_10_11, fv_10_12, fv_10_13, fv_10_14, fv_10_15, fv_10_16, fv_11_0, fv_11_1, fv_11_2, fv_11_3, fv_11_4, fv_11_5, fv_11_6, fv_11_7, fv_11_8, fv_11_9, fv_11_10, fv_11_11, fv_11_12, fv_11_13, fv_11_14, fv_11_15, fv_11_16, fv_11_17, fv_11_18, fv_11_19, fv_11_20, fv_11_21, fv_11_22, fv_11_23, fv_11_24, fv_11_25, fv_11_26, fv_11_27, fv_11_28, fv_11_29, fv_11_30, fv_11_31, fv_11_32, fv_11_33, fv_11_34, fv_11_35, fv_11_36, fv_11_37, fv_11_38, fv_11_39, fv_11_40, fv_11_41, fv_11_42, fv_11_43, fv_11_44, fv_11_45, ft_0_2, ft_0_3, ft_1_5, ft_1_6, ft_2_1, ft_2_2, ft_2_3, ft_2_4, ft_3_1, ft_4_4, ft_4_5, ft_4_6, ft_6_3, ft_6_4, ft_6_5, ft_7_2, ft_8_1, ft_8_2, ft_8_3, ft_9_1, ft_9_2, ft_10_15, ft_10_16, ft_11_0, ft_11_2, ft_11_3, ft_11_4, ft_11_5, ft_11_13, ft_11_14, ft_11_20, ft_11_21, ft_11_24, ft_11_25, ft_11_28, ft_11_29, ft_11_31, ft_11_32, ft_11_34, ft_11_35, ft_11_38, ft_11_43, ft_11_45, a1, gp, ww, wk_1, wk_2, wk_3, wk_4, wk_5, wk_6, wk_7, wk_8, wk_9, wk_10, wk_11, wk_12, wk_14, wk_16, wk_19, wk_20, wk_24, wk_30, wk_32, wk_33, wk_38, wk_39, wk_40, wk_41, wk_42, wk_43, wk_45, wk_47, wk_48, wk_49, wk_50, wk_55, wk_57, wk_58, wk_59, wk_60, wk_61, wk_62, wk_63, wk_64, wk_80, wk_91, wk_93, wk_97, wk_98, wk_99, wk_100, wk_101, wk_102, wk_103, wk_104, wk_107, wk_108, wk_110, wk_111, wk_112, wk_115, wk_119, wk_121, wk_124, wk_140, wk_200, wk_231, wk_240, wk_255, wk_300, wk_520, wk_999, wk_1000, wk_1000000, wk_10000, wk_20000, wk_10033, wk_10059, wk_10063, wk_m1, wk_m2, e1, hb]
    have unc : FrC [1, a] M M1 := FrC_sub a2 (by simp)
    have ea : M1 a = M a := a2.1 a (by simp; omega) ha.2.2.1
    cases e : r.1 with
    | false =>
      have k : sgM T r = -1 := by unfold sgM; rw [e]; rfl
      have k2 : plS s (-1) = -1 := by
        have : ∀ s, s < 3 → plS s (-1) = -1 := by decide
        exact this s hs
      have st := stop (-1) (by rw [k, k2]) (Or.inl rfl)
      exact ⟨some 0, _, M1, dWh_ret hcond st, Or.inr rfl, unc, fun j _ => by rw [ea], fun k hk => (by rw [ea]; exact hj k hk), (fun z => by cases z), fun _ => InMX_M a3⟩
    | true =>
      have k : sgM T r = sgT T r.2 := by unfold sgM; rw [e]; rfl
      obtain ⟨w, hw⟩ : ∃ w, plS s (sgT T r.2) = w := ⟨_, rfl⟩
      rw [k, hw] at pr
      by_cases hs2 : w = -1 ∨ had.testBit w.toNat = true
      · have st := stop w (by rw [k, hw]) hs2
        have ei : itR T s (f + 1) r.2 had row = (true, r.2, row) := by
          unfold itR
          rw [hw, if_pos hs2]
        rw [ei]
        refine ⟨some 0, _, M1, dWh_ret hcond st, Or.inr rfl, unc, fun j _ => by rw [ea], fun k hk => by rw [ea]; exact hj k hk, fun _ => ⟨?_, fun _ k hk => by rw [ea]; exact hrow e k hk⟩, fun z => by cases z⟩
        have := InMX_M a3
        rw [show r = (true, r.2) by rw [← e]] at this
        exact this
      · have n1 : ¬ w = -1 := fun z => hs2 (Or.inl z)
        have n2 : had.testBit w.toNat = false := by
          cases q : had.testBit w.toNat with
          | true => exact absurd (Or.inr q) hs2
          | false => rfl
        have hc1 : ¬ sgT T r.2 = -1 := fun z => by
          have : ∀ s, s < 3 → plS s (-1) = -1 := by decide
          rw [z, this s hs] at hw
          omega
        obtain ⟨u, rfl⟩ : ∃ u : Nat, w = (u : Int) := ⟨w.toNat, by omega⟩
        have hu : u < len := by omega
        have eu : ((u : Int)).toNat = u := Int.toNat_natCast u
        rw [eu] at n2 hs2
        rw [k, hw] at gp
        rw [k] at a1
        have hb := b_ubit (m := had) (i := u) (by omega) (by omega)
        rw [n2, if_neg (by decide)] at hb
        have hor : iio (had : Int) ((2 ^ u : Nat) : Int) = ((had ||| 2 ^ u : Nat) : Int) := b_or (by omega) (by have : 2 ^ u < 2 ^ 6 := Nat.pow_lt_pow_right (by decide) (by omega); omega)
        have hor64 : had ||| 2 ^ u < 64 := Nat.or_lt_two_pow (n := 6) hh (Nat.pow_lt_pow_right (by decide) (by omega))
        have wu : wr (u : Int) = u := wr_nat (by omega)
        obtain ⟨M2, b1, b2, b3⟩ := m_step a3 e hc1
        obtain ⟨v, M3, p', b', d1, d2, d3, v0, v1, d4⟩ := m_number b3
        have f13 : FrC [1] M M3 := FrC_trans a2 (FrC_trans b2 d2 (by simp)) (by simp)
        have glo := at_n (a := lo) (n := len) (i := u) (M := M3) alo (by omega) hu
        have ghi := at_n (a := hi) (n := len) (i := u) (M := M3) ahi (by omega) hu
        rw [f13.1 lo (by simp; omega) (by omega), (hc u hu).1] at glo
        rw [f13.1 hi (by simp; omega) (by omega), (hc u hu).2] at ghi
        have blo : -1000 ≤ loS s u ∧ loS s u ≤ 1000 := by
          have : ∀ s, s < 3 → ∀ u, u < 6 → -1000 ≤ loS s u ∧ loS s u ≤ 1000 := by decide
          exact this s hs u (by omega)
        have bhi : -1000 ≤ hiS s u ∧ hiS s u ≤ 1000 := by
          have : ∀ s, s < 3 → ∀ u, u < 6 → -1000 ≤ hiS s u ∧ hiS s u ≤ 1000 := by decide
          exact this s hs u (by omega)
        have wv : wr v = v := wr_id (by omega) (by omega)
        have wlo : wr (loS s u) = loS s u := wr_id (by omega) (by omega)
        have whi : wr (hiS s u) = hiS s u := wr_id (by omega) (by omega)
        obtain ⟨d5, d6⟩ := d4 (loS s u) (hiS s u)
        have efu : (from' : Int) + (u : Int) = ((from' + u : Nat) : Int) := by omega
        -- behind the bounds
        have after : ∃ M4, TaC T M4 p' (if b' = -1 then (if v < loS s u ∨ hiS s u < v then ((p' : Int) - 1) else -1) else b') ∧ FrC [1] M M4 ∧ wb1_X6_items [1, ((62 + s : Nat) : Int), (lo : Int), (hi : Int), (a : Int), (from' : Int), (had : Int), (i : Int), x, y] M = some (none, [1, ((62 + s : Nat) : Int), (lo : Int), (hi : Int), (a : Int), (from' : Int), ((had ||| 2 ^ u : Nat) : Int), ((i + 1 : Nat) : Int), (u : Int), v], ms M4 a (from' + u) v) := by
          have pt := fun M => put_n (a := a) (n := na) (i := from' + u) (v := v) (M := M) pa aa (by omega) (by omega)
          have e2p : M3 1 2 = (p' : Int) := d3.2.1
          have gf := c_failAt (M := M3) (p := (p' : Int)) (w := (p' : Int) - 1) (b := b') d3.2.2.2.2.1 d3.2.2.2.2.2
          rw [← TaC_M d3] at gf
          have t4 : ∀ q, TaC T (tpM M3 (p' : Int) q) p' q ∨ ¬ (-1 ≤ q ∧ q ≤ 240) := fun q => by
            by_cases hq : -1 ≤ q ∧ q ≤ 240
            · exact Or.inl (TaC_tpM (q := 0) (c := 0) d3.1 d3.2.2.1 hq.1 hq.2)
            · exact Or.inr hq
          have hshl := b_shl u (by omega)
          by_cases k1 : v < loS s u
          · refine ⟨tpM M3 (p' : Int) (if b' = -1 then (p' : Int) - 1 else b'), ?_, FrC_trans f13 (Fr_tpM _ _ _) (by simp), ?_⟩
            · rw [if_pos (Or.inl k1)]
              refine (t4 _).resolve_right (fun z => z ?_)
              have := d3.2.2.1
              have := TaC_len d3
              have := d3.2.2.2.2
              split <;> omega
            · simp only [wb1_X6_items, fin, dSeq, dSet, dInc, dIf, dIfE, dRet, dReV, dInt, dLoc, dBin, dDiv, dUn, dFld, dAr, dLen, dRo, dCal, dCon, dBo, dCmp, dCm0, dCmpL, dNul, dAnd, dOr, dNot, dA0, dA1, dDo, dPutF, dUpdF, dPutA, dUpdA, Option.bind_some, Option.bind_none, opF, dvF, dvW, mtF, List.getD_cons_zero, List.getD_cons_succ, List.set_cons_zero, List.set_cons_succ, List.length_cons, List.length_nil, List.headD_cons, List.nil_append, List.cons_append, ite_bind, cmpI, cmpL, wr_0, decide_eq_true_eq, reduceIte, true_and, and_true, false_and, and_false, not_true_eq_false, not_false_eq_true, true_or, or_true, false_or, or_false, Int.cast_ofNat_Int, Int.toNat_natCast, Bool.false_eq_true, Nat.reduceLT, Nat.reduceLeDiff, Nat.reduceAdd, Nat.reduceMul, Nat.reduceSub, Nat.reduceEqDiff, Int.reduceLT, Int.reduceLE, Int.reduceEq, Int.reduceNeg, Int.reduceAdd, Int.reduceMul, Int.reduceSub, Int.reduceToNat, Bool.not_true, Bool.not_false, Bool.not_eq_true, Bool.not_eq_eq_eq_not, decide_true, decide_false, ne_eq, reduceCtorEq, ms_eq, id_eq, Option.map_some, Nat.lt_add_one, Nat.zero_lt_succ, obC0, isC0, obC1, isC1, arC2, apC2, obC3, isC3, arC4, apC4, arC5, apC5, arC6, apC6, obC7, isC7, arC8, apC8, obC9, isC9, arC10, apC10, arC11, apC11, arC12, apC12, arC13, apC13, arC14, apC14, obC15, isC15, arC16, apC16, obC17, isC17, arC18, apC18, obC19, isC19, arC20, apC20, obC21, isC21, arC22, apC22, obC23, isC23, arC24, apC24, obC25, isC25, arC26, apC26, arC27, apC27, obC28, isC28, roC29, obC30, isC30, arC31, apC31, obC32, isC32, arC33, apC33, obC34, isC34, arC35, apC35, obC36, isC36, arC37, apC37, obC38, isC38, arC39, apC39, obC40, isC40, arC41, apC41, obC42, isC42, arC43, apC43, arC44, apC44, obC45, isC45, arC46, apC46, arC47, apC47, arC48, apC48, arC49, apC49, arC50, apC50, arC51, apC51, arC52, arC53, arC54, arC55, arC56, arC57, arC58, arC59, arC60, arC61, rc_X10_filled, rc_X10_put, rc_X8_addWord, rc_X10_feed, rc_X10_end, rc_X8_begin, rc_X10_move, rc_X8_sign, rc_X8_step, rc_X10_placeIn, rc_X10_isDigit, rc_X8_failAt, rc_X8_fail, rc_X10_at, rc_X8_number, rc_X6_items, rc_X6_clause, rc_X8_wantOver, rc_X6_item, rc_X6_isWhole, rc_X6_read, rc_X8_want, rc_X3_write, rc_X3_mayNest, rc_X3_atom, rc_X3_sum, rc_X3_term, rc_X3_isRelation, rc_X3_condition, rc_X3_nested, rc_X3_truth, rc_X3_unit, rc_X3_clause, rc_X3_read, rc_X10_fault, rc_X2_set, rc_X2_settle, rc_X7_shorten, rc_X7_build, rc_X1_forget, rc_X0_forget, rc_X10_found, rc_X4_add, rc_X10_text, rc_X10_isTold, rc_X10_master, rc_X10_way, rc_X10_law, rc_X2_has, rc_X2_get, rc_X2_lives, rc_X10_refuse, rc_X0_keep, rc_X2_fear, rc_X10_show, rc_X10_warn, rc_X2_living, rc_J6_bitCount_0f7a4C, rc_X2_manyLive, rc_X10_leave, rc_X2_welcome, rc_X10_come, rc_X10_within, rc_X4_pop, rc_X4_push, rc_X4_result, rc_X4_held, rc_X4_work, rc_X4_worth, rc_X4_lessonOf, rc_X2_grow, rc_X2_mostFeared, rc_X2_pass, rc_X2_artOf, rc_X2_artOfAll, rc_X5_write, rc_X10_passYear, rc_X10_years, rc_X10_bold, rc_X10_stepped, rc_X10_drawn, rc_X10_showByDraws, rc_X10_comeByDraws, rc_X10_winters, rc_X10_status, rc_X0_takeBack, rc_X10_undo, rc_X10_logLength, rc_X5_read, rc_X10_log, rc_X2_copy, rc_X5_copy, rc_X10_image, rc_X10_back, rc_X10_chosen, rc_X2_rankedByFear, rc_X10_order, rc_X10_safe, rc_X9_stepAt, rc_X9_tread, rc_X9_search, rc_X10_path, rc_X10_holds, rc_X2_lotsOfAll, rc_X10_odds, rc_X10_learns, rc_X2_befriending, rc_X2_signs, rc_X2_differsFromAll, rc_X2_tellingSigns, rc_X10_tells, rc_X2_areTwins, rc_X10_twins, rc_X2_stepsBetween, rc_X10_chain, rc_X2_trusted, rc_X10_trusts, rc_X10_friends, rc_X1_addSecret, rc_X10_out, rc_X10_asksForSpies, rc_X1_fits, rc_X1_fits_, rc_X1_manyFitting, rc_X1_fitting, rc_X10_spies, rc_X1_manyFittingWith, rc_X10_clear, rc_X10_best, rc_X1_addGrave, rc_X10_grave, rc_X1_couldDig, rc_X1_diggers, rc_X10_dug, rc_X7_hoursTo, rc_X10_flight, rc_X10_reach, rc_X2_fewestWith, rc_X10_dare, rc_X2_turningOrders, rc_X10_shares, rc_X10_canPlay, rc_X10_played, rc_X10_game, rc_X10_isRest, rc_X10_rests, rc_X2_mostOf, rc_X10_ablest, rc_X10_oldest, rc_X10_hides, rc_X2_warned, rc_X10_count, fv_0_0, fv_0_1, fv_0_2, fv_0_3, fv_1_0, fv_1_1, fv_1_2, fv_1_3, fv_1_4, fv_1_5, fv_1_6, fv_2_0, fv_2_1, fv_2_2, fv_2_3, fv_2_4, fv_3_0, fv_3_1, fv_4_0, fv_4_1, fv_4_2, fv_4_3, fv_4_4, fv_4_5, fv_4_6, fv_5_0, fv_6_0, fv_6_1, fv_6_2, fv_6_3, fv_6_4, fv_6_5, fv_7_0, fv_7_1, fv_7_2, fv_8_0, fv_8_1, fv_8_2, fv_8_3, fv_9_0, fv_9_1, fv_9_2, fv_10_0, fv_10_1, fv_10_2, fv_10_3, fv_10_4, fv_10_5, fv_10_6, fv_10_7, fv_10_8, fv_10_9, fv_10_10, fv_10_11, fv_10_12, fv_10_13, fv_10_14, fv_10_15, fv_10_16, fv_11_0, fv_11_1, fv_11_2, fv_11_3, fv_11_4, fv_11_5, fv_11_6, fv_11_7, fv_11_8, fv_11_9, fv_11_10, fv_11_11, fv_11_12, fv_11_13, fv_11_14, fv_11_15, fv_11_16, fv_11_17, fv_11_18, fv_11_19, fv_11_20, fv_11_21, fv_11_22, fv_11_23, fv_11_24, fv_11_25, fv_11_26, fv_11_27, fv_11_28, fv_11_29, fv_11_30, fv_11_31, fv_11_32, fv_11_33, fv_11_34, fv_11_35, fv_11_36, fv_11_37, fv_11_38, fv_11_39, fv_11_40, fv_11_41, fv_11_42, fv_11_43, fv_11_44, fv_11_45, ft_0_2, ft_0_3, ft_1_5, ft_1_6, ft_2_1, ft_2_2, ft_2_3, ft_2_4, ft_3_1, ft_4_4, ft_4_5, ft_4_6, ft_6_3, ft_6_4, ft_6_5, ft_7_2, ft_8_1, ft_8_2, ft_8_3, ft_9_1, ft_9_2, ft_10_15, ft_10_16, ft_11_0, ft_11_2, ft_11_3, ft_11_4, ft_11_5, ft_11_13, ft_11_14, ft_11_20, ft_11_21, ft_11_24, ft_11_25, ft_11_28, ft_11_29, ft_11_31, ft_11_32, ft_11_34, ft_11_35, ft_11_38, ft_11_43, ft_11_45, a1, gp, wu, wk_1, wk_2, wk_3, wk_4, wk_5, wk_6, wk_7, wk_8, wk_9, wk_10, wk_11, wk_12, wk_14, wk_16, wk_19, wk_20, wk_24, wk_30, wk_32, wk_33, wk_38, wk_39, wk_40, wk_41, wk_42, wk_43, wk_45, wk_47, wk_48, wk_49, wk_50, wk_55, wk_57, wk_58, wk_59, wk_60, wk_61, wk_62, wk_63, wk_64, wk_80, wk_91, wk_93, wk_97, wk_98, wk_99, wk_100, wk_101, wk_102, wk_103, wk_104, wk_107, wk_108, wk_110, wk_111, wk_112, wk_115, wk_119, wk_121, wk_124, wk_140, wk_200, wk_231, wk_240, wk_255, wk_300, wk_520, wk_999, wk_1000, wk_1000000, wk_10000, wk_20000, wk_10033, wk_10059, wk_10063, wk_m1, wk_m2, n1, hb, hshl, hor, b1, d1, glo, ghi, wv, wlo, k1, e2p, gf, efu, pt]
              rfl
          · by_cases k2 : hiS s u < v
            · refine ⟨tpM M3 (p' : Int) (if b' = -1 then (p' : Int) - 1 else b'), ?_, FrC_trans f13 (Fr_tpM _ _ _) (by simp), ?_⟩
              · rw [if_pos (Or.inr k2)]
                refine (t4 _).resolve_right (fun z => z ?_)
                have := d3.2.2.1
                have := TaC_len d3
                have := d3.2.2.2.2
                split <;> omega
              · simp only [wb1_X6_items, fin, dSeq, dSet, dInc, dIf, dIfE, dRet, dReV, dInt, dLoc, dBin, dDiv, dUn, dFld, dAr, dLen, dRo, dCal, dCon, dBo, dCmp, dCm0, dCmpL, dNul, dAnd, dOr, dNot, dA0, dA1, dDo, dPutF, dUpdF, dPutA, dUpdA, Option.bind_some, Option.bind_none, opF, dvF, dvW, mtF, List.getD_cons_zero, List.getD_cons_succ, List.set_cons_zero, List.set_cons_succ, List.length_cons, List.length_nil, List.headD_cons, List.nil_append, List.cons_append, ite_bind, cmpI, cmpL, wr_0, decide_eq_true_eq, reduceIte, true_and, and_true, false_and, and_false, not_true_eq_false, not_false_eq_true, true_or, or_true, false_or, or_false, Int.cast_ofNat_Int, Int.toNat_natCast, Bool.false_eq_true, Nat.reduceLT, Nat.reduceLeDiff, Nat.reduceAdd, Nat.reduceMul, Nat.reduceSub, Nat.reduceEqDiff, Int.reduceLT, Int.reduceLE, Int.reduceEq, Int.reduceNeg, Int.reduceAdd, Int.reduceMul, Int.reduceSub, Int.reduceToNat, Bool.not_true, Bool.not_false, Bool.not_eq_true, Bool.not_eq_eq_eq_not, decide_true, decide_false, ne_eq, reduceCtorEq, ms_eq, id_eq, Option.map_some, Nat.lt_add_one, Nat.zero_lt_succ, obC0, isC0, obC1, isC1, arC2, apC2, obC3, isC3, arC4, apC4, arC5, apC5, arC6, apC6, obC7, isC7, arC8, apC8, obC9, isC9, arC10, apC10, arC11, apC11, arC12, apC12, arC13, apC13, arC14, apC14, obC15, isC15, arC16, apC16, obC17, isC17, arC18, apC18, obC19, isC19, arC20, apC20, obC21, isC21, arC22, apC22, obC23, isC23, arC24, apC24, obC25, isC25, arC26, apC26, arC27, apC27, obC28, isC28, roC29, obC30, isC30, arC31, apC31, obC32, isC32, arC33, apC33, obC34, isC34, arC35, apC35, obC36, isC36, arC37, apC37, obC38, isC38, arC39, apC39, obC40, isC40, arC41, apC41, obC42, isC42, arC43, apC43, arC44, apC44, obC45, isC45, arC46, apC46, arC47, apC47, arC48, apC48, arC49, apC49, arC50, apC50, arC51, apC51, arC52, arC53, arC54, arC55, arC56, arC57, arC58, arC59, arC60, arC61, rc_X10_filled, rc_X10_put, rc_X8_addWord, rc_X10_feed, rc_X10_end, rc_X8_begin, rc_X10_move, rc_X8_sign, rc_X8_step, rc_X10_placeIn, rc_X10_isDigit, rc_X8_failAt, rc_X8_fail, rc_X10_at, rc_X8_number, rc_X6_items, rc_X6_clause, rc_X8_wantOver, rc_X6_item, rc_X6_isWhole, rc_X6_read, rc_X8_want, rc_X3_write, rc_X3_mayNest, rc_X3_atom, rc_X3_sum, rc_X3_term, rc_X3_isRelation, rc_X3_condition, rc_X3_nested, rc_X3_truth, rc_X3_unit, rc_X3_clause, rc_X3_read, rc_X10_fault, rc_X2_set, rc_X2_settle, rc_X7_shorten, rc_X7_build, rc_X1_forget, rc_X0_forget, rc_X10_found, rc_X4_add, rc_X10_text, rc_X10_isTold, rc_X10_master, rc_X10_way, rc_X10_law, rc_X2_has, rc_X2_get, rc_X2_lives, rc_X10_refuse, rc_X0_keep, rc_X2_fear, rc_X10_show, rc_X10_warn, rc_X2_living, rc_J6_bitCount_0f7a4C, rc_X2_manyLive, rc_X10_leave, rc_X2_welcome, rc_X10_come, rc_X10_within, rc_X4_pop, rc_X4_push, rc_X4_result, rc_X4_held, rc_X4_work, rc_X4_worth, rc_X4_lessonOf, rc_X2_grow, rc_X2_mostFeared, rc_X2_pass, rc_X2_artOf, rc_X2_artOfAll, rc_X5_write, rc_X10_passYear, rc_X10_years, rc_X10_bold, rc_X10_stepped, rc_X10_drawn, rc_X10_showByDraws, rc_X10_comeByDraws, rc_X10_winters, rc_X10_status, rc_X0_takeBack, rc_X10_undo, rc_X10_logLength, rc_X5_read, rc_X10_log, rc_X2_copy, rc_X5_copy, rc_X10_image, rc_X10_back, rc_X10_chosen, rc_X2_rankedByFear, rc_X10_order, rc_X10_safe, rc_X9_stepAt, rc_X9_tread, rc_X9_search, rc_X10_path, rc_X10_holds, rc_X2_lotsOfAll, rc_X10_odds, rc_X10_learns, rc_X2_befriending, rc_X2_signs, rc_X2_differsFromAll, rc_X2_tellingSigns, rc_X10_tells, rc_X2_areTwins, rc_X10_twins, rc_X2_stepsBetween, rc_X10_chain, rc_X2_trusted, rc_X10_trusts, rc_X10_friends, rc_X1_addSecret, rc_X10_out, rc_X10_asksForSpies, rc_X1_fits, rc_X1_fits_, rc_X1_manyFitting, rc_X1_fitting, rc_X10_spies, rc_X1_manyFittingWith, rc_X10_clear, rc_X10_best, rc_X1_addGrave, rc_X10_grave, rc_X1_couldDig, rc_X1_diggers, rc_X10_dug, rc_X7_hoursTo, rc_X10_flight, rc_X10_reach, rc_X2_fewestWith, rc_X10_dare, rc_X2_turningOrders, rc_X10_shares, rc_X10_canPlay, rc_X10_played, rc_X10_game, rc_X10_isRest, rc_X10_rests, rc_X2_mostOf, rc_X10_ablest, rc_X10_oldest, rc_X10_hides, rc_X2_warned, rc_X10_count, fv_0_0, fv_0_1, fv_0_2, fv_0_3, fv_1_0, fv_1_1, fv_1_2, fv_1_3, fv_1_4, fv_1_5, fv_1_6, fv_2_0, fv_2_1, fv_2_2, fv_2_3, fv_2_4, fv_3_0, fv_3_1, fv_4_0, fv_4_1, fv_4_2, fv_4_3, fv_4_4, fv_4_5, fv_4_6, fv_5_0, fv_6_0, fv_6_1, fv_6_2, fv_6_3, fv_6_4, fv_6_5, fv_7_0, fv_7_1, fv_7_2, fv_8_0, fv_8_1, fv_8_2, fv_8_3, fv_9_0, fv_9_1, fv_9_2, fv_10_0, fv_10_1, fv_10_2, fv_10_3, fv_10_4, fv_10_5, fv_10_6, fv_10_7, fv_10_8, fv_10_9, fv_10_10, fv_10_11, fv_10_12, fv_10_13, fv_10_14, fv_10_15, fv_10_16, fv_11_0, fv_11_1, fv_11_2, fv_11_3, fv_11_4, fv_11_5, fv_11_6, fv_11_7, fv_11_8, fv_11_9, fv_11_10, fv_11_11, fv_11_12, fv_11_13, fv_11_14, fv_11_15, fv_11_16, fv_11_17, fv_11_18, fv_11_19, fv_11_20, fv_11_21, fv_11_22, fv_11_23, fv_11_24, fv_11_25, fv_11_26, fv_11_27, fv_11_28, fv_11_29, fv_11_30, fv_11_31, fv_11_32, fv_11_33, fv_11_34, fv_11_35, fv_11_36, fv_11_37, fv_11_38, fv_11_39, fv_11_40, fv_11_41, fv_11_42, fv_11_43, fv_11_44, fv_11_45, ft_0_2, ft_0_3, ft_1_5, ft_1_6, ft_2_1, ft_2_2, ft_2_3, ft_2_4, ft_3_1, ft_4_4, ft_4_5, ft_4_6, ft_6_3, ft_6_4, ft_6_5, ft_7_2, ft_8_1, ft_8_2, ft_8_3, ft_9_1, ft_9_2, ft_10_15, ft_10_16, ft_11_0, ft_11_2, ft_11_3, ft_11_4, ft_11_5, ft_11_13, ft_11_14, ft_11_20, ft_11_21, ft_11_24, ft_11_25, ft_11_28, ft_11_29, ft_11_31, ft_11_32, ft_11_34, ft_11_35, ft_11_38, ft_11_43, ft_11_45, a1, gp, wu, wk_1, wk_2, wk_3, wk_4, wk_5, wk_6, wk_7, wk_8, wk_9, wk_10, wk_11, wk_12, wk_14, wk_16, wk_19, wk_20, wk_24, wk_30, wk_32, wk_33, wk_38, wk_39, wk_40, wk_41, wk_42, wk_43, wk_45, wk_47, wk_48, wk_49, wk_50, wk_55, wk_57, wk_58, wk_59, wk_60, wk_61, wk_62, wk_63, wk_64, wk_80, wk_91, wk_93, wk_97, wk_98, wk_99, wk_100, wk_101, wk_102, wk_103, wk_104, wk_107, wk_108, wk_110, wk_111, wk_112, wk_115, wk_119, wk_121, wk_124, wk_140, wk_200, wk_231, wk_240, wk_255, wk_300, wk_520, wk_999, wk_1000, wk_1000000, wk_10000, wk_20000, wk_10033, wk_10059, wk_10063, wk_m1, wk_m2, n1, hb, hshl, hor, b1, d1, glo, ghi, wv, wlo, whi, k1, gt_iff_lt, k2, e2p, gf, efu, pt]
                rfl
            · refine ⟨M3, ?_, f13, ?_⟩
              · have hn : ¬ (v < loS s u ∨ hiS s u < v) := by omega
                rw [if_neg hn]
                have : (if b' = -1 then (-1 : Int) else b') = b' := by split <;> omega
                rw [this]
                exact d3
              · simp only [wb1_X6_items, fin, dSeq, dSet, dInc, dIf, dIfE, dRet, dReV, dInt, dLoc, dBin, dDiv, dUn, dFld, dAr, dLen, dRo, dCal, dCon, dBo, dCmp, dCm0, dCmpL, dNul, dAnd, dOr, dNot, dA0, dA1, dDo, dPutF, dUpdF, dPutA, dUpdA, Option.bind_some, Option.bind_none, opF, dvF, dvW, mtF, List.getD_cons_zero, List.getD_cons_succ, List.set_cons_zero, List.set_cons_succ, List.length_cons, List.length_nil, List.headD_cons, List.nil_append, List.cons_append, ite_bind, cmpI, cmpL, wr_0, decide_eq_true_eq, reduceIte, true_and, and_true, false_and, and_false, not_true_eq_false, not_false_eq_true, true_or, or_true, false_or, or_false, Int.cast_ofNat_Int, Int.toNat_natCast, Bool.false_eq_true, Nat.reduceLT, Nat.reduceLeDiff, Nat.reduceAdd, Nat.reduceMul, Nat.reduceSub, Nat.reduceEqDiff, Int.reduceLT, Int.reduceLE, Int.reduceEq, Int.reduceNeg, Int.reduceAdd, Int.reduceMul, Int.reduceSub, Int.reduceToNat, Bool.not_true, Bool.not_false, Bool.not_eq_true, Bool.not_eq_eq_eq_not, decide_true, decide_false, ne_eq, reduceCtorEq, ms_eq, id_eq, Option.map_some, Nat.lt_add_one, Nat.zero_lt_succ, obC0, isC0, obC1, isC1, arC2, apC2, obC3, isC3, arC4, apC4, arC5, apC5, arC6, apC6, obC7, isC7, arC8, apC8, obC9, isC9, arC10, apC10, arC11, apC11, arC12, apC12, arC13, apC13, arC14, apC14, obC15, isC15, arC16, apC16, obC17, isC17, arC18, apC18, obC19, isC19, arC20, apC20, obC21, isC21, arC22, apC22, obC23, isC23, arC24, apC24, obC25, isC25, arC26, apC26, arC27, apC27, obC28, isC28, roC29, obC30, isC30, arC31, apC31, obC32, isC32, arC33, apC33, obC34, isC34, arC35, apC35, obC36, isC36, arC37, apC37, obC38, isC38, arC39, apC39, obC40, isC40, arC41, apC41, obC42, isC42, arC43, apC43, arC44, apC44, obC45, isC45, arC46, apC46, arC47, apC47, arC48, apC48, arC49, apC49, arC50, apC50, arC51, apC51, arC52, arC53, arC54, arC55, arC56, arC57, arC58, arC59, arC60, arC61, rc_X10_filled, rc_X10_put, rc_X8_addWord, rc_X10_feed, rc_X10_end, rc_X8_begin, rc_X10_move, rc_X8_sign, rc_X8_step, rc_X10_placeIn, rc_X10_isDigit, rc_X8_failAt, rc_X8_fail, rc_X10_at, rc_X8_number, rc_X6_items, rc_X6_clause, rc_X8_wantOver, rc_X6_item, rc_X6_isWhole, rc_X6_read, rc_X8_want, rc_X3_write, rc_X3_mayNest, rc_X3_atom, rc_X3_sum, rc_X3_term, rc_X3_isRelation, rc_X3_condition, rc_X3_nested, rc_X3_truth, rc_X3_unit, rc_X3_clause, rc_X3_read, rc_X10_fault, rc_X2_set, rc_X2_settle, rc_X7_shorten, rc_X7_build, rc_X1_forget, rc_X0_forget, rc_X10_found, rc_X4_add, rc_X10_text, rc_X10_isTold, rc_X10_master, rc_X10_way, rc_X10_law, rc_X2_has, rc_X2_get, rc_X2_lives, rc_X10_refuse, rc_X0_keep, rc_X2_fear, rc_X10_show, rc_X10_warn, rc_X2_living, rc_J6_bitCount_0f7a4C, rc_X2_manyLive, rc_X10_leave, rc_X2_welcome, rc_X10_come, rc_X10_within, rc_X4_pop, rc_X4_push, rc_X4_result, rc_X4_held, rc_X4_work, rc_X4_worth, rc_X4_lessonOf, rc_X2_grow, rc_X2_mostFeared, rc_X2_pass, rc_X2_artOf, rc_X2_artOfAll, rc_X5_write, rc_X10_passYear, rc_X10_years, rc_X10_bold, rc_X10_stepped, rc_X10_drawn, rc_X10_showByDraws, rc_X10_comeByDraws, rc_X10_winters, rc_X10_status, rc_X0_takeBack, rc_X10_undo, rc_X10_logLength, rc_X5_read, rc_X10_log, rc_X2_copy, rc_X5_copy, rc_X10_image, rc_X10_back, rc_X10_chosen, rc_X2_rankedByFear, rc_X10_order, rc_X10_safe, rc_X9_stepAt, rc_X9_tread, rc_X9_search, rc_X10_path, rc_X10_holds, rc_X2_lotsOfAll, rc_X10_odds, rc_X10_learns, rc_X2_befriending, rc_X2_signs, rc_X2_differsFromAll, rc_X2_tellingSigns, rc_X10_tells, rc_X2_areTwins, rc_X10_twins, rc_X2_stepsBetween, rc_X10_chain, rc_X2_trusted, rc_X10_trusts, rc_X10_friends, rc_X1_addSecret, rc_X10_out, rc_X10_asksForSpies, rc_X1_fits, rc_X1_fits_, rc_X1_manyFitting, rc_X1_fitting, rc_X10_spies, rc_X1_manyFittingWith, rc_X10_clear, rc_X10_best, rc_X1_addGrave, rc_X10_grave, rc_X1_couldDig, rc_X1_diggers, rc_X10_dug, rc_X7_hoursTo, rc_X10_flight, rc_X10_reach, rc_X2_fewestWith, rc_X10_dare, rc_X2_turningOrders, rc_X10_shares, rc_X10_canPlay, rc_X10_played, rc_X10_game, rc_X10_isRest, rc_X10_rests, rc_X2_mostOf, rc_X10_ablest, rc_X10_oldest, rc_X10_hides, rc_X2_warned, rc_X10_count, fv_0_0, fv_0_1, fv_0_2, fv_0_3, fv_1_0, fv_1_1, fv_1_2, fv_1_3, fv_1_4, fv_1_5, fv_1_6, fv_2_0, fv_2_1, fv_2_2, fv_2_3, fv_2_4, fv_3_0, fv_3_1, fv_4_0, fv_4_1, fv_4_2, fv_4_3, fv_4_4, fv_4_5, fv_4_6, fv_5_0, fv_6_0, fv_6_1, fv_6_2, fv_6_3, fv_6_4, fv_6_5, fv_7_0, fv_7_1, fv_7_2, fv_8_0, fv_8_1, fv_8_2, fv_8_3, fv_9_0, fv_9_1, fv_9_2, fv_10_0, fv_10_1, fv_10_2, fv_10_3, fv_10_4, fv_10_5, fv_10_6, fv_10_7, fv_10_8, fv_10_9, fv_10_10, fv_10_11, fv_10_12, fv_10_13, fv_10_14, fv_10_15, fv_10_16, fv_11_0, fv_11_1, fv_11_2, fv_11_3, fv_11_4, fv_11_5, fv_11_6, fv_11_7, fv_11_8, fv_11_9, fv_11_10, fv_11_11, fv_11_12, fv_11_13, fv_11_14, fv_11_15, fv_11_16, fv_11_17, fv_11_18, fv_11_19, fv_11_20, fv_11_21, fv_11_22, fv_11_23, fv_11_24, fv_11_25, fv_11_26, fv_11_27, fv_11_28, fv_11_29, fv_11_30, fv_11_31, fv_11_32, fv_11_33, fv_11_34, fv_11_35, fv_11_36, fv_11_37, fv_11_38, fv_11_39, fv_11_40, fv_11_41, fv_11_42, fv_11_43, fv_11_44, fv_11_45, ft_0_2, ft_0_3, ft_1_5, ft_1_6, ft_2_1, ft_2_2, ft_2_3, ft_2_4, ft_3_1, ft_4_4, ft_4_5, ft_4_6, ft_6_3, ft_6_4, ft_6_5, ft_7_2, ft_8_1, ft_8_2, ft_8_3, ft_9_1, ft_9_2, ft_10_15, ft_10_16, ft_11_0, ft_11_2, ft_11_3, ft_11_4, ft_11_5, ft_11_13, ft_11_14, ft_11_20, ft_11_21, ft_11_24, ft_11_25, ft_11_28, ft_11_29, ft_11_31, ft_11_32, ft_11_34, ft_11_35, ft_11_38, ft_11_43, ft_11_45, a1, gp, wu, wk_1, wk_2, wk_3, wk_4, wk_5, wk_6, wk_7, wk_8, wk_9, wk_10, wk_11, wk_12, wk_14, wk_16, wk_19, wk_20, wk_24, wk_30, wk_32, wk_33, wk_38, wk_39, wk_40, wk_41, wk_42, wk_43, wk_45, wk_47, wk_48, wk_49, wk_50, wk_55, wk_57, wk_58, wk_59, wk_60, wk_61, wk_62, wk_63, wk_64, wk_80, wk_91, wk_93, wk_97, wk_98, wk_99, wk_100, wk_101, wk_102, wk_103, wk_104, wk_107, wk_108, wk_110, wk_111, wk_112, wk_115, wk_119, wk_121, wk_124, wk_140, wk_200, wk_231, wk_240, wk_255, wk_300, wk_520, wk_999, wk_1000, wk_1000000, wk_10000, wk_20000, wk_10033, wk_10059, wk_10063, wk_m1, wk_m2, n1, hb, hshl, hor, b1, d1, glo, ghi, wv, wlo, whi, k1, gt_iff_lt, k2, efu, pt]
                rfl
        obtain ⟨M4, t1, t2, t3⟩ := after
        rw [d5] at t1
        have f5 : FrC [1, a] M (ms M4 a (from' + u) v) := FrC_trans (FrC_sub t2 (T := [1, a]) (by simp)) (FrC_ms (S := [a]) (by simp) ha.2.2.1) (by simp)
        have e4 : M4 a = M a := t2.1 a (by simp; omega) ha.2.2.1
        have hj5 : ∀ k, k < len → 0 ≤ ms M4 a (from' + u) v a (from' + k) ∧ ms M4 a (from' + u) v a (from' + k) ≤ 99 := fun k hk => by
          show 0 ≤ (if a = a ∧ from' + k = from' + u then v else M4 a (from' + k)) ∧ (if a = a ∧ from' + k = from' + u then v else M4 a (from' + k)) ≤ 99
          by_cases q : a = a ∧ from' + k = from' + u
          · rw [if_pos q]; exact ⟨v0, v1⟩
          · rw [if_neg q, e4]; exact hj k hk
        have hc5 : ∀ k, k < len → ms M4 a (from' + u) v lo k = loS s k ∧ ms M4 a (from' + u) v hi k = hiS s k := fun k hk => by
          rw [f5.1 lo (by simp; omega) (by omega), f5.1 hi (by simp; omega) (by omega)]
          exact hc k hk
        have t5 : TaC T (ms M4 a (from' + u) v) p' (if (nbR T (loS s u) (hiS s u) (skS T r.2 + 1)).1 = true then -1 else ((nbR T (loS s u) (hiS s u) (skS T r.2 + 1)).2.1 : Int)) := TaC_fr t1 (FrC_ms (S := [a]) (by simp) ha.2.2.1) (by simp; omega) (by simp; omega)
        have ei : itR T s (f + 1) r.2 had row = if (nbR T (loS s u) (hiS s u) (skS T r.2 + 1)).1 = true then itR T s f (nbR T (loS s u) (hiS s u) (skS T r.2 + 1)).2.1 (had ||| 2 ^ u) (fun k => if k = u then (nbR T (loS s u) (hiS s u) (skS T r.2 + 1)).2.2 else row k) else (false, (nbR T (loS s u) (hiS s u) (skS T r.2 + 1)).2.1, row) := by
          rw [show itR T s (f + 1) r.2 had row = if plS s (sgT T r.2) = -1 ∨ had.testBit (plS s (sgT T r.2)).toNat = true then (true, r.2, row) else _ from rfl, hw, eu, if_neg hs2]
        rw [ei]
        generalize nbR T (loS s u) (hiS s u) (skS T r.2 + 1) = z at *
        have hin : InM T (z.1, z.2.1) (ms M4 a (from' + u) v) := by
          by_cases ez : z.1 = true
          · rw [if_pos ez] at t5
            exact ⟨fun _ => ⟨p', t5, by show skS T p' = skS T z.2.1; rw [(d6 ez).1]⟩, fun q => by rw [show (z.1, z.2.1).1 = z.1 from rfl, ez] at q; cases q⟩
          · rw [if_neg ez] at t5
            exact ⟨fun q => absurd q ez, fun _ => ⟨p', t5⟩⟩
        obtain ⟨ro, ρ, M6, g1, g2, g3, g4, g5, g6, g7⟩ := m_items hs hlen hl6 alo ahi aa pa hna hna2 ha f (i + 1) (had ||| 2 ^ u) (fun k => if k = u then z.2.2 else row k) (z.1, z.2.1) _ (u : Int) v (by omega) hor64 hin hc5 hj5 (fun ez k hk => by
          show (if a = a ∧ from' + k = from' + u then v else M4 a (from' + k)) = if k = u then z.2.2 else row k
          by_cases q : k = u
          · subst q
            rw [if_pos ⟨rfl, rfl⟩, if_pos rfl, (d6 ez).2]
          · rw [if_neg (fun y => by omega), if_neg q, e4]
            exact hrow e k hk)
        refine ⟨ro, ρ, M6, dWh_go hcond t3 g1, g2, FrC_trans f5 g3 (fun _ h => h), fun j hj2 => ?_, g5, fun _ => ?_, fun z => by cases z⟩
        · rw [g4 j hj2]
          show (if a = a ∧ j = from' + u then v else M4 a j) = M a j
          rw [if_neg (fun y => by omega), e4]
        · by_cases ez : z.1 = true
          · rw [if_pos ez]
            exact g6 ez
          · rw [if_neg ez]
            have ez' : z.1 = false := by cases q : z.1 with
              | true => exact absurd q ez
              | false => rfl
            have := g7 ez'
            rw [ez'] at this
            exact ⟨this, fun q => by cases q⟩
