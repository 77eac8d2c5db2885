/-! PART 61: the class's laws: one code worked. -/
/-- what one code makes of the stack -/
def wkS (lt : Nat → Int) (c : Int) (s : List Int) : List Int :=
  if c < 10000 then c :: s else if 20000 ≤ c then lt (c - 20000).toNat :: s else
  if c = 10033 then (match s with | x :: s => (1 - x) :: s | [] => []) else
  match s with | r :: l :: s => resS (c - 10000) l r :: s | _ => s
/-- kinds on the stack: a truth or any number -/
def okW (c : Int) (ks : List Bool) : Option (List Bool) :=
  if 40 ≤ ks.length then none else
  if c < 10000 then (if 0 ≤ c then some (false :: ks) else none) else if 20000 ≤ c then (if c < 20006 then some (false :: ks) else none) else
  if c = 10033 then (match ks with | true :: ks => some (true :: ks) | _ => none) else
  match ks with
  | b2 :: b1 :: ks => if c = 10043 ∨ c = 10045 ∨ c = 10042 ∨ c = 10047 then some (false :: ks) else if c = 10061 ∨ c = 10060 ∨ c = 10062 then some (true :: ks) else if (c = 10038 ∨ c = 10124) ∧ b1 = true ∧ b2 = true then some (true :: ks) else none
  | _ => none
def skK : List Int → List Bool → Prop
  | [], [] => True
  | v :: s, b :: ks => (-1000000 ≤ v ∧ v ≤ 1000000) ∧ (b = true → v = 0 ∨ v = 1) ∧ skK s ks
  | _, _ => False
theorem skK_len : ∀ {s : List Int} {ks : List Bool}, skK s ks → s.length = ks.length
  | [], [], _ => rfl
  | v :: s, b :: ks, h => by simp only [List.length_cons, skK_len h.2.2]
  | [], _ :: _, h => by cases h
  | _ :: _, [], h => by cases h
theorem bdS_rng (v : Int) : -1000000 ≤ bdS v ∧ bdS v ≤ 1000000 := by unfold bdS; omega
theorem resS_rng (g l r : Int) : -1000000 ≤ resS g l r ∧ resS g l r ≤ 1000000 := by
  unfold resS
  have h1 := bdS_rng (l + r)
  have h2 := bdS_rng (l - r)
  have h3 := bdS_rng (l * r)
  have h4 := bdS_rng (l.tdiv r)
  repeat' split
  all_goals omega
theorem resS_tr {g l r : Int} (hg : g = 61 ∨ g = 60 ∨ g = 62 ∨ g = 38 ∨ g = 124) : resS g l r = 0 ∨ resS g l r = 1 := by
  rcases hg with rfl | rfl | rfl | rfl | rfl <;> unfold resS <;> simp only [Int.reduceEq, if_false, if_true] <;> repeat' split
  all_goals omega
/-- what a call that works on the stack leaves alone -/
def FrL (M M' : Mem) : Prop := (∀ j, ¬ j = 13 → ¬ j = 9 → M' j = M j) ∧ ∀ k, ¬ k = 4 → M' 9 k = M 9 k
theorem FrL_trans {M M1 M2 : Mem} (h1 : FrL M M1) (h2 : FrL M1 M2) : FrL M M2 := ⟨fun j a b => by rw [h2.1 j a b, h1.1 j a b], fun k a => by rw [h2.2 k a, h1.2 k a]⟩
theorem c_push {M : Mem} {s : List Int} {v : Int} (h : StkC M s) (hl : s.length < 64) : ∃ M', ci_X4_push.2.2.2.2 [9, v] M = some (0, M') ∧ StkC M' (v :: s) ∧ FrL M M' := by
  obtain ⟨M', h1, h2, h3⟩ := f_push (v := v) h hl
  exact ⟨M', h1, h2, fun j a b => (h3 j).1 a b, (h3 0).2⟩
theorem c_pop {M : Mem} {s : List Int} {v : Int} (h : StkC M (v :: s)) (hl : s.length < 64) : ∃ M', ci_X4_pop.2.2.2.2 [9] M = some (v, M') ∧ StkC M' s ∧ FrL M M' := by
  obtain ⟨M', h1, h2, h3⟩ := f_pop h hl
  exact ⟨M', h1, h2, fun j a b => (h3 j).1 a b, (h3 0).2⟩
theorem c_work {M : Mem} {s : List Int} {ks ks' : List Bool} {c : Int} (h : StkC M s) (hk : skK s ks) (ho : okW c ks = some ks') (hc : c < 30000) (hlt : ∀ k, k < 6 → -1000000 ≤ M 12 k ∧ M 12 k ≤ 1000000) : ∃ M', ci_X4_work.2.2.2.2 [9, c] M = some (0, M') ∧ StkC M' (wkS (M 12) c s) ∧ skK (wkS (M 12) c s) ks' ∧ FrL M M' := by
  rw [u_X4_work]
  have hlen := skK_len hk
  unfold okW at ho
  unfold wkS
  by_cases h40 : 40 ≤ ks.length
  · rw [if_pos h40] at ho; cases ho
  rw [if_neg h40] at ho
  by_cases c1 : c < 10000
  · rw [if_pos c1] at ho ⊢
    by_cases c0 : 0 ≤ c
    · rw [if_pos c0] at ho
      cases ho
      obtain ⟨M1, g1, g2, g3⟩ := c_push (v := c) h (by omega)
      have w : wr c = c := wr_id (by omega) (by omega)
      simp only [fin, dSeq, dSet, dInc, dIf, dIfE, dRet, dReV, dInt, dLoc, dBin, dDiv, dUn, dFld, dAr, dLen, dRo, dCal, dCon, dBo, dCmp, dCm0, dCmpL, dNul, dAnd, dOr, dNot, dA0, dA1, dDo, dPutF, dUpdF, dPutA, dUpdA, Option.bind_some, Option.bind_none, opF, dvF, dvW, mtF, List.getD_cons_zero, List.getD_cons_succ, List.set_cons_zero, List.set_cons_succ, List.length_cons, List.length_nil, List.headD_cons, List.nil_append, List.cons_append, ite_bind, cmpI, cmpL, wr_0, decide_eq_true_eq, reduceIte, true_and, and_true, false_and, and_false, not_true_eq_false, not_false_eq_true, true_or, or_true, false_or, or_false, Int.cast_ofNat_Int, Int.toNat_natCast, Bool.false_eq_true, Nat.reduceLT, Nat.reduceLeDiff, Nat.reduceAdd, Nat.reduceMul, Nat.reduceSub, Nat.reduceEqDiff, Int.reduceLT, Int.reduceLE, Int.reduceEq, Int.reduceNeg, Int.reduceAdd, Int.reduceMul, Int.reduceSub, Int.reduceToNat, Bool.not_true, Bool.not_false, Bool.not_eq_true, Bool.not_eq_eq_eq_not, decide_true, decide_false, ne_eq, reduceCtorEq, ms_eq, id_eq, Option.map_some, Nat.lt_add_one, Nat.zero_lt_succ, obC0, isC0, obC1, isC1, arC2, apC2, obC3, isC3, arC4, apC4, arC5, apC5, arC6, apC6, obC7, isC7, arC8, apC8, obC9, isC9, arC10, apC10, arC11, apC11, arC12, apC12, arC13, apC13, arC14, apC14, obC15, isC15, arC16, apC16, obC17, isC17, arC18, apC18, obC19, isC19, arC20, apC20, obC21, isC21, arC22, apC22, obC23, isC23, arC24, apC24, obC25, isC25, arC26, apC26, arC27, apC27, obC28, isC28, roC29, obC30, isC30, arC31, apC31, obC32, isC32, arC33, apC33, obC34, isC34, arC35, apC35, obC36, isC36, arC37, apC37, obC38, isC38, arC39, apC39, obC40, isC40, arC41, apC41, obC42, isC42, arC43, apC43, arC44, apC44, obC45, isC45, arC46, apC46, arC47, apC47, arC48, apC48, arC49, apC49, arC50, apC50, arC51, apC51, arC52, arC53, arC54, arC55, arC56, arC57, arC58, arC59, arC60, arC61, rc_X10_filled, rc_X10_put, rc_X8_addWord, rc_X10_feed, rc_X10_end, rc_X8_begin, rc_X10_move, rc_X8_sign, rc_X8_step, rc_X10_placeIn, rc_X10_isDigit, rc_X8_failAt, rc_X8_fail, rc_X10_at, rc_X8_number, rc_X6_items, rc_X6_clause, rc_X8_wantOver, rc_X6_item, rc_X6_isWhole, rc_X6_read, rc_X8_want, rc_X3_write, rc_X3_mayNest, rc_X3_atom, rc_X3_sum, rc_X3_term, rc_X3_isRelation, rc_X3_condition, rc_X3_nested, rc_X3_truth, rc_X3_unit, rc_X3_clause, rc_X3_read, rc_X10_fault, rc_X2_set, rc_X2_settle, rc_X7_shorten, rc_X7_build, rc_X1_forget, rc_X0_forget, rc_X10_found, rc_X4_add, rc_X10_text, rc_X10_isTold, rc_X10_master, rc_X10_way, rc_X10_law, rc_X2_has, rc_X2_get, rc_X2_lives, rc_X10_refuse, rc_X0_keep, rc_X2_fear, rc_X10_show, rc_X10_warn, rc_X2_living, rc_J6_bitCount_0f7a4C, rc_X2_manyLive, rc_X10_leave, rc_X2_welcome, rc_X10_come, rc_X10_within, rc_X4_pop, rc_X4_push, rc_X4_result, rc_X4_held, rc_X4_work, rc_X4_worth, rc_X4_lessonOf, rc_X2_grow, rc_X2_mostFeared, rc_X2_pass, rc_X2_artOf, rc_X2_artOfAll, rc_X5_write, rc_X10_passYear, rc_X10_years, rc_X10_bold, rc_X10_stepped, rc_X10_drawn, rc_X10_showByDraws, rc_X10_comeByDraws, rc_X10_winters, rc_X10_status, rc_X0_takeBack, rc_X10_undo, rc_X10_logLength, rc_X5_read, rc_X10_log, rc_X2_copy, rc_X5_copy, rc_X10_image, rc_X10_back, rc_X10_chosen, rc_X2_rankedByFear, rc_X10_order, rc_X10_safe, rc_X9_stepAt, rc_X9_tread, rc_X9_search, rc_X10_path, rc_X10_holds, rc_X2_lotsOfAll, rc_X10_odds, rc_X10_learns, rc_X2_befriending, rc_X2_signs, rc_X2_differsFromAll, rc_X2_tellingSigns, rc_X10_tells, rc_X2_areTwins, rc_X10_twins, rc_X2_stepsBetween, rc_X10_chain, rc_X2_trusted, rc_X10_trusts, rc_X10_friends, rc_X1_addSecret, rc_X10_out, rc_X10_asksForSpies, rc_X1_fits, rc_X1_fits_, rc_X1_manyFitting, rc_X1_fitting, rc_X10_spies, rc_X1_manyFittingWith, rc_X10_clear, rc_X10_best, rc_X1_addGrave, rc_X10_grave, rc_X1_couldDig, rc_X1_diggers, rc_X10_dug, rc_X7_hoursTo, rc_X10_flight, rc_X10_reach, rc_X2_fewestWith, rc_X10_dare, rc_X2_turningOrders, rc_X10_shares, rc_X10_canPlay, rc_X10_played, rc_X10_game, rc_X10_isRest, rc_X10_rests, rc_X2_mostOf, rc_X10_ablest, rc_X10_oldest, rc_X10_hides, rc_X2_warned, rc_X10_count, fv_0_0, fv_0_1, fv_0_2, fv_0_3, fv_1_0, fv_1_1, fv_1_2, fv_1_3, fv_1_4, fv_1_5, fv_1_6, fv_2_0, fv_2_1, fv_2_2, fv_2_3, fv_2_4, fv_3_0, fv_3_1, fv_4_0, fv_4_1, fv_4_2, fv_4_3, fv_4_4, fv_4_5, fv_4_6, fv_5_0, fv_6_0, fv_6_1, fv_6_2, fv_6_3, fv_6_4, fv_6_5, fv_7_0, fv_7_1, fv_7_2, fv_8_0, fv_8_1, fv_8_2, fv_8_3, fv_9_0, fv_9_1, fv_9_2, fv_10_0, fv_10_1, fv_10_2, fv_10_3, fv_10_4, fv_10_5, fv_10_6, fv_10_7, fv_10_8, fv_10_9, fv_10_10, fv_10_11, fv_10_12, fv_10_13, fv_10_14, fv_10_15, fv_10_16, fv_11_0, fv_11_1, fv_11_2, fv_11_3, fv_11_4, fv_11_5, fv_11_6, fv_11_7, fv_11_8, fv_11_9, fv_11_10, fv_11_11, fv_11_12, fv_11_13, fv_11_14, fv_11_15, fv_11_16, fv_11_17, fv_11_18, fv_11_19, fv_11_20, fv_11_21, fv_11_22, fv_11_23, fv_11_24, fv_11_25, fv_11_26, fv_11_27, fv_11_28, fv_11_29, fv_11_30, fv_11_31, fv_11_32, fv_11_33, fv_11_34, fv_11_35, fv_11_36, fv_11_37, fv_11_38, fv_11_39, fv_11_40, fv_11_41, fv_11_42, fv_11_43, fv_11_44, fv_11_45, ft_0_2, ft_0_3, ft_1_5, ft_1_6, ft_2_1, ft_2_2, ft_2_3, ft_2_4, ft_3_1, ft_4_4, ft_4_5, ft_4_6, ft_6_3, ft_6_4, ft_6_5, ft_7_2, ft_8_1, ft_8_2, ft_8_3, ft_9_1, ft_9_2, ft_10_15, ft_10_16, ft_11_0, ft_11_2, ft_11_3, ft_11_4, ft_11_5, ft_11_13, ft_11_14, ft_11_20, ft_11_21, ft_11_24, ft_11_25, ft_11_28, ft_11_29, ft_11_31, ft_11_32, ft_11_34, ft_11_35, ft_11_38, ft_11_43, ft_11_45, w, show wr 10000 = 10000 from rfl, c1, g1]
      exact ⟨_, rfl, g2, ⟨⟨by omega, by omega⟩, (fun e => by cases e), hk⟩, g3⟩
    · rw [if_neg c0] at ho; cases ho
  · rw [if_neg c1] at ho ⊢
    have w : wr c = c := wr_id (by omega) (by omega)
    by_cases c2 : 20000 ≤ c
    · rw [if_pos c2] at ho ⊢
      by_cases c3 : c < 20006
      · rw [if_pos c3] at ho
        cases ho
        obtain ⟨M1, g1, g2, g3⟩ := c_push (v := M 12 (c - 20000).toNat) h (by omega)
        have gl := f_at (a := 12) (i := c - 20000) (n := 6) (M := M) arC12 (by decide)
        rw [wr_id (z := c - 20000) (by omega) (by omega), if_pos (by omega)] at gl
        have gl : ci_X10_at.2.2.2.2 [12, c - 20000] M = some (M 12 (c - 20000).toNat, M) := gl
        simp only [fin, dSeq, dSet, dInc, dIf, dIfE, dRet, dReV, dInt, dLoc, dBin, dDiv, dUn, dFld, dAr, dLen, dRo, dCal, dCon, dBo, dCmp, dCm0, dCmpL, dNul, dAnd, dOr, dNot, dA0, dA1, dDo, dPutF, dUpdF, dPutA, dUpdA, Option.bind_some, Option.bind_none, opF, dvF, dvW, mtF, List.getD_cons_zero, List.getD_cons_succ, List.set_cons_zero, List.set_cons_succ, List.length_cons, List.length_nil, List.headD_cons, List.nil_append, List.cons_append, ite_bind, cmpI, cmpL, wr_0, decide_eq_true_eq, reduceIte, true_and, and_true, false_and, and_false, not_true_eq_false, not_false_eq_true, true_or, or_true, false_or, or_false, Int.cast_ofNat_Int, Int.toNat_natCast, Bool.false_eq_true, Nat.reduceLT, Nat.reduceLeDiff, Nat.reduceAdd, Nat.reduceMul, Nat.reduceSub, Nat.reduceEqDiff, Int.reduceLT, Int.reduceLE, Int.reduceEq, Int.reduceNeg, Int.reduceAdd, Int.reduceMul, Int.reduceSub, Int.reduceToNat, Bool.not_true, Bool.not_false, Bool.not_eq_true, Bool.not_eq_eq_eq_not, decide_true, decide_false, ne_eq, reduceCtorEq, ms_eq, id_eq, Option.map_some, Nat.lt_add_one, Nat.zero_lt_succ, obC0, isC0, obC1, isC1, arC2, apC2, obC3, isC3, arC4, apC4, arC5, apC5, arC6, apC6, obC7, isC7, arC8, apC8, obC9, isC9, arC10, apC10, arC11, apC11, arC12, apC12, arC13, apC13, arC14, apC14, obC15, isC15, arC16, apC16, obC17, isC17, arC18, apC18, obC19, isC19, arC20, apC20, obC21, isC21, arC22, apC22, obC23, isC23, arC24, apC24, obC25, isC25, arC26, apC26, arC27, apC27, obC28, isC28, roC29, obC30, isC30, arC31, apC31, obC32, isC32, arC33, apC33, obC34, isC34, arC35, apC35, obC36, isC36, arC37, apC37, obC38, isC38, arC39, apC39, obC40, isC40, arC41, apC41, obC42, isC42, arC43, apC43, arC44, apC44, obC45, isC45, arC46, apC46, arC47, apC47, arC48, apC48, arC49, apC49, arC50, apC50, arC51, apC51, arC52, arC53, arC54, arC55, arC56, arC57, arC58, arC59, arC60, arC61, rc_X10_filled, rc_X10_put, rc_X8_addWord, rc_X10_feed, rc_X10_end, rc_X8_begin, rc_X10_move, rc_X8_sign, rc_X8_step, rc_X10_placeIn, rc_X10_isDigit, rc_X8_failAt, rc_X8_fail, rc_X10_at, rc_X8_number, rc_X6_items, rc_X6_clause, rc_X8_wantOver, rc_X6_item, rc_X6_isWhole, rc_X6_read, rc_X8_want, rc_X3_write, rc_X3_mayNest, rc_X3_atom, rc_X3_sum, rc_X3_term, rc_X3_isRelation, rc_X3_condition, rc_X3_nested, rc_X3_truth, rc_X3_unit, rc_X3_clause, rc_X3_read, rc_X10_fault, rc_X2_set, rc_X2_settle, rc_X7_shorten, rc_X7_build, rc_X1_forget, rc_X0_forget, rc_X10_found, rc_X4_add, rc_X10_text, rc_X10_isTold, rc_X10_master, rc_X10_way, rc_X10_law, rc_X2_has, rc_X2_get, rc_X2_lives, rc_X10_refuse, rc_X0_keep, rc_X2_fear, rc_X10_show, rc_X10_warn, rc_X2_living, rc_J6_bitCount_0f7a4C, rc_X2_manyLive, rc_X10_leave, rc_X2_welcome, rc_X10_come, rc_X10_within, rc_X4_pop, rc_X4_push, rc_X4_result, rc_X4_held, rc_X4_work, rc_X4_worth, rc_X4_lessonOf, rc_X2_grow, rc_X2_mostFeared, rc_X2_pass, rc_X2_artOf, rc_X2_artOfAll, rc_X5_write, rc_X10_passYear, rc_X10_years, rc_X10_bold, rc_X10_stepped, rc_X10_drawn, rc_X10_showByDraws, rc_X10_comeByDraws, rc_X10_winters, rc_X10_status, rc_X0_takeBack, rc_X10_undo, rc_X10_logLength, rc_X5_read, rc_X10_log, rc_X2_copy, rc_X5_copy, rc_X10_image, rc_X10_back, rc_X10_chosen, rc_X2_rankedByFear, rc_X10_order, rc_X10_safe, rc_X9_stepAt, rc_X9_tread, rc_X9_search, rc_X10_path, rc_X10_holds, rc_X2_lotsOfAll, rc_X10_odds, rc_X10_learns, rc_X2_befriending, rc_X2_signs, rc_X2_differsFromAll, rc_X2_tellingSigns, rc_X10_tells, rc_X2_areTwins, rc_X10_twins, rc_X2_stepsBetween, rc_X10_chain, rc_X2_trusted, rc_X10_trusts, rc_X10_friends, rc_X1_addSecret, rc_X10_out, rc_X10_asksForSpies, rc_X1_fits, rc_X1_fits_, rc_X1_manyFitting, rc_X1_fitting, rc_X10_spies, rc_X1_manyFittingWith, rc_X10_clear, rc_X10_best, rc_X1_addGrave, rc_X10_grave, rc_X1_couldDig, rc_X1_diggers, rc_X10_dug, rc_X7_hoursTo, rc_X10_flight, rc_X10_reach, rc_X2_fewestWith, rc_X10_dare, rc_X2_turningOrders, rc_X10_shares, rc_X10_canPlay, rc_X10_played, rc_X10_game, rc_X10_isRest, rc_X10_rests, rc_X2_mostOf, rc_X10_ablest, rc_X10_oldest, rc_X10_hides, rc_X2_warned, rc_X10_count, fv_0_0, fv_0_1, fv_0_2, fv_0_3, fv_1_0, fv_1_1, fv_1_2, fv_1_3, fv_1_4, fv_1_5, fv_1_6, fv_2_0, fv_2_1, fv_2_2, fv_2_3, fv_2_4, fv_3_0, fv_3_1, fv_4_0, fv_4_1, fv_4_2, fv_4_3, fv_4_4, fv_4_5, fv_4_6, fv_5_0, fv_6_0, fv_6_1, fv_6_2, fv_6_3, fv_6_4, fv_6_5, fv_7_0, fv_7_1, fv_7_2, fv_8_0, fv_8_1, fv_8_2, fv_8_3, fv_9_0, fv_9_1, fv_9_2, fv_10_0, fv_10_1, fv_10_2, fv_10_3, fv_10_4, fv_10_5, fv_10_6, fv_10_7, fv_10_8, fv_10_9, fv_10_10, fv_10_11, fv_10_12, fv_10_13, fv_10_14, fv_10_15, fv_10_16, fv_11_0, fv_11_1, fv_11_2, fv_11_3, fv_11_4, fv_11_5, fv_11_6, fv_11_7, fv_11_8, fv_11_9, fv_11_10, fv_11_11, fv_11_12, fv_11_13, fv_11_14, fv_11_15, fv_11_16, fv_11_17, fv_11_18, fv_11_19, fv_11_20, fv_11_21, fv_11_22, fv_11_23, fv_11_24, fv_11_25, fv_11_26, fv_11_27, fv_11_28, fv_11_29, fv_11_30, fv_11_31, fv_11_32, fv_11_33, fv_11_34, fv_11_35, fv_11_36, fv_11_37, fv_11_38, fv_11_39, fv_11_40, fv_11_41, fv_11_42, fv_11_43, fv_11_44, fv_11_45, ft_0_2, ft_0_3, ft_1_5, ft_1_6, ft_2_1, ft_2_2, ft_2_3, ft_2_4, ft_3_1, ft_4_4, ft_4_5, ft_4_6, ft_6_3, ft_6_4, ft_6_5, ft_7_2, ft_8_1, ft_8_2, ft_8_3, ft_9_1, ft_9_2, ft_10_15, ft_10_16, ft_11_0, ft_11_2, ft_11_3, ft_11_4, ft_11_5, ft_11_13, ft_11_14, ft_11_20, ft_11_21, ft_11_24, ft_11_25, ft_11_28, ft_11_29, ft_11_31, ft_11_32, ft_11_34, ft_11_35, ft_11_38, ft_11_43, ft_11_45, w, show wr 10000 = 10000 from rfl, show wr 20000 = 20000 from rfl, c1, c2, gl, g1]
        exact ⟨_, rfl, g2, ⟨hlt _ (by omega), (fun e => by cases e), hk⟩, g3⟩
      · rw [if_neg c3] at ho; cases ho
    · rw [if_neg c2] at ho ⊢
      sorry
