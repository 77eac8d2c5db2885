/-! PART 94.a8: the reference reads laws, whole. -/
def totC (cl : List (List Int × List Int)) : Nat := (cl.map (fun q => q.1.length + q.2.length)).sum
theorem flC_2 {q : List Int × List Int} (h : okCl q) : 2 ≤ (flC q).length := by
  obtain ⟨h1, h2, h3, b, h4⟩ := h
  have : 1 ≤ q.2.length := by
    match e : q.2 with
    | [] => rw [e] at h4; cases h4
    | x :: l => rw [List.length_cons]; omega
  unfold flC
  rw [List.length_append, List.length_append]
  simp only [List.length_cons, List.length_nil]
  omega
def OutL (T : List Int) (w c nc : Nat) (r : RdL) (M M' : Mem) : Prop := FrK w c nc M M' ∧ (r.1 = true → LiveM T w 0 0 r.2.1 (c + totC r.2.2) M' ∧ M' 5 w = ((nc + r.2.2.length : Nat) : Int) ∧ ClsM M' w nc c r.2.2) ∧ (r.1 = false → DeadM T w r.2.1 10 0 0 M')
/-- one clause, and those behind it -/
theorem cls_cons {w nc c c1 : Nat} {q : List Int × List Int} {cl : List (List Int × List Int)} {M M' : Mem} (h : ClsM M w nc c [q]) (f : FrK w c1 (nc + 1) M M') (e : c1 = c + q.1.length + q.2.length) (g : ClsM M' w (nc + 1) c1 cl) : ClsM M' w nc c (q :: cl) := by
  have h2 := ClsM_K f [q] nc c h (by simp) (by simp; omega)
  obtain ⟨h3, h4, h5, h6, h7, h8, _⟩ := h2
  exact ⟨h3, h4, h5, h6, h7, h8, by rw [← e]; exact g⟩
theorem ccR_l {T : List Int} {w dp s p c : Nat} {M : Mem} {ρ : List Int} (h : LiveM T w dp s p c M) {d : Int} (wd : wr d = d) : ∃ M', ccO d (0 :: ρ) M = some (decide (sgT T p = d), M') ∧ LiveX T w dp s p c M' ∧ (∀ c', FrP w c' M M') := by
  obtain ⟨M1, e1, x1, f1⟩ := l_look h
  have h4 := h.2.2.2.2.1
  have hr : -1 ≤ sgT T p ∧ sgT T p ≤ 255 := tpm_rng h.1 (skS T p)
  have wz : wr (sgT T p) = sgT T p := wr_id (by omega) (by omega)
  refine ⟨M1, ?_, x1, f1⟩
  simp only [ccO, fin, dSeq, dSet, dInc, dIf, dIfE, dRet, dReV, dInt, dLoc, dBin, dDiv, dUn, dFld, dAr, dLen, dRo, dCal, dCon, dBo, dCmp, dCm0, dCmpL, dNul, dAnd, dOr, dNot, dA0, dA1, dDo, dPutF, dUpdF, dPutA, dUpdA, Option.bind_some, Option.bind_none, opF, dvF, dvW, mtF, List.getD_cons_zero, List.getD_cons_succ, List.set_cons_zero, List.set_cons_succ, List.length_cons, List.length_nil, List.headD_cons, List.nil_append, List.cons_append, ite_bind, cmpI, cmpL, wr_0, decide_eq_true_eq, reduceIte, true_and, and_true, false_and, and_false, not_true_eq_false, not_false_eq_true, true_or, or_true, false_or, or_false, Int.cast_ofNat_Int, Int.toNat_natCast, Bool.false_eq_true, Nat.reduceLT, Nat.reduceLeDiff, Nat.reduceAdd, Nat.reduceMul, Nat.reduceSub, Nat.reduceEqDiff, Int.reduceLT, Int.reduceLE, Int.reduceEq, Int.reduceNeg, Int.reduceAdd, Int.reduceMul, Int.reduceSub, Int.reduceToNat, Bool.not_true, Bool.not_false, Bool.not_eq_true, Bool.not_eq_eq_eq_not, decide_true, decide_false, ne_eq, reduceCtorEq, ms_eq, id_eq, Option.map_some, Nat.lt_add_one, Nat.zero_lt_succ, obM0, isM0, arM1, apM1, arM2, apM2, arM3, apM3, arM4, apM4, arM5, apM5, arM6, apM6, arM7, apM7, arM8, apM8, arM9, apM9, arM10, apM10, arM11, apM11, arM12, apM12, arM13, apM13, arM14, apM14, arM15, apM15, arM16, apM16, arM17, apM17, arM18, apM18, arM19, apM19, arM20, apM20, arM21, apM21, arM22, apM22, arM23, apM23, arM24, apM24, arM25, apM25, arM26, apM26, rc_J6_bitCount_0f7a4M, rc_X11_in, rc_X11_has, rc_X11_thrown, rc_X11_byteOf, rc_X11_feed, rc_X11_end, rc_X11_here, rc_X11_look, rc_X11_bad, rc_X11_isDigit, rc_X11_put, rc_X11_letterOf, rc_X11_opens, rc_X11_closes, rc_X11_plainNumber, rc_X11_atom, rc_X11_sum, rc_X11_term, rc_X11_isSign, rc_X11_compare, rc_X11_condition, rc_X11_goOnAnd, rc_X11_goOnOr, rc_X11_unit, rc_X11_clause, rc_X11_open, rc_X11_atEnd, rc_X11_readLaw, rc_X11_bounded, rc_X11_worked, rc_X11_workOut, rc_X11_worthOf, rc_X11_number, rc_X11_itemOf, rc_X11_lowest, rc_X11_highest, rc_X11_usual, rc_X11_items, rc_X11_isWhole, rc_X11_readMill, rc_X11_fault, rc_X11_lay, rc_X11_of, rc_X11_takeMill, rc_X11_text, rc_X11_isLad, rc_X11_lives, rc_X11_living, rc_X11_manyLive, rc_X11_fearBy, rc_X11_fear, rc_X11_chosenNow, rc_X11_friendsOf, rc_X11_signs, rc_X11_master, rc_X11_lad, rc_X11_way, rc_X11_law, rc_X11_learnsBy, rc_X11_live, rc_X11_artOf, rc_X11_passYear, rc_X11_keep, rc_X11_isRefused, rc_X11_show, rc_X11_warn, rc_X11_leave, rc_X11_comeNow, rc_X11_come, rc_X11_years, rc_X11_bold, rc_X11_draw, rc_X11_drawLads, rc_X11_winters, rc_X11_status, rc_X11_undo, rc_X11_log, rc_X11_chosen, rc_X11_putAside, rc_X11_takeBack, rc_X11_tryPath, rc_X11_path, rc_X11_holds, rc_X11_tells, rc_X11_twins, rc_X11_chain, rc_X11_trusts, rc_X11_out, rc_X11_isSpies, rc_X11_areSpies, rc_X11_spies, rc_X11_clear, rc_X11_best, rc_X11_layHours, rc_X11_flight, rc_X11_reach, rc_X11_dare, rc_X11_ordersOf, rc_X11_pivots, rc_X11_shares, rc_X11_gameOf, rc_X11_areTwo, rc_X11_game, rc_X11_rests, rc_X11_grave, rc_X11_dug, rc_X11_odds, rc_X11_mostOf, rc_X11_ablest, rc_X11_hides, rc_X11_order, rc_X11_safe, rc_X11_friends, rc_X11_oldest, rc_X11_learns, rc_X11_image, rc_X11_back, rc_X11_count, fv_0_0, fv_0_1, fv_0_2, fv_0_3, fv_1_0, fv_1_1, fv_1_2, fv_1_3, fv_1_4, fv_1_5, fv_1_6, fv_2_0, fv_2_1, fv_2_2, fv_2_3, fv_2_4, fv_3_0, fv_3_1, fv_4_0, fv_4_1, fv_4_2, fv_4_3, fv_4_4, fv_4_5, fv_4_6, fv_5_0, fv_6_0, fv_6_1, fv_6_2, fv_6_3, fv_6_4, fv_6_5, fv_7_0, fv_7_1, fv_7_2, fv_8_0, fv_8_1, fv_8_2, fv_8_3, fv_9_0, fv_9_1, fv_9_2, fv_10_0, fv_10_1, fv_10_2, fv_10_3, fv_10_4, fv_10_5, fv_10_6, fv_10_7, fv_10_8, fv_10_9, fv_10_10, fv_10_11, fv_10_12, fv_10_13, fv_10_14, fv_10_15, fv_10_16, fv_11_0, fv_11_1, fv_11_2, fv_11_3, fv_11_4, fv_11_5, fv_11_6, fv_11_7, fv_11_8, fv_11_9, fv_11_10, fv_11_11, fv_11_12, fv_11_13, fv_11_14, fv_11_15, fv_11_16, fv_11_17, fv_11_18, fv_11_19, fv_11_20, fv_11_21, fv_11_22, fv_11_23, fv_11_24, fv_11_25, fv_11_26, fv_11_27, fv_11_28, fv_11_29, fv_11_30, fv_11_31, fv_11_32, fv_11_33, fv_11_34, fv_11_35, fv_11_36, fv_11_37, fv_11_38, fv_11_39, fv_11_40, fv_11_41, fv_11_42, fv_11_43, fv_11_44, fv_11_45, ft_0_2, ft_0_3, ft_1_5, ft_1_6, ft_2_1, ft_2_2, ft_2_3, ft_2_4, ft_3_1, ft_4_4, ft_4_5, ft_4_6, ft_6_3, ft_6_4, ft_6_5, ft_7_2, ft_8_1, ft_8_2, ft_8_3, ft_9_1, ft_9_2, ft_10_15, ft_10_16, ft_11_0, ft_11_2, ft_11_3, ft_11_4, ft_11_5, ft_11_13, ft_11_14, ft_11_20, ft_11_21, ft_11_24, ft_11_25, ft_11_28, ft_11_29, ft_11_31, ft_11_32, ft_11_34, ft_11_35, ft_11_38, ft_11_43, ft_11_45, wk_1, wk_2, wk_3, wk_4, wk_5, wk_6, wk_7, wk_8, wk_9, wk_10, wk_11, wk_12, wk_14, wk_16, wk_19, wk_20, wk_24, wk_30, wk_32, wk_33, wk_38, wk_39, wk_40, wk_41, wk_42, wk_43, wk_45, wk_47, wk_48, wk_49, wk_50, wk_55, wk_57, wk_58, wk_59, wk_60, wk_61, wk_62, wk_63, wk_64, wk_80, wk_91, wk_93, wk_97, wk_98, wk_99, wk_100, wk_101, wk_102, wk_103, wk_104, wk_107, wk_108, wk_110, wk_111, wk_112, wk_115, wk_119, wk_121, wk_124, wk_140, wk_200, wk_231, wk_240, wk_255, wk_300, wk_520, wk_999, wk_1000, wk_1000000, wk_10000, wk_20000, wk_10033, wk_10059, wk_10063, wk_m1, wk_m2, h4, e1, wz, wd]
theorem ccR_d {T : List Int} {w b e s cb : Nat} {M : Mem} {ρ : List Int} (h : DeadM T w b e s cb M) (d : Int) : ccO d (0 :: ρ) M = some (false, M) := by
  have h4 := h.2.2.2.1
  have hb := h.2.2.2.2.1
  have hT := h.1.2.1
  have wb : wr (b : Int) = b := wr_nat (by omega)
  have nb : ¬ (b : Int) = -1 := by omega
  simp only [ccO, fin, dSeq, dSet, dInc, dIf, dIfE, dRet, dReV, dInt, dLoc, dBin, dDiv, dUn, dFld, dAr, dLen, dRo, dCal, dCon, dBo, dCmp, dCm0, dCmpL, dNul, dAnd, dOr, dNot, dA0, dA1, dDo, dPutF, dUpdF, dPutA, dUpdA, Option.bind_some, Option.bind_none, opF, dvF, dvW, mtF, List.getD_cons_zero, List.getD_cons_succ, List.set_cons_zero, List.set_cons_succ, List.length_cons, List.length_nil, List.headD_cons, List.nil_append, List.cons_append, ite_bind, cmpI, cmpL, wr_0, decide_eq_true_eq, reduceIte, true_and, and_true, false_and, and_false, not_true_eq_false, not_false_eq_true, true_or, or_true, false_or, or_false, Int.cast_ofNat_Int, Int.toNat_natCast, Bool.false_eq_true, Nat.reduceLT, Nat.reduceLeDiff, Nat.reduceAdd, Nat.reduceMul, Nat.reduceSub, Nat.reduceEqDiff, Int.reduceLT, Int.reduceLE, Int.reduceEq, Int.reduceNeg, Int.reduceAdd, Int.reduceMul, Int.reduceSub, Int.reduceToNat, Bool.not_true, Bool.not_false, Bool.not_eq_true, Bool.not_eq_eq_eq_not, decide_true, decide_false, ne_eq, reduceCtorEq, ms_eq, id_eq, Option.map_some, Nat.lt_add_one, Nat.zero_lt_succ, obM0, isM0, arM1, apM1, arM2, apM2, arM3, apM3, arM4, apM4, arM5, apM5, arM6, apM6, arM7, apM7, arM8, apM8, arM9, apM9, arM10, apM10, arM11, apM11, arM12, apM12, arM13, apM13, arM14, apM14, arM15, apM15, arM16, apM16, arM17, apM17, arM18, apM18, arM19, apM19, arM20, apM20, arM21, apM21, arM22, apM22, arM23, apM23, arM24, apM24, arM25, apM25, arM26, apM26, rc_J6_bitCount_0f7a4M, rc_X11_in, rc_X11_has, rc_X11_thrown, rc_X11_byteOf, rc_X11_feed, rc_X11_end, rc_X11_here, rc_X11_look, rc_X11_bad, rc_X11_isDigit, rc_X11_put, rc_X11_letterOf, rc_X11_opens, rc_X11_closes, rc_X11_plainNumber, rc_X11_atom, rc_X11_sum, rc_X11_term, rc_X11_isSign, rc_X11_compare, rc_X11_condition, rc_X11_goOnAnd, rc_X11_goOnOr, rc_X11_unit, rc_X11_clause, rc_X11_open, rc_X11_atEnd, rc_X11_readLaw, rc_X11_bounded, rc_X11_worked, rc_X11_workOut, rc_X11_worthOf, rc_X11_number, rc_X11_itemOf, rc_X11_lowest, rc_X11_highest, rc_X11_usual, rc_X11_items, rc_X11_isWhole, rc_X11_readMill, rc_X11_fault, rc_X11_lay, rc_X11_of, rc_X11_takeMill, rc_X11_text, rc_X11_isLad, rc_X11_lives, rc_X11_living, rc_X11_manyLive, rc_X11_fearBy, rc_X11_fear, rc_X11_chosenNow, rc_X11_friendsOf, rc_X11_signs, rc_X11_master, rc_X11_lad, rc_X11_way, rc_X11_law, rc_X11_learnsBy, rc_X11_live, rc_X11_artOf, rc_X11_passYear, rc_X11_keep, rc_X11_isRefused, rc_X11_show, rc_X11_warn, rc_X11_leave, rc_X11_comeNow, rc_X11_come, rc_X11_years, rc_X11_bold, rc_X11_draw, rc_X11_drawLads, rc_X11_winters, rc_X11_status, rc_X11_undo, rc_X11_log, rc_X11_chosen, rc_X11_putAside, rc_X11_takeBack, rc_X11_tryPath, rc_X11_path, rc_X11_holds, rc_X11_tells, rc_X11_twins, rc_X11_chain, rc_X11_trusts, rc_X11_out, rc_X11_isSpies, rc_X11_areSpies, rc_X11_spies, rc_X11_clear, rc_X11_best, rc_X11_layHours, rc_X11_flight, rc_X11_reach, rc_X11_dare, rc_X11_ordersOf, rc_X11_pivots, rc_X11_shares, rc_X11_gameOf, rc_X11_areTwo, rc_X11_game, rc_X11_rests, rc_X11_grave, rc_X11_dug, rc_X11_odds, rc_X11_mostOf, rc_X11_ablest, rc_X11_hides, rc_X11_order, rc_X11_safe, rc_X11_friends, rc_X11_oldest, rc_X11_learns, rc_X11_image, rc_X11_back, rc_X11_count, fv_0_0, fv_0_1, fv_0_2, fv_0_3, fv_1_0, fv_1_1, fv_1_2, fv_1_3, fv_1_4, fv_1_5, fv_1_6, fv_2_0, fv_2_1, fv_2_2, fv_2_3, fv_2_4, fv_3_0, fv_3_1, fv_4_0, fv_4_1, fv_4_2, fv_4_3, fv_4_4, fv_4_5, fv_4_6, fv_5_0, fv_6_0, fv_6_1, fv_6_2, fv_6_3, fv_6_4, fv_6_5, fv_7_0, fv_7_1, fv_7_2, fv_8_0, fv_8_1, fv_8_2, fv_8_3, fv_9_0, fv_9_1, fv_9_2, fv_10_0, fv_10_1, fv_10_2, fv_10_3, fv_10_4, fv_10_5, fv_10_6, fv_10_7, fv_10_8, fv_10_9, fv_10_10, fv_10_11, fv_10_12, fv_10_13, fv_10_14, fv_10_15, fv_10_16, fv_11_0, fv_11_1, fv_11_2, fv_11_3, fv_11_4, fv_11_5, fv_11_6, fv_11_7, fv_11_8, fv_11_9, fv_11_10, fv_11_11, fv_11_12, fv_11_13, fv_11_14, fv_11_15, fv_11_16, fv_11_17, fv_11_18, fv_11_19, fv_11_20, fv_11_21, fv_11_22, fv_11_23, fv_11_24, fv_11_25, fv_11_26, fv_11_27, fv_11_28, fv_11_29, fv_11_30, fv_11_31, fv_11_32, fv_11_33, fv_11_34, fv_11_35, fv_11_36, fv_11_37, fv_11_38, fv_11_39, fv_11_40, fv_11_41, fv_11_42, fv_11_43, fv_11_44, fv_11_45, ft_0_2, ft_0_3, ft_1_5, ft_1_6, ft_2_1, ft_2_2, ft_2_3, ft_2_4, ft_3_1, ft_4_4, ft_4_5, ft_4_6, ft_6_3, ft_6_4, ft_6_5, ft_7_2, ft_8_1, ft_8_2, ft_8_3, ft_9_1, ft_9_2, ft_10_15, ft_10_16, ft_11_0, ft_11_2, ft_11_3, ft_11_4, ft_11_5, ft_11_13, ft_11_14, ft_11_20, ft_11_21, ft_11_24, ft_11_25, ft_11_28, ft_11_29, ft_11_31, ft_11_32, ft_11_34, ft_11_35, ft_11_38, ft_11_43, ft_11_45, wk_1, wk_2, wk_3, wk_4, wk_5, wk_6, wk_7, wk_8, wk_9, wk_10, wk_11, wk_12, wk_14, wk_16, wk_19, wk_20, wk_24, wk_30, wk_32, wk_33, wk_38, wk_39, wk_40, wk_41, wk_42, wk_43, wk_45, wk_47, wk_48, wk_49, wk_50, wk_55, wk_57, wk_58, wk_59, wk_60, wk_61, wk_62, wk_63, wk_64, wk_80, wk_91, wk_93, wk_97, wk_98, wk_99, wk_100, wk_101, wk_102, wk_103, wk_104, wk_107, wk_108, wk_110, wk_111, wk_112, wk_115, wk_119, wk_121, wk_124, wk_140, wk_200, wk_231, wk_240, wk_255, wk_300, wk_520, wk_999, wk_1000, wk_1000000, wk_10000, wk_20000, wk_10033, wk_10059, wk_10063, wk_m1, wk_m2, h4, wb, nb]
theorem r_lawL {T : List Int} {w : Nat} {ρ : List Int} : ∀ (f p c nc : Nat) (M : Mem), LiveM T w 0 0 p c M → M 5 w = (nc : Int) → 2 * nc ≤ p → T.length ≤ p + f → ∃ M', dWh wc1_X11_readLaw wb1_X11_readLaw (0 :: ρ) M = some (none, 0 :: ρ, M') ∧ OutL T w c nc (clsR T f p) M M' := by
  have done : ∀ (p c nc : Nat) (M M1 : Mem), M 5 w = (nc : Int) → LiveX T w 0 0 p c M1 → (∀ c', FrP w c' M M1) → OutL T w c nc (true, skS T p, []) M M1 := fun p c nc M M1 h5 h f => ⟨FrK_P (f c), fun _ => ⟨live_sk h.1, by rw [(f c).2.2.2 5 (by decide) (by decide) (by decide) (by decide)]; exact h5, trivial⟩, fun z => by cases z⟩
  have ecc : wc1_X11_readLaw = ccO 59 := rfl
  intro f
  induction f with
  | zero =>
    intro p c nc M h h5 hn hf
    obtain ⟨M1, e1, x1, f1⟩ := ccR_l (ρ := ρ) h (d := 59) rfl
    have hs := skS_le h.2.2.2.2.2.2.2.1
    have ez : sgT T p = -1 := tp_out (by omega)
    rw [ez, decide_eq_false (by decide)] at e1
    exact ⟨M1, dWh_end (by rw [ecc]; exact e1), done p c nc M M1 h5 x1 f1⟩
  | succ f ih =>
    intro p c nc M h h5 hn hf
    obtain ⟨M1, e1, x1, f1⟩ := ccR_l (ρ := ρ) h (d := 59) rfl
    have hs := skS_le h.2.2.2.2.2.2.2.1
    by_cases ez : sgT T p = 59
    · rw [decide_eq_true ez] at e1
      have lu := l_up x1 (by omega)
      have hl := sg_lt (T := T) (p := p) (by omega)
      have hT := h.1.2.1
      obtain ⟨M2, hM2⟩ : ∃ M2, M2 = ms M1 0 3 (((skS T p : Nat) : Int) + 1) := ⟨_, rfl⟩
      have st1 := s_up3 (ρ := ρ) x1.2
      rw [← hM2] at lu st1
      have f2 : FrP w c M M2 := by rw [hM2]; exact FrP_trans (f1 c) (FrP_0 (Or.inl rfl)) (Nat.le_refl c)
      obtain ⟨M3, q1, q2⟩ := r_clause lu (nc := nc) (by rw [f2.2.2.2 5 (by decide) (by decide) (by decide) (by decide)]; exact h5) (by omega)
      have st2 := s_do0 (ci := ci_X11_clause) (ρ := ρ) (rc_X11_clause [0]) q1
      have ok := clR_ok (T := T) (p := skS T p + 1) hl
      have body : wb1_X11_readLaw (0 :: ρ) M1 = some (none, 0 :: ρ, M3) := seq_t st1 st2
      have go := fun {M' : Mem} {o} (g : dWh wc1_X11_readLaw wb1_X11_readLaw (0 :: ρ) M3 = some (o, 0 :: ρ, M')) => dWh_go (c := wc1_X11_readLaw) (b := wb1_X11_readLaw) (by rw [ecc]; exact e1) body g
      have el : clsR T (f + 1) p = if (clR T (skS T p + 1)).1 = true then ((clsR T f (clR T (skS T p + 1)).2.1).1, (clsR T f (clR T (skS T p + 1)).2.1).2.1, (clR T (skS T p + 1)).2.2 :: (clsR T f (clR T (skS T p + 1)).2.1).2.2) else (false, (clR T (skS T p + 1)).2.1, []) := by
        show (if sgT T p = 59 then _ else _) = _
        rw [if_pos ez]
      rw [el]
      generalize clR T (skS T p + 1) = r at *
      cases er : r.1 with
      | true =>
        rw [if_pos rfl]
        obtain ⟨lv, m5, cl⟩ := q2.2.1 er
        obtain ⟨o1, o2⟩ := ok.1 er
        have o3 := flC_2 o1
        obtain ⟨M4, w1, w2⟩ := ih r.2.1 _ (nc + 1) M3 (LiveM_less lv (by omega)) m5 (by omega) (by omega)
        generalize clsR T f r.2.1 = u at *
        have et : c + totC (r.2.2 :: u.2.2) = c + r.2.2.1.length + r.2.2.2.length + totC u.2.2 := by
          unfold totC
          rw [List.map_cons, List.sum_cons]
          omega
        refine ⟨M4, go w1, FrK_trans (FrK_P f2) (FrK_trans q2.1 w2.1 (by omega) (by omega)) (Nat.le_refl c) (Nat.le_refl nc), fun z => ?_, fun z => w2.2.2 z⟩
        obtain ⟨y1, y2, y3⟩ := w2.2.1 z
        refine ⟨?_, ?_, cls_cons cl w2.1 rfl y3⟩
        · show LiveM T w 0 0 u.2.1 (c + totC (r.2.2 :: u.2.2)) M4
          rw [et]
          exact y1
        · show M4 5 w = ((nc + (r.2.2 :: u.2.2).length : Nat) : Int)
          rw [y2, List.length_cons]
          congr 1
          omega
      | false =>
        rw [if_neg (by decide)]
        have dd := q2.2.2 er
        refine ⟨M3, go (dWh_end (by rw [ecc]; exact ccR_d dd 59)), FrK_trans (FrK_P f2) q2.1 (Nat.le_refl c) (Nat.le_refl nc), fun z => (by cases z), fun _ => dd⟩
    · rw [decide_eq_false ez] at e1
      have el : clsR T (f + 1) p = (true, skS T p, []) := by
        show (if sgT T p = 59 then _ else _) = _
        rw [if_neg ez]
      rw [el]
      exact ⟨M1, dWh_end (by rw [ecc]; exact e1), done p c nc M M1 h5 x1 f1⟩
theorem r_atEndL {T : List Int} {w dp s p c : Nat} {M : Mem} (h : LiveM T w dp s p c M) : ∃ M', ci_X11_atEnd.2.2.2.2 [0] M = some (if sgT T p = -1 then -1 else ((skS T p : Nat) : Int), M') ∧ (∀ c', FrP w c' M M') := by
  rw [u_X11_atEnd]
  obtain ⟨M1, e1, x1, f1⟩ := l_look h
  have h4 : M 0 4 = -1 := h.2.2.2.2.1
  have m4 : M1 0 4 = -1 := x1.1.2.2.2.2.1
  have hr : -1 ≤ sgT T p ∧ sgT T p ≤ 255 := tpm_rng h.1 (skS T p)
  have wz : wr (sgT T p) = sgT T p := wr_id (by omega) (by omega)
  by_cases k : sgT T p = -1
  · rw [if_pos k]
    rw [k] at e1
    refine ⟨M1, ?_, f1⟩
    simp only [fin, dSeq, dSet, dInc, dIf, dIfE, dRet, dReV, dInt, dLoc, dBin, dDiv, dUn, dFld, dAr, dLen, dRo, dCal, dCon, dBo, dCmp, dCm0, dCmpL, dNul, dAnd, dOr, dNot, dA0, dA1, dDo, dPutF, dUpdF, dPutA, dUpdA, Option.bind_some, Option.bind_none, opF, dvF, dvW, mtF, List.getD_cons_zero, List.getD_cons_succ, List.set_cons_zero, List.set_cons_succ, List.length_cons, List.length_nil, List.headD_cons, List.nil_append, List.cons_append, ite_bind, cmpI, cmpL, wr_0, decide_eq_true_eq, reduceIte, true_and, and_true, false_and, and_false, not_true_eq_false, not_false_eq_true, true_or, or_true, false_or, or_false, Int.cast_ofNat_Int, Int.toNat_natCast, Bool.false_eq_true, Nat.reduceLT, Nat.reduceLeDiff, Nat.reduceAdd, Nat.reduceMul, Nat.reduceSub, Nat.reduceEqDiff, Int.reduceLT, Int.reduceLE, Int.reduceEq, Int.reduceNeg, Int.reduceAdd, Int.reduceMul, Int.reduceSub, Int.reduceToNat, Bool.not_true, Bool.not_false, Bool.not_eq_true, Bool.not_eq_eq_eq_not, decide_true, decide_false, ne_eq, reduceCtorEq, ms_eq, id_eq, Option.map_some, Nat.lt_add_one, Nat.zero_lt_succ, obM0, isM0, arM1, apM1, arM2, apM2, arM3, apM3, arM4, apM4, arM5, apM5, arM6, apM6, arM7, apM7, arM8, apM8, arM9, apM9, arM10, apM10, arM11, apM11, arM12, apM12, arM13, apM13, arM14, apM14, arM15, apM15, arM16, apM16, arM17, apM17, arM18, apM18, arM19, apM19, arM20, apM20, arM21, apM21, arM22, apM22, arM23, apM23, arM24, apM24, arM25, apM25, arM26, apM26, rc_J6_bitCount_0f7a4M, rc_X11_in, rc_X11_has, rc_X11_thrown, rc_X11_byteOf, rc_X11_feed, rc_X11_end, rc_X11_here, rc_X11_look, rc_X11_bad, rc_X11_isDigit, rc_X11_put, rc_X11_letterOf, rc_X11_opens, rc_X11_closes, rc_X11_plainNumber, rc_X11_atom, rc_X11_sum, rc_X11_term, rc_X11_isSign, rc_X11_compare, rc_X11_condition, rc_X11_goOnAnd, rc_X11_goOnOr, rc_X11_unit, rc_X11_clause, rc_X11_open, rc_X11_atEnd, rc_X11_readLaw, rc_X11_bounded, rc_X11_worked, rc_X11_workOut, rc_X11_worthOf, rc_X11_number, rc_X11_itemOf, rc_X11_lowest, rc_X11_highest, rc_X11_usual, rc_X11_items, rc_X11_isWhole, rc_X11_readMill, rc_X11_fault, rc_X11_lay, rc_X11_of, rc_X11_takeMill, rc_X11_text, rc_X11_isLad, rc_X11_lives, rc_X11_living, rc_X11_manyLive, rc_X11_fearBy, rc_X11_fear, rc_X11_chosenNow, rc_X11_friendsOf, rc_X11_signs, rc_X11_master, rc_X11_lad, rc_X11_way, rc_X11_law, rc_X11_learnsBy, rc_X11_live, rc_X11_artOf, rc_X11_passYear, rc_X11_keep, rc_X11_isRefused, rc_X11_show, rc_X11_warn, rc_X11_leave, rc_X11_comeNow, rc_X11_come, rc_X11_years, rc_X11_bold, rc_X11_draw, rc_X11_drawLads, rc_X11_winters, rc_X11_status, rc_X11_undo, rc_X11_log, rc_X11_chosen, rc_X11_putAside, rc_X11_takeBack, rc_X11_tryPath, rc_X11_path, rc_X11_holds, rc_X11_tells, rc_X11_twins, rc_X11_chain, rc_X11_trusts, rc_X11_out, rc_X11_isSpies, rc_X11_areSpies, rc_X11_spies, rc_X11_clear, rc_X11_best, rc_X11_layHours, rc_X11_flight, rc_X11_reach, rc_X11_dare, rc_X11_ordersOf, rc_X11_pivots, rc_X11_shares, rc_X11_gameOf, rc_X11_areTwo, rc_X11_game, rc_X11_rests, rc_X11_grave, rc_X11_dug, rc_X11_odds, rc_X11_mostOf, rc_X11_ablest, rc_X11_hides, rc_X11_order, rc_X11_safe, rc_X11_friends, rc_X11_oldest, rc_X11_learns, rc_X11_image, rc_X11_back, rc_X11_count, fv_0_0, fv_0_1, fv_0_2, fv_0_3, fv_1_0, fv_1_1, fv_1_2, fv_1_3, fv_1_4, fv_1_5, fv_1_6, fv_2_0, fv_2_1, fv_2_2, fv_2_3, fv_2_4, fv_3_0, fv_3_1, fv_4_0, fv_4_1, fv_4_2, fv_4_3, fv_4_4, fv_4_5, fv_4_6, fv_5_0, fv_6_0, fv_6_1, fv_6_2, fv_6_3, fv_6_4, fv_6_5, fv_7_0, fv_7_1, fv_7_2, fv_8_0, fv_8_1, fv_8_2, fv_8_3, fv_9_0, fv_9_1, fv_9_2, fv_10_0, fv_10_1, fv_10_2, fv_10_3, fv_10_4, fv_10_5, fv_10_6, fv_10_7, fv_10_8, fv_10_9, fv_10_10, fv_10_11, fv_10_12, fv_10_13, fv_10_14, fv_10_15, fv_10_16, fv_11_0, fv_11_1, fv_11_2, fv_11_3, fv_11_4, fv_11_5, fv_11_6, fv_11_7, fv_11_8, fv_11_9, fv_11_10, fv_11_11, fv_11_12, fv_11_13, fv_11_14, fv_11_15, fv_11_16, fv_11_17, fv_11_18, fv_11_19, fv_11_20, fv_11_21, fv_11_22, fv_11_23, fv_11_24, fv_11_25, fv_11_26, fv_11_27, fv_11_28, fv_11_29, fv_11_30, fv_11_31, fv_11_32, fv_11_33, fv_11_34, fv_11_35, fv_11_36, fv_11_37, fv_11_38, fv_11_39, fv_11_40, fv_11_41, fv_11_42, fv_11_43, fv_11_44, fv_11_45, ft_0_2, ft_0_3, ft_1_5, ft_1_6, ft_2_1, ft_2_2, ft_2_3, ft_2_4, ft_3_1, ft_4_4, ft_4_5, ft_4_6, ft_6_3, ft_6_4, ft_6_5, ft_7_2, ft_8_1, ft_8_2, ft_8_3, ft_9_1, ft_9_2, ft_10_15, ft_10_16, ft_11_0, ft_11_2, ft_11_3, ft_11_4, ft_11_5, ft_11_13, ft_11_14, ft_11_20, ft_11_21, ft_11_24, ft_11_25, ft_11_28, ft_11_29, ft_11_31, ft_11_32, ft_11_34, ft_11_35, ft_11_38, ft_11_43, ft_11_45, wk_1, wk_2, wk_3, wk_4, wk_5, wk_6, wk_7, wk_8, wk_9, wk_10, wk_11, wk_12, wk_14, wk_16, wk_19, wk_20, wk_24, wk_30, wk_32, wk_33, wk_38, wk_39, wk_40, wk_41, wk_42, wk_43, wk_45, wk_47, wk_48, wk_49, wk_50, wk_55, wk_57, wk_58, wk_59, wk_60, wk_61, wk_62, wk_63, wk_64, wk_80, wk_91, wk_93, wk_97, wk_98, wk_99, wk_100, wk_101, wk_102, wk_103, wk_104, wk_107, wk_108, wk_110, wk_111, wk_112, wk_115, wk_119, wk_121, wk_124, wk_140, wk_200, wk_231, wk_240, wk_255, wk_300, wk_520, wk_999, wk_1000, wk_1000000, wk_10000, wk_20000, wk_10033, wk_10059, wk_10063, wk_m1, wk_m2, h4, e1, m4]
  · rw [if_neg k]
    have gb := r_bad m4 x1.2
    refine ⟨ms M1 0 4 ((skS T p : Nat) : Int), ?_, fun c' => FrP_trans (f1 c') (FrP_0 (Or.inr (Or.inl rfl))) (Nat.le_refl c')⟩
    simp only [fin, dSeq, dSet, dInc, dIf, dIfE, dRet, dReV, dInt, dLoc, dBin, dDiv, dUn, dFld, dAr, dLen, dRo, dCal, dCon, dBo, dCmp, dCm0, dCmpL, dNul, dAnd, dOr, dNot, dA0, dA1, dDo, dPutF, dUpdF, dPutA, dUpdA, Option.bind_some, Option.bind_none, opF, dvF, dvW, mtF, List.getD_cons_zero, List.getD_cons_succ, List.set_cons_zero, List.set_cons_succ, List.length_cons, List.length_nil, List.headD_cons, List.nil_append, List.cons_append, ite_bind, cmpI, cmpL, wr_0, decide_eq_true_eq, reduceIte, true_and, and_true, false_and, and_false, not_true_eq_false, not_false_eq_true, true_or, or_true, false_or, or_false, Int.cast_ofNat_Int, Int.toNat_natCast, Bool.false_eq_true, Nat.reduceLT, Nat.reduceLeDiff, Nat.reduceAdd, Nat.reduceMul, Nat.reduceSub, Nat.reduceEqDiff, Int.reduceLT, Int.reduceLE, Int.reduceEq, Int.reduceNeg, Int.reduceAdd, Int.reduceMul, Int.reduceSub, Int.reduceToNat, Bool.not_true, Bool.not_false, Bool.not_eq_true, Bool.not_eq_eq_eq_not, decide_true, decide_false, ne_eq, reduceCtorEq, ms_eq, id_eq, Option.map_some, Nat.lt_add_one, Nat.zero_lt_succ, obM0, isM0, arM1, apM1, arM2, apM2, arM3, apM3, arM4, apM4, arM5, apM5, arM6, apM6, arM7, apM7, arM8, apM8, arM9, apM9, arM10, apM10, arM11, apM11, arM12, apM12, arM13, apM13, arM14, apM14, arM15, apM15, arM16, apM16, arM17, apM17, arM18, apM18, arM19, apM19, arM20, apM20, arM21, apM21, arM22, apM22, arM23, apM23, arM24, apM24, arM25, apM25, arM26, apM26, rc_J6_bitCount_0f7a4M, rc_X11_in, rc_X11_has, rc_X11_thrown, rc_X11_byteOf, rc_X11_feed, rc_X11_end, rc_X11_here, rc_X11_look, rc_X11_bad, rc_X11_isDigit, rc_X11_put, rc_X11_letterOf, rc_X11_opens, rc_X11_closes, rc_X11_plainNumber, rc_X11_atom, rc_X11_sum, rc_X11_term, rc_X11_isSign, rc_X11_compare, rc_X11_condition, rc_X11_goOnAnd, rc_X11_goOnOr, rc_X11_unit, rc_X11_clause, rc_X11_open, rc_X11_atEnd, rc_X11_readLaw, rc_X11_bounded, rc_X11_worked, rc_X11_workOut, rc_X11_worthOf, rc_X11_number, rc_X11_itemOf, rc_X11_lowest, rc_X11_highest, rc_X11_usual, rc_X11_items, rc_X11_isWhole, rc_X11_readMill, rc_X11_fault, rc_X11_lay, rc_X11_of, rc_X11_takeMill, rc_X11_text, rc_X11_isLad, rc_X11_lives, rc_X11_living, rc_X11_manyLive, rc_X11_fearBy, rc_X11_fear, rc_X11_chosenNow, rc_X11_friendsOf, rc_X11_signs, rc_X11_master, rc_X11_lad, rc_X11_way, rc_X11_law, rc_X11_learnsBy, rc_X11_live, rc_X11_artOf, rc_X11_passYear, rc_X11_keep, rc_X11_isRefused, rc_X11_show, rc_X11_warn, rc_X11_leave, rc_X11_comeNow, rc_X11_come, rc_X11_years, rc_X11_bold, rc_X11_draw, rc_X11_drawLads, rc_X11_winters, rc_X11_status, rc_X11_undo, rc_X11_log, rc_X11_chosen, rc_X11_putAside, rc_X11_takeBack, rc_X11_tryPath, rc_X11_path, rc_X11_holds, rc_X11_tells, rc_X11_twins, rc_X11_chain, rc_X11_trusts, rc_X11_out, rc_X11_isSpies, rc_X11_areSpies, rc_X11_spies, rc_X11_clear, rc_X11_best, rc_X11_layHours, rc_X11_flight, rc_X11_reach, rc_X11_dare, rc_X11_ordersOf, rc_X11_pivots, rc_X11_shares, rc_X11_gameOf, rc_X11_areTwo, rc_X11_game, rc_X11_rests, rc_X11_grave, rc_X11_dug, rc_X11_odds, rc_X11_mostOf, rc_X11_ablest, rc_X11_hides, rc_X11_order, rc_X11_safe, rc_X11_friends, rc_X11_oldest, rc_X11_learns, rc_X11_image, rc_X11_back, rc_X11_count, fv_0_0, fv_0_1, fv_0_2, fv_0_3, fv_1_0, fv_1_1, fv_1_2, fv_1_3, fv_1_4, fv_1_5, fv_1_6, fv_2_0, fv_2_1, fv_2_2, fv_2_3, fv_2_4, fv_3_0, fv_3_1, fv_4_0, fv_4_1, fv_4_2, fv_4_3, fv_4_4, fv_4_5, fv_4_6, fv_5_0, fv_6_0, fv_6_1, fv_6_2, fv_6_3, fv_6_4, fv_6_5, fv_7_0, fv_7_1, fv_7_2, fv_8_0, fv_8_1, fv_8_2, fv_8_3, fv_9_0, fv_9_1, fv_9_2, fv_10_0, fv_10_1, fv_10_2, fv_10_3, fv_10_4, fv_10_5, fv_10_6, fv_10_7, fv_10_8, fv_10_9, fv_10_10, fv_10_11, fv_10_12, fv_10_13, fv_10_14, fv_10_15, fv_10_16, fv_11_0, fv_11_1, fv_11_2, fv_11_3, fv_11_4, fv_11_5, fv_11_6, fv_11_7, fv_11_8, fv_11_9, fv_11_10, fv_11_11, fv_11_12, fv_11_13, fv_11_14, fv_11_15, fv_11_16, fv_11_17, fv_11_18, fv_11_19, fv_11_20, fv_11_21, fv_11_22, fv_11_23, fv_11_24, fv_11_25, fv_11_26, fv_11_27, fv_11_28, fv_11_29, fv_11_30, fv_11_31, fv_11_32, fv_11_33, fv_11_34, fv_11_35, fv_11_36, fv_11_37, fv_11_38, fv_11_39, fv_11_40, fv_11_41, fv_11_42, fv_11_43, fv_11_44, fv_11_45, ft_0_2, ft_0_3, ft_1_5, ft_1_6, ft_2_1, ft_2_2, ft_2_3, ft_2_4, ft_3_1, ft_4_4, ft_4_5, ft_4_6, ft_6_3, ft_6_4, ft_6_5, ft_7_2, ft_8_1, ft_8_2, ft_8_3, ft_9_1, ft_9_2, ft_10_15, ft_10_16, ft_11_0, ft_11_2, ft_11_3, ft_11_4, ft_11_5, ft_11_13, ft_11_14, ft_11_20, ft_11_21, ft_11_24, ft_11_25, ft_11_28, ft_11_29, ft_11_31, ft_11_32, ft_11_34, ft_11_35, ft_11_38, ft_11_43, ft_11_45, wk_1, wk_2, wk_3, wk_4, wk_5, wk_6, wk_7, wk_8, wk_9, wk_10, wk_11, wk_12, wk_14, wk_16, wk_19, wk_20, wk_24, wk_30, wk_32, wk_33, wk_38, wk_39, wk_40, wk_41, wk_42, wk_43, wk_45, wk_47, wk_48, wk_49, wk_50, wk_55, wk_57, wk_58, wk_59, wk_60, wk_61, wk_62, wk_63, wk_64, wk_80, wk_91, wk_93, wk_97, wk_98, wk_99, wk_100, wk_101, wk_102, wk_103, wk_104, wk_107, wk_108, wk_110, wk_111, wk_112, wk_115, wk_119, wk_121, wk_124, wk_140, wk_200, wk_231, wk_240, wk_255, wk_300, wk_520, wk_999, wk_1000, wk_1000000, wk_10000, wk_20000, wk_10033, wk_10059, wk_10063, wk_m1, wk_m2, h4, e1, wz, k, gb]
theorem r_atEndD {T : List Int} {w b e s cb : Nat} {M : Mem} (h : DeadM T w b e s cb M) : ci_X11_atEnd.2.2.2.2 [0] M = some ((b : Int), M) := by
  rw [u_X11_atEnd]
  have h4 := h.2.2.2.1
  have hb := h.2.2.2.2.1
  have hT := h.1.2.1
  have wb : wr (b : Int) = b := wr_nat (by omega)
  have nb : ¬ (b : Int) = -1 := by omega
  simp only [fin, dSeq, dSet, dInc, dIf, dIfE, dRet, dReV, dInt, dLoc, dBin, dDiv, dUn, dFld, dAr, dLen, dRo, dCal, dCon, dBo, dCmp, dCm0, dCmpL, dNul, dAnd, dOr, dNot, dA0, dA1, dDo, dPutF, dUpdF, dPutA, dUpdA, Option.bind_some, Option.bind_none, opF, dvF, dvW, mtF, List.getD_cons_zero, List.getD_cons_succ, List.set_cons_zero, List.set_cons_succ, List.length_cons, List.length_nil, List.headD_cons, List.nil_append, List.cons_append, ite_bind, cmpI, cmpL, wr_0, decide_eq_true_eq, reduceIte, true_and, and_true, false_and, and_false, not_true_eq_false, not_false_eq_true, true_or, or_true, false_or, or_false, Int.cast_ofNat_Int, Int.toNat_natCast, Bool.false_eq_true, Nat.reduceLT, Nat.reduceLeDiff, Nat.reduceAdd, Nat.reduceMul, Nat.reduceSub, Nat.reduceEqDiff, Int.reduceLT, Int.reduceLE, Int.reduceEq, Int.reduceNeg, Int.reduceAdd, Int.reduceMul, Int.reduceSub, Int.reduceToNat, Bool.not_true, Bool.not_false, Bool.not_eq_true, Bool.not_eq_eq_eq_not, decide_true, decide_false, ne_eq, reduceCtorEq, ms_eq, id_eq, Option.map_some, Nat.lt_add_one, Nat.zero_lt_succ, obM0, isM0, arM1, apM1, arM2, apM2, arM3, apM3, arM4, apM4, arM5, apM5, arM6, apM6, arM7, apM7, arM8, apM8, arM9, apM9, arM10, apM10, arM11, apM11, arM12, apM12, arM13, apM13, arM14, apM14, arM15, apM15, arM16, apM16, arM17, apM17, arM18, apM18, arM19, apM19, arM20, apM20, arM21, apM21, arM22, apM22, arM23, apM23, arM24, apM24, arM25, apM25, arM26, apM26, rc_J6_bitCount_0f7a4M, rc_X11_in, rc_X11_has, rc_X11_thrown, rc_X11_byteOf, rc_X11_feed, rc_X11_end, rc_X11_here, rc_X11_look, rc_X11_bad, rc_X11_isDigit, rc_X11_put, rc_X11_letterOf, rc_X11_opens, rc_X11_closes, rc_X11_plainNumber, rc_X11_atom, rc_X11_sum, rc_X11_term, rc_X11_isSign, rc_X11_compare, rc_X11_condition, rc_X11_goOnAnd, rc_X11_goOnOr, rc_X11_unit, rc_X11_clause, rc_X11_open, rc_X11_atEnd, rc_X11_readLaw, rc_X11_bounded, rc_X11_worked, rc_X11_workOut, rc_X11_worthOf, rc_X11_number, rc_X11_itemOf, rc_X11_lowest, rc_X11_highest, rc_X11_usual, rc_X11_items, rc_X11_isWhole, rc_X11_readMill, rc_X11_fault, rc_X11_lay, rc_X11_of, rc_X11_takeMill, rc_X11_text, rc_X11_isLad, rc_X11_lives, rc_X11_living, rc_X11_manyLive, rc_X11_fearBy, rc_X11_fear, rc_X11_chosenNow, rc_X11_friendsOf, rc_X11_signs, rc_X11_master, rc_X11_lad, rc_X11_way, rc_X11_law, rc_X11_learnsBy, rc_X11_live, rc_X11_artOf, rc_X11_passYear, rc_X11_keep, rc_X11_isRefused, rc_X11_show, rc_X11_warn, rc_X11_leave, rc_X11_comeNow, rc_X11_come, rc_X11_years, rc_X11_bold, rc_X11_draw, rc_X11_drawLads, rc_X11_winters, rc_X11_status, rc_X11_undo, rc_X11_log, rc_X11_chosen, rc_X11_putAside, rc_X11_takeBack, rc_X11_tryPath, rc_X11_path, rc_X11_holds, rc_X11_tells, rc_X11_twins, rc_X11_chain, rc_X11_trusts, rc_X11_out, rc_X11_isSpies, rc_X11_areSpies, rc_X11_spies, rc_X11_clear, rc_X11_best, rc_X11_layHours, rc_X11_flight, rc_X11_reach, rc_X11_dare, rc_X11_ordersOf, rc_X11_pivots, rc_X11_shares, rc_X11_gameOf, rc_X11_areTwo, rc_X11_game, rc_X11_rests, rc_X11_grave, rc_X11_dug, rc_X11_odds, rc_X11_mostOf, rc_X11_ablest, rc_X11_hides, rc_X11_order, rc_X11_safe, rc_X11_friends, rc_X11_oldest, rc_X11_learns, rc_X11_image, rc_X11_back, rc_X11_count, fv_0_0, fv_0_1, fv_0_2, fv_0_3, fv_1_0, fv_1_1, fv_1_2, fv_1_3, fv_1_4, fv_1_5, fv_1_6, fv_2_0, fv_2_1, fv_2_2, fv_2_3, fv_2_4, fv_3_0, fv_3_1, fv_4_0, fv_4_1, fv_4_2, fv_4_3, fv_4_4, fv_4_5, fv_4_6, fv_5_0, fv_6_0, fv_6_1, fv_6_2, fv_6_3, fv_6_4, fv_6_5, fv_7_0, fv_7_1, fv_7_2, fv_8_0, fv_8_1, fv_8_2, fv_8_3, fv_9_0, fv_9_1, fv_9_2, fv_10_0, fv_10_1, fv_10_2, fv_10_3, fv_10_4, fv_10_5, fv_10_6, fv_10_7, fv_10_8, fv_10_9, fv_10_10, fv_10_11, fv_10_12, fv_10_13, fv_10_14, fv_10_15, fv_10_16, fv_11_0, fv_11_1, fv_11_2, fv_11_3, fv_11_4, fv_11_5, fv_11_6, fv_11_7, fv_11_8, fv_11_9, fv_11_10, fv_11_11, fv_11_12, fv_11_13, fv_11_14, fv_11_15, fv_11_16, fv_11_17, fv_11_18, fv_11_19, fv_11_20, fv_11_21, fv_11_22, fv_11_23, fv_11_24, fv_11_25, fv_11_26, fv_11_27, fv_11_28, fv_11_29, fv_11_30, fv_11_31, fv_11_32, fv_11_33, fv_11_34, fv_11_35, fv_11_36, fv_11_37, fv_11_38, fv_11_39, fv_11_40, fv_11_41, fv_11_42, fv_11_43, fv_11_44, fv_11_45, ft_0_2, ft_0_3, ft_1_5, ft_1_6, ft_2_1, ft_2_2, ft_2_3, ft_2_4, ft_3_1, ft_4_4, ft_4_5, ft_4_6, ft_6_3, ft_6_4, ft_6_5, ft_7_2, ft_8_1, ft_8_2, ft_8_3, ft_9_1, ft_9_2, ft_10_15, ft_10_16, ft_11_0, ft_11_2, ft_11_3, ft_11_4, ft_11_5, ft_11_13, ft_11_14, ft_11_20, ft_11_21, ft_11_24, ft_11_25, ft_11_28, ft_11_29, ft_11_31, ft_11_32, ft_11_34, ft_11_35, ft_11_38, ft_11_43, ft_11_45, wk_1, wk_2, wk_3, wk_4, wk_5, wk_6, wk_7, wk_8, wk_9, wk_10, wk_11, wk_12, wk_14, wk_16, wk_19, wk_20, wk_24, wk_30, wk_32, wk_33, wk_38, wk_39, wk_40, wk_41, wk_42, wk_43, wk_45, wk_47, wk_48, wk_49, wk_50, wk_55, wk_57, wk_58, wk_59, wk_60, wk_61, wk_62, wk_63, wk_64, wk_80, wk_91, wk_93, wk_97, wk_98, wk_99, wk_100, wk_101, wk_102, wk_103, wk_104, wk_107, wk_108, wk_110, wk_111, wk_112, wk_115, wk_119, wk_121, wk_124, wk_140, wk_200, wk_231, wk_240, wk_255, wk_300, wk_520, wk_999, wk_1000, wk_1000000, wk_10000, wk_20000, wk_10033, wk_10059, wk_10063, wk_m1, wk_m2, h4, wb, nb]
/-- what reading a law may change -/
def FrR (w : Nat) (M M' : Mem) : Prop := (∀ k, ¬ k = 3 → ¬ k = 4 → ¬ k = 5 → ¬ k = 14 → M' 0 k = M 0 k) ∧ (∀ i, i < 520 * w ∨ 520 * w + 520 ≤ i → M' 2 i = M 2 i ∧ M' 3 i = M 3 i) ∧ (∀ i, ¬ i = w → M' 4 i = M 4 i ∧ M' 5 i = M 5 i) ∧ (∀ i, i < 140 * w ∨ 140 * w + 140 ≤ i → M' 6 i = M 6 i ∧ M' 7 i = M 7 i ∧ M' 8 i = M 8 i) ∧ ∀ j, ¬ j = 0 → ¬ j = 2 → ¬ j = 3 → ¬ j = 4 → ¬ j = 5 → ¬ j = 6 → ¬ j = 7 → ¬ j = 8 → M' j = M j
theorem FrR_K {w : Nat} {M M1 M2 : Mem} (h : FrR w M M1) (g : FrK w 0 0 M1 M2) : FrR w M M2 :=
  ⟨fun k a b d e => by rw [g.1 k a b d, h.1 k a b d e], fun i hi => by
    have g2 := g.2.1 i (by omega)
    have h2 := h.2.1 i hi
    exact ⟨by rw [g2.1, h2.1], by rw [g2.2, h2.2]⟩, fun i hi => by
    have g2 := g.2.2.1 i hi
    have h2 := h.2.2.1 i hi
    exact ⟨by rw [g2.1, h2.1], by rw [g2.2, h2.2]⟩, fun i hi => by
    have g2 := g.2.2.2.1 i (by omega)
    have h2 := h.2.2.2.1 i hi
    exact ⟨by rw [g2.1, h2.1], by rw [g2.2.1, h2.2.1], by rw [g2.2.2, h2.2.2]⟩, fun j a b d e f k l m => by rw [g.2.2.2.2 j a b d e f k l m, h.2.2.2.2 j a b d e f k l m]⟩
theorem r_open {M : Mem} {T : List Int} (h : TpM M T) {w : Nat} (hw : w < 5) : ∃ M', ci_X11_open.2.2.2.2 [0, (w : Int)] M = some (0, M') ∧ LiveM T w 0 0 0 0 M' ∧ M' 5 w = 0 ∧ FrR w M M' := by
  rw [u_X11_open]
  have ww : wr (w : Int) = w := wr_nat (by omega)
  have w5 : (w : Int) < 5 := by omega
  have w0 : (0 : Int) ≤ (w : Int) := by omega
  refine ⟨ms (ms (ms (ms (ms (ms M 0 14 (w : Int)) 0 3 0) 0 4 (-1)) 0 5 0) 4 w 0) 5 w 0, ?_, ?_, ?_, ?_⟩
  · simp only [fin, dSeq, dSet, dInc, dIf, dIfE, dRet, dReV, dInt, dLoc, dBin, dDiv, dUn, dFld, dAr, dLen, dRo, dCal, dCon, dBo, dCmp, dCm0, dCmpL, dNul, dAnd, dOr, dNot, dA0, dA1, dDo, dPutF, dUpdF, dPutA, dUpdA, Option.bind_some, Option.bind_none, opF, dvF, dvW, mtF, List.getD_cons_zero, List.getD_cons_succ, List.set_cons_zero, List.set_cons_succ, List.length_cons, List.length_nil, List.headD_cons, List.nil_append, List.cons_append, ite_bind, cmpI, cmpL, wr_0, decide_eq_true_eq, reduceIte, true_and, and_true, false_and, and_false, not_true_eq_false, not_false_eq_true, true_or, or_true, false_or, or_false, Int.cast_ofNat_Int, Int.toNat_natCast, Bool.false_eq_true, Nat.reduceLT, Nat.reduceLeDiff, Nat.reduceAdd, Nat.reduceMul, Nat.reduceSub, Nat.reduceEqDiff, Int.reduceLT, Int.reduceLE, Int.reduceEq, Int.reduceNeg, Int.reduceAdd, Int.reduceMul, Int.reduceSub, Int.reduceToNat, Bool.not_true, Bool.not_false, Bool.not_eq_true, Bool.not_eq_eq_eq_not, decide_true, decide_false, ne_eq, reduceCtorEq, ms_eq, id_eq, Option.map_some, Nat.lt_add_one, Nat.zero_lt_succ, obM0, isM0, arM1, apM1, arM2, apM2, arM3, apM3, arM4, apM4, arM5, apM5, arM6, apM6, arM7, apM7, arM8, apM8, arM9, apM9, arM10, apM10, arM11, apM11, arM12, apM12, arM13, apM13, arM14, apM14, arM15, apM15, arM16, apM16, arM17, apM17, arM18, apM18, arM19, apM19, arM20, apM20, arM21, apM21, arM22, apM22, arM23, apM23, arM24, apM24, arM25, apM25, arM26, apM26, rc_J6_bitCount_0f7a4M, rc_X11_in, rc_X11_has, rc_X11_thrown, rc_X11_byteOf, rc_X11_feed, rc_X11_end, rc_X11_here, rc_X11_look, rc_X11_bad, rc_X11_isDigit, rc_X11_put, rc_X11_letterOf, rc_X11_opens, rc_X11_closes, rc_X11_plainNumber, rc_X11_atom, rc_X11_sum, rc_X11_term, rc_X11_isSign, rc_X11_compare, rc_X11_condition, rc_X11_goOnAnd, rc_X11_goOnOr, rc_X11_unit, rc_X11_clause, rc_X11_open, rc_X11_atEnd, rc_X11_readLaw, rc_X11_bounded, rc_X11_worked, rc_X11_workOut, rc_X11_worthOf, rc_X11_number, rc_X11_itemOf, rc_X11_lowest, rc_X11_highest, rc_X11_usual, rc_X11_items, rc_X11_isWhole, rc_X11_readMill, rc_X11_fault, rc_X11_lay, rc_X11_of, rc_X11_takeMill, rc_X11_text, rc_X11_isLad, rc_X11_lives, rc_X11_living, rc_X11_manyLive, rc_X11_fearBy, rc_X11_fear, rc_X11_chosenNow, rc_X11_friendsOf, rc_X11_signs, rc_X11_master, rc_X11_lad, rc_X11_way, rc_X11_law, rc_X11_learnsBy, rc_X11_live, rc_X11_artOf, rc_X11_passYear, rc_X11_keep, rc_X11_isRefused, rc_X11_show, rc_X11_warn, rc_X11_leave, rc_X11_comeNow, rc_X11_come, rc_X11_years, rc_X11_bold, rc_X11_draw, rc_X11_drawLads, rc_X11_winters, rc_X11_status, rc_X11_undo, rc_X11_log, rc_X11_chosen, rc_X11_putAside, rc_X11_takeBack, rc_X11_tryPath, rc_X11_path, rc_X11_holds, rc_X11_tells, rc_X11_twins, rc_X11_chain, rc_X11_trusts, rc_X11_out, rc_X11_isSpies, rc_X11_areSpies, rc_X11_spies, rc_X11_clear, rc_X11_best, rc_X11_layHours, rc_X11_flight, rc_X11_reach, rc_X11_dare, rc_X11_ordersOf, rc_X11_pivots, rc_X11_shares, rc_X11_gameOf, rc_X11_areTwo, rc_X11_game, rc_X11_rests, rc_X11_grave, rc_X11_dug, rc_X11_odds, rc_X11_mostOf, rc_X11_ablest, rc_X11_hides, rc_X11_order, rc_X11_safe, rc_X11_friends, rc_X11_oldest, rc_X11_learns, rc_X11_image, rc_X11_back, rc_X11_count, fv_0_0, fv_0_1, fv_0_2, fv_0_3, fv_1_0, fv_1_1, fv_1_2, fv_1_3, fv_1_4, fv_1_5, fv_1_6, fv_2_0, fv_2_1, fv_2_2, fv_2_3, fv_2_4, fv_3_0, fv_3_1, fv_4_0, fv_4_1, fv_4_2, fv_4_3, fv_4_4, fv_4_5, fv_4_6, fv_5_0, fv_6_0, fv_6_1, fv_6_2, fv_6_3, fv_6_4, fv_6_5, fv_7_0, fv_7_1, fv_7_2, fv_8_0, fv_8_1, fv_8_2, fv_8_3, fv_9_0, fv_9_1, fv_9_2, fv_10_0, fv_10_1, fv_10_2, fv_10_3, fv_10_4, fv_10_5, fv_10_6, fv_10_7, fv_10_8, fv_10_9, fv_10_10, fv_10_11, fv_10_12, fv_10_13, fv_10_14, fv_10_15, fv_10_16, fv_11_0, fv_11_1, fv_11_2, fv_11_3, fv_11_4, fv_11_5, fv_11_6, fv_11_7, fv_11_8, fv_11_9, fv_11_10, fv_11_11, fv_11_12, fv_11_13, fv_11_14, fv_11_15, fv_11_16, fv_11_17, fv_11_18, fv_11_19, fv_11_20, fv_11_21, fv_11_22, fv_11_23, fv_11_24, fv_11_25, fv_11_26, fv_11_27, fv_11_28, fv_11_29, fv_11_30, fv_11_31, fv_11_32, fv_11_33, fv_11_34, fv_11_35, fv_11_36, fv_11_37, fv_11_38, fv_11_39, fv_11_40, fv_11_41, fv_11_42, fv_11_43, fv_11_44, fv_11_45, ft_0_2, ft_0_3, ft_1_5, ft_1_6, ft_2_1, ft_2_2, ft_2_3, ft_2_4, ft_3_1, ft_4_4, ft_4_5, ft_4_6, ft_6_3, ft_6_4, ft_6_5, ft_7_2, ft_8_1, ft_8_2, ft_8_3, ft_9_1, ft_9_2, ft_10_15, ft_10_16, ft_11_0, ft_11_2, ft_11_3, ft_11_4, ft_11_5, ft_11_13, ft_11_14, ft_11_20, ft_11_21, ft_11_24, ft_11_25, ft_11_28, ft_11_29, ft_11_31, ft_11_32, ft_11_34, ft_11_35, ft_11_38, ft_11_43, ft_11_45, ww, w5, w0]
  · refine ⟨?_, hw, by decide, ?_, ?_, ?_, ?_, Nat.zero_le _, 0, ?_, Nat.zero_le _, Nat.le_refl 0, rfl⟩
    · obtain ⟨h1, h2, h3⟩ := h
      refine ⟨?_, h2, fun i hi => ?_⟩
      · rw [ms_ne (by decide), ms_ne (by decide)]
        simp [ms]
        exact h1
      · rw [ms_ne (by decide), ms_ne (by decide), ms_ne (by decide), ms_ne (by decide), ms_ne (by decide), ms_ne (by decide)]
        exact h3 i hi
    · rw [ms_ne (by decide), ms_ne (by decide)]
      simp [ms]
    · rw [ms_ne (by decide), ms_ne (by decide)]
      simp [ms]
    · rw [ms_ne (by decide), ms_ne (by decide)]
      simp [ms]
    · rw [ms_ne (by decide), ms_at, if_pos ⟨rfl, rfl⟩]
      rfl
    · rw [ms_ne (by decide), ms_ne (by decide)]
      simp [ms]
  · rw [ms_at, if_pos ⟨rfl, rfl⟩]
  · refine ⟨fun k a b d e => ?_, fun i _ => ⟨?_, ?_⟩, fun i hi => ⟨?_, ?_⟩, fun i _ => ⟨?_, ?_, ?_⟩, fun j a b d e f k l m => ?_⟩
    · rw [ms_ne (by decide), ms_ne (by decide)]
      simp [ms, a, b, d, e]
    · rw [ms_ne (by decide), ms_ne (by decide), ms_ne (by decide), ms_ne (by decide), ms_ne (by decide), ms_ne (by decide)]
    · rw [ms_ne (by decide), ms_ne (by decide), ms_ne (by decide), ms_ne (by decide), ms_ne (by decide), ms_ne (by decide)]
    · rw [ms_ne (by decide), ms_at, if_neg (fun z => hi z.2), ms_ne (by decide), ms_ne (by decide), ms_ne (by decide), ms_ne (by decide)]
    · rw [ms_at, if_neg (fun z => hi z.2), ms_ne (by decide), ms_ne (by decide), ms_ne (by decide), ms_ne (by decide), ms_ne (by decide)]
    · rw [ms_ne (by decide), ms_ne (by decide), ms_ne (by decide), ms_ne (by decide), ms_ne (by decide), ms_ne (by decide)]
    · rw [ms_ne (by decide), ms_ne (by decide), ms_ne (by decide), ms_ne (by decide), ms_ne (by decide), ms_ne (by decide)]
    · rw [ms_ne (by decide), ms_ne (by decide), ms_ne (by decide), ms_ne (by decide), ms_ne (by decide), ms_ne (by decide)]
    · rw [ms_ne f, ms_ne e, ms_ne a, ms_ne a, ms_ne a, ms_ne a]
theorem TpM_K {w c nc : Nat} {M M' : Mem} {T : List Int} (h : TpM M T) (f : FrK w c nc M M') : TpM M' T := by
  obtain ⟨h1, h2, h3⟩ := h
  exact ⟨by rw [f.1 2 (by decide) (by decide) (by decide)]; exact h1, h2, fun i hi => by rw [f.2.2.2.2 1 (by decide) (by decide) (by decide) (by decide) (by decide) (by decide) (by decide) (by decide)]; exact h3 i hi⟩
theorem LawM_R {w n : Nat} {M M' : Mem} {cl : List (List Int × List Int)} (h : LawM M w cl) (f : FrR n M M') (hn : ¬ w = n) : LawM M' w cl := by
  obtain ⟨h1, h2, h3, h4⟩ := h
  refine ⟨h1, by rw [(f.2.2.1 w hn).2]; exact h2, h3, ?_⟩
  have key : ∀ (cl : List (List Int × List Int)) (j o : Nat), ClsM M w j o cl → j + cl.length ≤ 140 → ClsM M' w j o cl := by
    intro cl
    induction cl with
    | nil => intro j o _ _; trivial
    | cons q cl ih =>
      intro j o h hj
      rw [List.length_cons] at hj
      obtain ⟨a1, a2, a3, a4, a5, a6, a7⟩ := h
      obtain ⟨g6, g7, g8⟩ := f.2.2.2.1 (140 * w + j) (by omega)
      have at2 : ∀ (i : Nat) (a : List Int), AtM M (520 * w + i) a → i + a.length ≤ 520 → AtM M' (520 * w + i) a := fun i a ha hi z hz => by
        have := ha z hz
        have g := f.2.1 (520 * w + i + z) (by omega)
        unfold CdM at this ⊢
        rw [g.1, g.2]
        exact this
      exact ⟨by rw [g6]; exact a1, by rw [g7]; exact a2, by rw [g8]; exact a3, at2 _ _ a4 (by omega), at2 _ _ a5 (by omega), a6, ih _ _ a7 (by omega)⟩
  exact key cl 0 0 h4 (by omega)
theorem flS_2 : ∀ (cl : List (List Int × List Int)), (∀ q ∈ cl, okCl q) → 2 * cl.length ≤ (flS cl).length
  | [], _ => Nat.zero_le _
  | q :: cl, h => by
    have h1 := flC_2 (h q (List.mem_cons_self ..))
    have h2 := flS_2 cl (fun x hx => h x (List.mem_cons_of_mem _ hx))
    show 2 * (q :: cl).length ≤ (flC q ++ flS cl).length
    rw [List.length_append, List.length_cons]
    omega
theorem r_readLaw {M : Mem} {T : List Int} (h : TpM M T) {w : Nat} (hw : w < 5) : ∃ M', ci_X11_readLaw.2.2.2.2 [0, (w : Int)] M = some (if (lawR T).1 = true then -1 else (((lawR T).2.1 : Nat) : Int), M') ∧ TpM M' T ∧ FrR w M M' ∧ ((lawR T).1 = true → LawM M' w (lawR T).2.2) := by
  rw [u_X11_readLaw]
  have hT := h.2.1
  obtain ⟨M1, o1, o2, o3, o4⟩ := r_open h hw
  obtain ⟨M2, q1, q2⟩ := r_clause o2 (nc := 0) (by rw [o3]; rfl) (by decide)
  have s1 : (dDo wM ci_X11_open (dA1 (dA1 dA0 (dLoc 0)) (dLoc 1))) [0, (w : Int)] M = some (none, [0, (w : Int)], M1) := by simp only [fin, dSeq, dSet, dInc, dIf, dIfE, dRet, dReV, dInt, dLoc, dBin, dDiv, dUn, dFld, dAr, dLen, dRo, dCal, dCon, dBo, dCmp, dCm0, dCmpL, dNul, dAnd, dOr, dNot, dA0, dA1, dDo, dPutF, dUpdF, dPutA, dUpdA, Option.bind_some, Option.bind_none, opF, dvF, dvW, mtF, List.getD_cons_zero, List.getD_cons_succ, List.set_cons_zero, List.set_cons_succ, List.length_cons, List.length_nil, List.headD_cons, List.nil_append, List.cons_append, ite_bind, cmpI, cmpL, wr_0, decide_eq_true_eq, reduceIte, true_and, and_true, false_and, and_false, not_true_eq_false, not_false_eq_true, true_or, or_true, false_or, or_false, Int.cast_ofNat_Int, Int.toNat_natCast, Bool.false_eq_true, Nat.reduceLT, Nat.reduceLeDiff, Nat.reduceAdd, Nat.reduceMul, Nat.reduceSub, Nat.reduceEqDiff, Int.reduceLT, Int.reduceLE, Int.reduceEq, Int.reduceNeg, Int.reduceAdd, Int.reduceMul, Int.reduceSub, Int.reduceToNat, Bool.not_true, Bool.not_false, Bool.not_eq_true, Bool.not_eq_eq_eq_not, decide_true, decide_false, ne_eq, reduceCtorEq, ms_eq, id_eq, Option.map_some, Nat.lt_add_one, Nat.zero_lt_succ, obM0, isM0, arM1, apM1, arM2, apM2, arM3, apM3, arM4, apM4, arM5, apM5, arM6, apM6, arM7, apM7, arM8, apM8, arM9, apM9, arM10, apM10, arM11, apM11, arM12, apM12, arM13, apM13, arM14, apM14, arM15, apM15, arM16, apM16, arM17, apM17, arM18, apM18, arM19, apM19, arM20, apM20, arM21, apM21, arM22, apM22, arM23, apM23, arM24, apM24, arM25, apM25, arM26, apM26, rc_J6_bitCount_0f7a4M, rc_X11_in, rc_X11_has, rc_X11_thrown, rc_X11_byteOf, rc_X11_feed, rc_X11_end, rc_X11_here, rc_X11_look, rc_X11_bad, rc_X11_isDigit, rc_X11_put, rc_X11_letterOf, rc_X11_opens, rc_X11_closes, rc_X11_plainNumber, rc_X11_atom, rc_X11_sum, rc_X11_term, rc_X11_isSign, rc_X11_compare, rc_X11_condition, rc_X11_goOnAnd, rc_X11_goOnOr, rc_X11_unit, rc_X11_clause, rc_X11_open, rc_X11_atEnd, rc_X11_readLaw, rc_X11_bounded, rc_X11_worked, rc_X11_workOut, rc_X11_worthOf, rc_X11_number, rc_X11_itemOf, rc_X11_lowest, rc_X11_highest, rc_X11_usual, rc_X11_items, rc_X11_isWhole, rc_X11_readMill, rc_X11_fault, rc_X11_lay, rc_X11_of, rc_X11_takeMill, rc_X11_text, rc_X11_isLad, rc_X11_lives, rc_X11_living, rc_X11_manyLive, rc_X11_fearBy, rc_X11_fear, rc_X11_chosenNow, rc_X11_friendsOf, rc_X11_signs, rc_X11_master, rc_X11_lad, rc_X11_way, rc_X11_law, rc_X11_learnsBy, rc_X11_live, rc_X11_artOf, rc_X11_passYear, rc_X11_keep, rc_X11_isRefused, rc_X11_show, rc_X11_warn, rc_X11_leave, rc_X11_comeNow, rc_X11_come, rc_X11_years, rc_X11_bold, rc_X11_draw, rc_X11_drawLads, rc_X11_winters, rc_X11_status, rc_X11_undo, rc_X11_log, rc_X11_chosen, rc_X11_putAside, rc_X11_takeBack, rc_X11_tryPath, rc_X11_path, rc_X11_holds, rc_X11_tells, rc_X11_twins, rc_X11_chain, rc_X11_trusts, rc_X11_out, rc_X11_isSpies, rc_X11_areSpies, rc_X11_spies, rc_X11_clear, rc_X11_best, rc_X11_layHours, rc_X11_flight, rc_X11_reach, rc_X11_dare, rc_X11_ordersOf, rc_X11_pivots, rc_X11_shares, rc_X11_gameOf, rc_X11_areTwo, rc_X11_game, rc_X11_rests, rc_X11_grave, rc_X11_dug, rc_X11_odds, rc_X11_mostOf, rc_X11_ablest, rc_X11_hides, rc_X11_order, rc_X11_safe, rc_X11_friends, rc_X11_oldest, rc_X11_learns, rc_X11_image, rc_X11_back, rc_X11_count, fv_0_0, fv_0_1, fv_0_2, fv_0_3, fv_1_0, fv_1_1, fv_1_2, fv_1_3, fv_1_4, fv_1_5, fv_1_6, fv_2_0, fv_2_1, fv_2_2, fv_2_3, fv_2_4, fv_3_0, fv_3_1, fv_4_0, fv_4_1, fv_4_2, fv_4_3, fv_4_4, fv_4_5, fv_4_6, fv_5_0, fv_6_0, fv_6_1, fv_6_2, fv_6_3, fv_6_4, fv_6_5, fv_7_0, fv_7_1, fv_7_2, fv_8_0, fv_8_1, fv_8_2, fv_8_3, fv_9_0, fv_9_1, fv_9_2, fv_10_0, fv_10_1, fv_10_2, fv_10_3, fv_10_4, fv_10_5, fv_10_6, fv_10_7, fv_10_8, fv_10_9, fv_10_10, fv_10_11, fv_10_12, fv_10_13, fv_10_14, fv_10_15, fv_10_16, fv_11_0, fv_11_1, fv_11_2, fv_11_3, fv_11_4, fv_11_5, fv_11_6, fv_11_7, fv_11_8, fv_11_9, fv_11_10, fv_11_11, fv_11_12, fv_11_13, fv_11_14, fv_11_15, fv_11_16, fv_11_17, fv_11_18, fv_11_19, fv_11_20, fv_11_21, fv_11_22, fv_11_23, fv_11_24, fv_11_25, fv_11_26, fv_11_27, fv_11_28, fv_11_29, fv_11_30, fv_11_31, fv_11_32, fv_11_33, fv_11_34, fv_11_35, fv_11_36, fv_11_37, fv_11_38, fv_11_39, fv_11_40, fv_11_41, fv_11_42, fv_11_43, fv_11_44, fv_11_45, ft_0_2, ft_0_3, ft_1_5, ft_1_6, ft_2_1, ft_2_2, ft_2_3, ft_2_4, ft_3_1, ft_4_4, ft_4_5, ft_4_6, ft_6_3, ft_6_4, ft_6_5, ft_7_2, ft_8_1, ft_8_2, ft_8_3, ft_9_1, ft_9_2, ft_10_15, ft_10_16, ft_11_0, ft_11_2, ft_11_3, ft_11_4, ft_11_5, ft_11_13, ft_11_14, ft_11_20, ft_11_21, ft_11_24, ft_11_25, ft_11_28, ft_11_29, ft_11_31, ft_11_32, ft_11_34, ft_11_35, ft_11_38, ft_11_43, ft_11_45, o1]
  have s2 := s_do0 (ci := ci_X11_clause) (ρ := [(w : Int)]) (rc_X11_clause [0]) q1
  have ok := clR_ok (T := T) (p := 0) (Nat.zero_le _)
  have lok := fun z => lawR_ok (T := T) z hT
  have finA : ∀ (M3 M4 : Mem) (b : Int), dWh wc1_X11_readLaw wb1_X11_readLaw [0, (w : Int)] M2 = some (none, [0, (w : Int)], M3) → ci_X11_atEnd.2.2.2.2 [0] M3 = some (b, M4) → fin false (dSeq (dDo wM ci_X11_open (dA1 (dA1 dA0 (dLoc 0)) (dLoc 1)))
  (dSeq (dDo wM ci_X11_clause (dA1 dA0 (dLoc 0)))
  (dSeq (dWh (wc1_X11_readLaw) (wb1_X11_readLaw))
  (dRet (dCal wM ci_X11_atEnd (dA1 dA0 (dLoc 0)))))) [0, (w : Int)] M) = some (b, M4) := fun M3 M4 b g1 g2 => by
    have e := e_cal0 (ci := ci_X11_atEnd) (ρ := [(w : Int)]) (rc_X11_atEnd [0]) g2
    refine fin_N s1 (seq_t s2 (seq_t g1 (?_ : _ = some (some b, [0, (w : Int)], M4))))
    simp only [dRet, e, Option.bind_some]
  have ecc : wc1_X11_readLaw = ccO 59 := rfl
  unfold lawR at lok ⊢
  generalize clR T 0 = r at *
  cases er : r.1 with
  | false =>
    have dd := q2.2.2 er
    show ∃ M', _ = some (if (if r.1 = true then _ else (false, r.2.1, []) : RdL).1 = true then _ else ((((if r.1 = true then _ else (false, r.2.1, []) : RdL)).2.1 : Nat) : Int), M') ∧ _
    rw [er]
    refine ⟨M2, finA M2 M2 _ (dWh_end (by rw [ecc]; exact ccR_d dd 59)) (r_atEndD dd), TpM_K (dd.1) (FrK_refl w 0 0 M2), FrR_K o4 q2.1, fun z => ?_⟩
    have z : ((if r.1 = true then _ else (false, r.2.1, []) : RdL)).1 = true := z
    rw [if_neg (by rw [er]; decide)] at z
    cases z
  | true =>
    obtain ⟨lv, m5, cl⟩ := q2.2.1 er
    obtain ⟨k1, k2⟩ := ok.1 er
    have k3 := flC_2 k1
    obtain ⟨M3, w1, w2⟩ := r_lawL (ρ := [(w : Int)]) 240 r.2.1 _ 1 M2 (LiveM_less lv (Nat.zero_le _)) m5 (by omega) (by omega)
    have lok2 : ∀ u, clsR T 240 r.2.1 = u → (if u.1 = true then (if sgT T u.2.1 = -1 then (true, u.2.1, r.2.2 :: u.2.2) else (false, skS T u.2.1, [])) else (false, u.2.1, []) : RdL).1 = true → (∀ q ∈ ((if u.1 = true then (if sgT T u.2.1 = -1 then (true, u.2.1, r.2.2 :: u.2.2) else (false, skS T u.2.1, [])) else (false, u.2.1, []) : RdL)).2.2, okCl q) ∧ (flS ((if u.1 = true then (if sgT T u.2.1 = -1 then (true, u.2.1, r.2.2 :: u.2.2) else (false, skS T u.2.1, [])) else (false, u.2.1, []) : RdL)).2.2).length ≤ 240 := fun u eu z => by
      subst eu
      have := lok (by show (if r.1 = true then (if (clsR T 240 r.2.1).1 = true then (if sgT T (clsR T 240 r.2.1).2.1 = -1 then (true, (clsR T 240 r.2.1).2.1, r.2.2 :: (clsR T 240 r.2.1).2.2) else (false, skS T (clsR T 240 r.2.1).2.1, [])) else (false, (clsR T 240 r.2.1).2.1, [])) else _ : RdL).1 = true; rw [if_pos er]; exact z)
      have this : (∀ q ∈ (if r.1 = true then (if (clsR T 240 r.2.1).1 = true then (if sgT T (clsR T 240 r.2.1).2.1 = -1 then (true, (clsR T 240 r.2.1).2.1, r.2.2 :: (clsR T 240 r.2.1).2.2) else (false, skS T (clsR T 240 r.2.1).2.1, [])) else (false, (clsR T 240 r.2.1).2.1, [])) else _ : RdL).2.2, okCl q) ∧ (flS (if r.1 = true then (if (clsR T 240 r.2.1).1 = true then (if sgT T (clsR T 240 r.2.1).2.1 = -1 then (true, (clsR T 240 r.2.1).2.1, r.2.2 :: (clsR T 240 r.2.1).2.2) else (false, skS T (clsR T 240 r.2.1).2.1, [])) else (false, (clsR T 240 r.2.1).2.1, [])) else _ : RdL).2.2).length ≤ 240 := this
      rw [if_pos er] at this
      exact this
    show ∃ M', _ = some (if (if r.1 = true then (if (clsR T 240 r.2.1).1 = true then (if sgT T (clsR T 240 r.2.1).2.1 = -1 then (true, (clsR T 240 r.2.1).2.1, r.2.2 :: (clsR T 240 r.2.1).2.2) else (false, skS T (clsR T 240 r.2.1).2.1, [])) else (false, (clsR T 240 r.2.1).2.1, [])) else _ : RdL).1 = true then _ else ((((if r.1 = true then (if (clsR T 240 r.2.1).1 = true then (if sgT T (clsR T 240 r.2.1).2.1 = -1 then (true, (clsR T 240 r.2.1).2.1, r.2.2 :: (clsR T 240 r.2.1).2.2) else (false, skS T (clsR T 240 r.2.1).2.1, [])) else (false, (clsR T 240 r.2.1).2.1, [])) else _ : RdL)).2.1 : Nat) : Int), M') ∧ _ ∧ _ ∧ ((if r.1 = true then (if (clsR T 240 r.2.1).1 = true then (if sgT T (clsR T 240 r.2.1).2.1 = -1 then (true, (clsR T 240 r.2.1).2.1, r.2.2 :: (clsR T 240 r.2.1).2.2) else (false, skS T (clsR T 240 r.2.1).2.1, [])) else (false, (clsR T 240 r.2.1).2.1, [])) else _ : RdL).1 = true → LawM M' w (if r.1 = true then (if (clsR T 240 r.2.1).1 = true then (if sgT T (clsR T 240 r.2.1).2.1 = -1 then (true, (clsR T 240 r.2.1).2.1, r.2.2 :: (clsR T 240 r.2.1).2.2) else (false, skS T (clsR T 240 r.2.1).2.1, [])) else (false, (clsR T 240 r.2.1).2.1, [])) else _ : RdL).2.2)
    rw [if_pos er]
    have lok3 := lok2 _ rfl
    generalize clsR T 240 r.2.1 = u at *
    cases eu : u.1 with
    | false =>
      have dd := w2.2.2 eu
      refine ⟨M3, finA M3 M3 _ w1 (r_atEndD dd), dd.1, FrR_K o4 (FrK_trans q2.1 w2.1 (by omega) (by omega)), fun z => by cases z⟩
    | true =>
      obtain ⟨y1, y2, y3⟩ := w2.2.1 eu
      obtain ⟨M4, g1, g2⟩ := r_atEndL y1
      have fr := FrR_K o4 (FrK_trans q2.1 (FrK_trans w2.1 (FrK_P (nc := 0 + 1) (g2 _)) (Nat.le_refl _) (Nat.le_refl _)) (by omega) (by omega))
      rw [eu] at lok3
      by_cases k : sgT T u.2.1 = -1
      · rw [if_pos k] at g1
        simp only [if_true, if_pos k] at lok3 ⊢
        refine ⟨M4, finA M3 M4 _ w1 g1, TpM_P y1.1 (g2 0), fr, fun _ => ⟨(lok3 trivial).1, ?_, ?_, ?_⟩⟩
        · rw [(g2 0).2.2.2 5 (by decide) (by decide) (by decide) (by decide), y2, List.length_cons]
          congr 1
          omega
        · have := flS_2 _ (lok3 trivial).1
          have := (lok3 trivial).2
          omega
        · have c1 := cls_cons cl w2.1 rfl y3
          exact ClsM_K (c := totC (r.2.2 :: u.2.2)) (nc := (r.2.2 :: u.2.2).length) (FrK_P (g2 _)) _ 0 0 c1 (by omega) (by rw [Nat.zero_add]; exact Nat.le_refl _)
      · rw [if_neg k] at g1
        simp only [if_true, if_neg k]
        refine ⟨M4, finA M3 M4 _ w1 g1, TpM_P y1.1 (g2 0), fr, fun z => by cases z⟩
