/-! PART 94.a5: the reference reads laws: conditions. -/
noncomputable def ccO (d : Int) : CoD := dAnd (dCmp .eq (dFld wM 11 4 (dLoc 0)) (dInt (-1))) (dCmp .eq (dCal wM ci_X11_look (dA1 dA0 (dLoc 0))) (dInt d))
theorem ccO_l {T : List Int} {w dp s p c : Nat} {M : Mem} (h : LiveM T w dp s p c M) {d : Int} (wd : wr d = d) : ∃ M', ccO d [0] M = some (decide (sgT T p = d), M') ∧ LiveX T w dp s p c M' ∧ (∀ c', FrP w c' M M') := by
  obtain ⟨M1, e1, x1, f1⟩ := l_look h
  have h4 := h.2.2.2.2.1
  have hr : -1 ≤ sgT T p ∧ sgT T p ≤ 255 := tpm_rng h.1 (skS T p)
  have wz : wr (sgT T p) = sgT T p := wr_id (by omega) (by omega)
  refine ⟨M1, ?_, x1, f1⟩
  simp only [ccO, fin, dSeq, dSet, dInc, dIf, dIfE, dRet, dReV, dInt, dLoc, dBin, dDiv, dUn, dFld, dAr, dLen, dRo, dCal, dCon, dBo, dCmp, dCm0, dCmpL, dNul, dAnd, dOr, dNot, dA0, dA1, dDo, dPutF, dUpdF, dPutA, dUpdA, Option.bind_some, Option.bind_none, opF, dvF, dvW, mtF, List.getD_cons_zero, List.getD_cons_succ, List.set_cons_zero, List.set_cons_succ, List.length_cons, List.length_nil, List.headD_cons, List.nil_append, List.cons_append, ite_bind, cmpI, cmpL, wr_0, decide_eq_true_eq, reduceIte, true_and, and_true, false_and, and_false, not_true_eq_false, not_false_eq_true, true_or, or_true, false_or, or_false, Int.cast_ofNat_Int, Int.toNat_natCast, Bool.false_eq_true, Nat.reduceLT, Nat.reduceLeDiff, Nat.reduceAdd, Nat.reduceMul, Nat.reduceSub, Nat.reduceEqDiff, Int.reduceLT, Int.reduceLE, Int.reduceEq, Int.reduceNeg, Int.reduceAdd, Int.reduceMul, Int.reduceSub, Int.reduceToNat, Bool.not_true, Bool.not_false, Bool.not_eq_true, Bool.not_eq_eq_eq_not, decide_true, decide_false, ne_eq, reduceCtorEq, ms_eq, id_eq, Option.map_some, Nat.lt_add_one, Nat.zero_lt_succ, obM0, isM0, arM1, apM1, arM2, apM2, arM3, apM3, arM4, apM4, arM5, apM5, arM6, apM6, arM7, apM7, arM8, apM8, arM9, apM9, arM10, apM10, arM11, apM11, arM12, apM12, arM13, apM13, arM14, apM14, arM15, apM15, arM16, apM16, arM17, apM17, arM18, apM18, arM19, apM19, arM20, apM20, arM21, apM21, arM22, apM22, arM23, apM23, arM24, apM24, arM25, apM25, arM26, apM26, rc_J6_bitCount_0f7a4M, rc_X11_in, rc_X11_has, rc_X11_thrown, rc_X11_byteOf, rc_X11_feed, rc_X11_end, rc_X11_here, rc_X11_look, rc_X11_bad, rc_X11_isDigit, rc_X11_put, rc_X11_letterOf, rc_X11_opens, rc_X11_closes, rc_X11_plainNumber, rc_X11_atom, rc_X11_sum, rc_X11_term, rc_X11_isSign, rc_X11_compare, rc_X11_condition, rc_X11_goOnAnd, rc_X11_goOnOr, rc_X11_unit, rc_X11_clause, rc_X11_open, rc_X11_atEnd, rc_X11_readLaw, rc_X11_bounded, rc_X11_worked, rc_X11_workOut, rc_X11_worthOf, rc_X11_number, rc_X11_itemOf, rc_X11_lowest, rc_X11_highest, rc_X11_usual, rc_X11_items, rc_X11_isWhole, rc_X11_readMill, rc_X11_fault, rc_X11_lay, rc_X11_of, rc_X11_takeMill, rc_X11_text, rc_X11_isLad, rc_X11_lives, rc_X11_living, rc_X11_manyLive, rc_X11_fearBy, rc_X11_fear, rc_X11_chosenNow, rc_X11_friendsOf, rc_X11_signs, rc_X11_master, rc_X11_lad, rc_X11_way, rc_X11_law, rc_X11_learnsBy, rc_X11_live, rc_X11_artOf, rc_X11_passYear, rc_X11_keep, rc_X11_isRefused, rc_X11_show, rc_X11_warn, rc_X11_leave, rc_X11_comeNow, rc_X11_come, rc_X11_years, rc_X11_bold, rc_X11_draw, rc_X11_drawLads, rc_X11_winters, rc_X11_status, rc_X11_undo, rc_X11_log, rc_X11_chosen, rc_X11_putAside, rc_X11_takeBack, rc_X11_tryPath, rc_X11_path, rc_X11_holds, rc_X11_tells, rc_X11_twins, rc_X11_chain, rc_X11_trusts, rc_X11_out, rc_X11_isSpies, rc_X11_areSpies, rc_X11_spies, rc_X11_clear, rc_X11_best, rc_X11_layHours, rc_X11_flight, rc_X11_reach, rc_X11_dare, rc_X11_ordersOf, rc_X11_pivots, rc_X11_shares, rc_X11_gameOf, rc_X11_areTwo, rc_X11_game, rc_X11_rests, rc_X11_grave, rc_X11_dug, rc_X11_odds, rc_X11_mostOf, rc_X11_ablest, rc_X11_hides, rc_X11_order, rc_X11_safe, rc_X11_friends, rc_X11_oldest, rc_X11_learns, rc_X11_image, rc_X11_back, rc_X11_count, fv_0_0, fv_0_1, fv_0_2, fv_0_3, fv_1_0, fv_1_1, fv_1_2, fv_1_3, fv_1_4, fv_1_5, fv_1_6, fv_2_0, fv_2_1, fv_2_2, fv_2_3, fv_2_4, fv_3_0, fv_3_1, fv_4_0, fv_4_1, fv_4_2, fv_4_3, fv_4_4, fv_4_5, fv_4_6, fv_5_0, fv_6_0, fv_6_1, fv_6_2, fv_6_3, fv_6_4, fv_6_5, fv_7_0, fv_7_1, fv_7_2, fv_8_0, fv_8_1, fv_8_2, fv_8_3, fv_9_0, fv_9_1, fv_9_2, fv_10_0, fv_10_1, fv_10_2, fv_10_3, fv_10_4, fv_10_5, fv_10_6, fv_10_7, fv_10_8, fv_10_9, fv_10_10, fv_10_11, fv_10_12, fv_10_13, fv_10_14, fv_10_15, fv_10_16, fv_11_0, fv_11_1, fv_11_2, fv_11_3, fv_11_4, fv_11_5, fv_11_6, fv_11_7, fv_11_8, fv_11_9, fv_11_10, fv_11_11, fv_11_12, fv_11_13, fv_11_14, fv_11_15, fv_11_16, fv_11_17, fv_11_18, fv_11_19, fv_11_20, fv_11_21, fv_11_22, fv_11_23, fv_11_24, fv_11_25, fv_11_26, fv_11_27, fv_11_28, fv_11_29, fv_11_30, fv_11_31, fv_11_32, fv_11_33, fv_11_34, fv_11_35, fv_11_36, fv_11_37, fv_11_38, fv_11_39, fv_11_40, fv_11_41, fv_11_42, fv_11_43, fv_11_44, fv_11_45, ft_0_2, ft_0_3, ft_1_5, ft_1_6, ft_2_1, ft_2_2, ft_2_3, ft_2_4, ft_3_1, ft_4_4, ft_4_5, ft_4_6, ft_6_3, ft_6_4, ft_6_5, ft_7_2, ft_8_1, ft_8_2, ft_8_3, ft_9_1, ft_9_2, ft_10_15, ft_10_16, ft_11_0, ft_11_2, ft_11_3, ft_11_4, ft_11_5, ft_11_13, ft_11_14, ft_11_20, ft_11_21, ft_11_24, ft_11_25, ft_11_28, ft_11_29, ft_11_31, ft_11_32, ft_11_34, ft_11_35, ft_11_38, ft_11_43, ft_11_45, wk_1, wk_2, wk_3, wk_4, wk_5, wk_6, wk_7, wk_8, wk_9, wk_10, wk_11, wk_12, wk_14, wk_16, wk_19, wk_20, wk_24, wk_30, wk_32, wk_33, wk_38, wk_39, wk_40, wk_41, wk_42, wk_43, wk_45, wk_47, wk_48, wk_49, wk_50, wk_55, wk_57, wk_58, wk_59, wk_60, wk_61, wk_62, wk_63, wk_64, wk_80, wk_91, wk_93, wk_97, wk_98, wk_99, wk_100, wk_101, wk_102, wk_103, wk_104, wk_107, wk_108, wk_110, wk_111, wk_112, wk_115, wk_119, wk_121, wk_124, wk_140, wk_200, wk_231, wk_240, wk_255, wk_300, wk_520, wk_999, wk_1000, wk_1000000, wk_10000, wk_20000, wk_10033, wk_10059, wk_10063, wk_m1, wk_m2, h4, e1, wz, wd]
theorem ccO_d {T : List Int} {w b e s cb : Nat} {M : Mem} (h : DeadM T w b e s cb M) (d : Int) : ccO d [0] M = some (false, M) := by
  have h4 := h.2.2.2.1
  have hb := h.2.2.2.2.1
  have hT := h.1.2.1
  have wb : wr (b : Int) = b := wr_nat (by omega)
  have nb : ¬ (b : Int) = -1 := by omega
  simp only [ccO, fin, dSeq, dSet, dInc, dIf, dIfE, dRet, dReV, dInt, dLoc, dBin, dDiv, dUn, dFld, dAr, dLen, dRo, dCal, dCon, dBo, dCmp, dCm0, dCmpL, dNul, dAnd, dOr, dNot, dA0, dA1, dDo, dPutF, dUpdF, dPutA, dUpdA, Option.bind_some, Option.bind_none, opF, dvF, dvW, mtF, List.getD_cons_zero, List.getD_cons_succ, List.set_cons_zero, List.set_cons_succ, List.length_cons, List.length_nil, List.headD_cons, List.nil_append, List.cons_append, ite_bind, cmpI, cmpL, wr_0, decide_eq_true_eq, reduceIte, true_and, and_true, false_and, and_false, not_true_eq_false, not_false_eq_true, true_or, or_true, false_or, or_false, Int.cast_ofNat_Int, Int.toNat_natCast, Bool.false_eq_true, Nat.reduceLT, Nat.reduceLeDiff, Nat.reduceAdd, Nat.reduceMul, Nat.reduceSub, Nat.reduceEqDiff, Int.reduceLT, Int.reduceLE, Int.reduceEq, Int.reduceNeg, Int.reduceAdd, Int.reduceMul, Int.reduceSub, Int.reduceToNat, Bool.not_true, Bool.not_false, Bool.not_eq_true, Bool.not_eq_eq_eq_not, decide_true, decide_false, ne_eq, reduceCtorEq, ms_eq, id_eq, Option.map_some, Nat.lt_add_one, Nat.zero_lt_succ, obM0, isM0, arM1, apM1, arM2, apM2, arM3, apM3, arM4, apM4, arM5, apM5, arM6, apM6, arM7, apM7, arM8, apM8, arM9, apM9, arM10, apM10, arM11, apM11, arM12, apM12, arM13, apM13, arM14, apM14, arM15, apM15, arM16, apM16, arM17, apM17, arM18, apM18, arM19, apM19, arM20, apM20, arM21, apM21, arM22, apM22, arM23, apM23, arM24, apM24, arM25, apM25, arM26, apM26, rc_J6_bitCount_0f7a4M, rc_X11_in, rc_X11_has, rc_X11_thrown, rc_X11_byteOf, rc_X11_feed, rc_X11_end, rc_X11_here, rc_X11_look, rc_X11_bad, rc_X11_isDigit, rc_X11_put, rc_X11_letterOf, rc_X11_opens, rc_X11_closes, rc_X11_plainNumber, rc_X11_atom, rc_X11_sum, rc_X11_term, rc_X11_isSign, rc_X11_compare, rc_X11_condition, rc_X11_goOnAnd, rc_X11_goOnOr, rc_X11_unit, rc_X11_clause, rc_X11_open, rc_X11_atEnd, rc_X11_readLaw, rc_X11_bounded, rc_X11_worked, rc_X11_workOut, rc_X11_worthOf, rc_X11_number, rc_X11_itemOf, rc_X11_lowest, rc_X11_highest, rc_X11_usual, rc_X11_items, rc_X11_isWhole, rc_X11_readMill, rc_X11_fault, rc_X11_lay, rc_X11_of, rc_X11_takeMill, rc_X11_text, rc_X11_isLad, rc_X11_lives, rc_X11_living, rc_X11_manyLive, rc_X11_fearBy, rc_X11_fear, rc_X11_chosenNow, rc_X11_friendsOf, rc_X11_signs, rc_X11_master, rc_X11_lad, rc_X11_way, rc_X11_law, rc_X11_learnsBy, rc_X11_live, rc_X11_artOf, rc_X11_passYear, rc_X11_keep, rc_X11_isRefused, rc_X11_show, rc_X11_warn, rc_X11_leave, rc_X11_comeNow, rc_X11_come, rc_X11_years, rc_X11_bold, rc_X11_draw, rc_X11_drawLads, rc_X11_winters, rc_X11_status, rc_X11_undo, rc_X11_log, rc_X11_chosen, rc_X11_putAside, rc_X11_takeBack, rc_X11_tryPath, rc_X11_path, rc_X11_holds, rc_X11_tells, rc_X11_twins, rc_X11_chain, rc_X11_trusts, rc_X11_out, rc_X11_isSpies, rc_X11_areSpies, rc_X11_spies, rc_X11_clear, rc_X11_best, rc_X11_layHours, rc_X11_flight, rc_X11_reach, rc_X11_dare, rc_X11_ordersOf, rc_X11_pivots, rc_X11_shares, rc_X11_gameOf, rc_X11_areTwo, rc_X11_game, rc_X11_rests, rc_X11_grave, rc_X11_dug, rc_X11_odds, rc_X11_mostOf, rc_X11_ablest, rc_X11_hides, rc_X11_order, rc_X11_safe, rc_X11_friends, rc_X11_oldest, rc_X11_learns, rc_X11_image, rc_X11_back, rc_X11_count, fv_0_0, fv_0_1, fv_0_2, fv_0_3, fv_1_0, fv_1_1, fv_1_2, fv_1_3, fv_1_4, fv_1_5, fv_1_6, fv_2_0, fv_2_1, fv_2_2, fv_2_3, fv_2_4, fv_3_0, fv_3_1, fv_4_0, fv_4_1, fv_4_2, fv_4_3, fv_4_4, fv_4_5, fv_4_6, fv_5_0, fv_6_0, fv_6_1, fv_6_2, fv_6_3, fv_6_4, fv_6_5, fv_7_0, fv_7_1, fv_7_2, fv_8_0, fv_8_1, fv_8_2, fv_8_3, fv_9_0, fv_9_1, fv_9_2, fv_10_0, fv_10_1, fv_10_2, fv_10_3, fv_10_4, fv_10_5, fv_10_6, fv_10_7, fv_10_8, fv_10_9, fv_10_10, fv_10_11, fv_10_12, fv_10_13, fv_10_14, fv_10_15, fv_10_16, fv_11_0, fv_11_1, fv_11_2, fv_11_3, fv_11_4, fv_11_5, fv_11_6, fv_11_7, fv_11_8, fv_11_9, fv_11_10, fv_11_11, fv_11_12, fv_11_13, fv_11_14, fv_11_15, fv_11_16, fv_11_17, fv_11_18, fv_11_19, fv_11_20, fv_11_21, fv_11_22, fv_11_23, fv_11_24, fv_11_25, fv_11_26, fv_11_27, fv_11_28, fv_11_29, fv_11_30, fv_11_31, fv_11_32, fv_11_33, fv_11_34, fv_11_35, fv_11_36, fv_11_37, fv_11_38, fv_11_39, fv_11_40, fv_11_41, fv_11_42, fv_11_43, fv_11_44, fv_11_45, ft_0_2, ft_0_3, ft_1_5, ft_1_6, ft_2_1, ft_2_2, ft_2_3, ft_2_4, ft_3_1, ft_4_4, ft_4_5, ft_4_6, ft_6_3, ft_6_4, ft_6_5, ft_7_2, ft_8_1, ft_8_2, ft_8_3, ft_9_1, ft_9_2, ft_10_15, ft_10_16, ft_11_0, ft_11_2, ft_11_3, ft_11_4, ft_11_5, ft_11_13, ft_11_14, ft_11_20, ft_11_21, ft_11_24, ft_11_25, ft_11_28, ft_11_29, ft_11_31, ft_11_32, ft_11_34, ft_11_35, ft_11_38, ft_11_43, ft_11_45, wk_1, wk_2, wk_3, wk_4, wk_5, wk_6, wk_7, wk_8, wk_9, wk_10, wk_11, wk_12, wk_14, wk_16, wk_19, wk_20, wk_24, wk_30, wk_32, wk_33, wk_38, wk_39, wk_40, wk_41, wk_42, wk_43, wk_45, wk_47, wk_48, wk_49, wk_50, wk_55, wk_57, wk_58, wk_59, wk_60, wk_61, wk_62, wk_63, wk_64, wk_80, wk_91, wk_93, wk_97, wk_98, wk_99, wk_100, wk_101, wk_102, wk_103, wk_104, wk_107, wk_108, wk_110, wk_111, wk_112, wk_115, wk_119, wk_121, wk_124, wk_140, wk_200, wk_231, wk_240, wk_255, wk_300, wk_520, wk_999, wk_1000, wk_1000000, wk_10000, wk_20000, wk_10033, wk_10059, wk_10063, wk_m1, wk_m2, h4, wb, nb]
theorem live_sk {T : List Int} {w dp s p c : Nat} {M : Mem} (h : LiveM T w dp s p c M) : LiveM T w dp s (skS T p) c M := by
  obtain ⟨a1, a2, a3, a4, a5, a6, a7, a8, q, a9, a10, a11, a12⟩ := h
  have hs := skS_le a8
  exact ⟨a1, a2, a3, a4, a5, a6, a7, hs.2, q, a9, a10, a11, by rw [skS_idem]; exact a12⟩
/-- a loop that looks first -/
theorem lpO {T : List Int} {w dp : Nat} {F : Mem → Option (Int × Mem)} {A : Nat → Rd} (hA : ActM' T w dp F A) (hF : ∀ q, q ≤ T.length → Fwd T q (A q)) {d : Int} (d0 : 0 ≤ d ∧ d ≤ 255) {B : StD} (hB : ∀ (q v v2 : Int) (M M2 M3 : Mem), M 0 3 = q → F (ms M 0 3 (q + 1)) = some (v, M2) → ci_X11_put.2.2.2.2 [0, kdS (10000 + d), 0] M2 = some (v2, M3) → B [0] M = some (none, [0], M3)) : ∀ (f s p c : Nat) (M : Mem), LiveM T w dp s p c M → T.length ≤ p + f → ∃ M', dWh (ccO d) B [0] M = some (none, [0], M') ∧ OutM T w dp s c (lpR T (isC d) A f p) M M' := by
  have wd : wr d = d := wr_id (by omega) (by omega)
  have done : ∀ (s p c : Nat) (M M1 : Mem), LiveX T w dp s p c M1 → FrP w c M M1 → OutM T w dp s c (okR1 (skS T p) []) M M1 := fun s p c M M1 h f => ⟨f, fun _ => ⟨live_sk h.1, AtM_nil _ _⟩, fun z => by cases z⟩
  intro f
  induction f with
  | zero =>
    intro s p c M h hf
    obtain ⟨M1, e1, x1, f1⟩ := ccO_l h wd
    have hs := skS_le h.2.2.2.2.2.2.2.1
    have ez : sgT T p = -1 := tp_out (by omega)
    rw [ez, decide_eq_false (by omega)] at e1
    exact ⟨M1, dWh_end e1, done s p c M M1 x1 (f1 c)⟩
  | succ f ih =>
    intro s p c M h hf
    obtain ⟨M1, e1, x1, f1⟩ := ccO_l h wd
    by_cases ez : sgT T p = d
    · rw [decide_eq_true ez] at e1
      have el : lpR T (isC d) A (f + 1) p = bnR (bnR (A (skS T p + 1)) (fun q => okR1 q [10000 + sgT T p])) (lpR T (isC d) A f) := by
        show (if isC d (sgT T p) = true then _ else _) = _
        rw [if_pos (show isC d (sgT T p) = true from decide_eq_true ez)]
      rw [el, ez]
      have hcz : ¬ sgT T p = -1 := by omega
      have lu := l_up x1 hcz
      have hl := sg_lt hcz
      obtain ⟨v, M2, q1, q2⟩ := hA (s + 1) (skS T p + 1) c _ lu
      have f2 : FrP w c M (ms M1 0 3 (((skS T p : Nat) : Int) + 1)) := FrP_trans (f1 c) (FrP_0 (Or.inl rfl)) (Nat.le_refl c)
      have fw := hF (skS T p + 1) hl
      have hsp := skS_le h.2.2.2.2.2.2.2.1
      generalize A (skS T p + 1) = r at *
      cases er : r.1 with
      | true =>
        obtain ⟨lv, at2⟩ := q2.2.1 er
        obtain ⟨M3, p1, p2⟩ := l_put lv (C := 10000 + d) (k := kdS (10000 + d)) (v := 0) rfl (fun y => by omega) (fun y => by omega)
        have hp := Fwd_sk fw er
        have lv3 : LiveM T w dp s r.2.1 (c + r.2.2.length + 1) M3 := (p2.2.1 rfl).1
        obtain ⟨M5, w1, w2⟩ := ih s r.2.1 (c + r.2.2.length + 1) M3 lv3 (by omega)
        refine ⟨M5, dWh_go e1 (hB _ _ _ _ _ _ x1.2 q1 p1) w1, ?_⟩
        have o1 : OutM T w dp s c (bnR r (fun q => okR1 q [10000 + d])) M M3 := out_bn (out_pre f2 q2 (Nat.le_refl c)) (fun _ => p2) (fun y => by rw [er] at y; cases y)
        have eb : bnR r (fun q => okR1 q [10000 + d]) = (true, r.2.1, r.2.2 ++ [10000 + d]) := by unfold bnR; rw [er, if_pos rfl]; rfl
        rw [eb] at o1 ⊢
        refine out_bn o1 (fun _ => ?_) (fun y => by cases y)
        have e3 : c + (r.2.2 ++ [10000 + d]).length = c + r.2.2.length + 1 := by rw [List.length_append]; rfl
        show OutM T w dp s (c + (r.2.2 ++ [10000 + d]).length) (lpR T (isC d) A f r.2.1) M3 M5
        rw [e3]
        exact w2
      | false =>
        have dd := q2.2.2 er
        obtain ⟨M3, p1, p2, p3⟩ := d_put dd (by omega) (kdS (10000 + d)) 0
        refine ⟨M3, dWh_go e1 (hB _ _ _ _ _ _ x1.2 q1 p1) (dWh_end (ccO_d p3 d)), ?_⟩
        have eb : bnR (bnR r (fun q => okR1 q [10000 + d])) (lpR T (isC d) A f) = r := by rw [bnR_dead er, bnR_dead er]
        rw [eb]
        exact ⟨FrP_trans f2 (FrP_trans q2.1 p2 (Nat.le_refl c)) (Nat.le_refl c), fun y => (by rw [er] at y; cases y), fun _ => p3⟩
    · rw [decide_eq_false ez] at e1
      have el : lpR T (isC d) A (f + 1) p = okR1 (skS T p) [] := by
        show (if isC d (sgT T p) = true then _ else _) = _
        rw [if_neg (by unfold isC; rw [decide_eq_false ez]; decide)]
      rw [el]
      exact ⟨M1, dWh_end e1, done s p c M M1 x1 (f1 c)⟩
/-- one after another -/
theorem act_sq {T : List Int} {w dp : Nat} {F G : Mem → Option (Int × Mem)} {A B : Nat → Rd} (hA : ActM' T w dp F A) (hB : ActM' T w dp G B) (hD : ∀ (M : Mem) (b e s cb : Nat), DeadM T w b e s cb M → ∃ v, G M = some (v, M)) : ActM' T w dp (fun M => (F M).bind fun x => G x.2) (fun p => bnR (A p) B) := by
  intro s p c M h
  dsimp only
  obtain ⟨v, M1, q1, q2⟩ := hA s p c M h
  rw [q1, Option.bind_some]
  dsimp only
  cases er : (A p).1 with
  | true =>
    obtain ⟨v2, M2, g1, g2⟩ := hB s _ _ M1 (q2.2.1 er).1
    exact ⟨v2, M2, g1, out_bn q2 (fun _ => g2) (fun y => by rw [er] at y; cases y)⟩
  | false =>
    obtain ⟨v2, g1⟩ := hD M1 _ _ _ _ (q2.2.2 er)
    exact ⟨v2, M1, g1, out_bn q2 (fun y => by rw [er] at y; cases y) (fun _ => ⟨FrP_refl w c M1, q2.2.2 er⟩)⟩
theorem d_and {T : List Int} {w g b e s cb : Nat} {M : Mem} (h : DeadM T w b e s cb M) : grp_X11_condition (g + 1) 1 [0] M = some (0, M) := by
  rw [u_X11_goOnAnd]
  exact fin_V (dWh_end (ccO_d h 38))
theorem d_or {T : List Int} {w g b e s cb : Nat} {M : Mem} (h : DeadM T w b e s cb M) : grp_X11_condition (g + 1) 2 [0] M = some (0, M) := by
  rw [u_X11_goOnOr]
  exact fin_V (dWh_end (ccO_d h 124))
theorem b_goA {T : List Int} {w dp N : Nat} {U : Nat → Rd} (hU : ∀ g, N ≤ g → ActM' T w dp (fun M => grp_X11_condition g 3 [0] M) U) (hF : ∀ q, q ≤ T.length → Fwd T q (U q)) : ∀ g, N + 1 ≤ g → ActM' T w dp (fun M => grp_X11_condition g 1 [0] M) (lpR T (isC 38) U 240) := by
  intro g hg s p c M h
  obtain ⟨g, rfl⟩ : ∃ q, g = q + 1 := ⟨g - 1, by omega⟩
  dsimp only
  rw [u_X11_goOnAnd]
  have hT := h.1.2.1
  obtain ⟨M', w1, w2⟩ := lpO (hU g (by omega)) hF (d := 38) (by decide) (B := wb1_X11_goOnAnd (grp_X11_condition g)) (fun q v v2 M M2 M3 m3 h1 h2 => by
    have st1 := s_up3 (ρ := []) m3
    have st2 := s_do0 (ci := ci_X11_unit (grp_X11_condition g)) (ρ := []) (rc_X11_unit (grp_X11_condition g) [0]) (by rw [g_X11_unit]; exact h1)
    have st3 := s_do3 (ci := ci_X11_put) (ρ := []) (e := dInt 10) (f := dInt 0) (x := 10) (y := 0) (rc_X11_put [0, 10, 0]) (by simp only [fin, dSeq, dSet, dInc, dIf, dIfE, dRet, dReV, dInt, dLoc, dBin, dDiv, dUn, dFld, dAr, dLen, dRo, dCal, dCon, dBo, dCmp, dCm0, dCmpL, dNul, dAnd, dOr, dNot, dA0, dA1, dDo, dPutF, dUpdF, dPutA, dUpdA, Option.bind_some, Option.bind_none, opF, dvF, dvW, mtF, List.getD_cons_zero, List.getD_cons_succ, List.set_cons_zero, List.set_cons_succ, List.length_cons, List.length_nil, List.headD_cons, List.nil_append, List.cons_append, ite_bind, cmpI, cmpL, wr_0, decide_eq_true_eq, reduceIte, true_and, and_true, false_and, and_false, not_true_eq_false, not_false_eq_true, true_or, or_true, false_or, or_false, Int.cast_ofNat_Int, Int.toNat_natCast, Bool.false_eq_true, Nat.reduceLT, Nat.reduceLeDiff, Nat.reduceAdd, Nat.reduceMul, Nat.reduceSub, Nat.reduceEqDiff, Int.reduceLT, Int.reduceLE, Int.reduceEq, Int.reduceNeg, Int.reduceAdd, Int.reduceMul, Int.reduceSub, Int.reduceToNat, Bool.not_true, Bool.not_false, Bool.not_eq_true, Bool.not_eq_eq_eq_not, decide_true, decide_false, ne_eq, reduceCtorEq, ms_eq, id_eq, Option.map_some, Nat.lt_add_one, Nat.zero_lt_succ]) (by simp only [fin, dSeq, dSet, dInc, dIf, dIfE, dRet, dReV, dInt, dLoc, dBin, dDiv, dUn, dFld, dAr, dLen, dRo, dCal, dCon, dBo, dCmp, dCm0, dCmpL, dNul, dAnd, dOr, dNot, dA0, dA1, dDo, dPutF, dUpdF, dPutA, dUpdA, Option.bind_some, Option.bind_none, opF, dvF, dvW, mtF, List.getD_cons_zero, List.getD_cons_succ, List.set_cons_zero, List.set_cons_succ, List.length_cons, List.length_nil, List.headD_cons, List.nil_append, List.cons_append, ite_bind, cmpI, cmpL, wr_0, decide_eq_true_eq, reduceIte, true_and, and_true, false_and, and_false, not_true_eq_false, not_false_eq_true, true_or, or_true, false_or, or_false, Int.cast_ofNat_Int, Int.toNat_natCast, Bool.false_eq_true, Nat.reduceLT, Nat.reduceLeDiff, Nat.reduceAdd, Nat.reduceMul, Nat.reduceSub, Nat.reduceEqDiff, Int.reduceLT, Int.reduceLE, Int.reduceEq, Int.reduceNeg, Int.reduceAdd, Int.reduceMul, Int.reduceSub, Int.reduceToNat, Bool.not_true, Bool.not_false, Bool.not_eq_true, Bool.not_eq_eq_eq_not, decide_true, decide_false, ne_eq, reduceCtorEq, ms_eq, id_eq, Option.map_some, Nat.lt_add_one, Nat.zero_lt_succ]) h2
    exact seq_t st1 (seq_t st2 st3)) 240 s p c M h (by omega)
  exact ⟨0, M', fin_V w1, w2⟩
theorem b_tr {T : List Int} {w dp N : Nat} {U : Nat → Rd} (hU : ∀ g, N ≤ g → ActM' T w dp (fun M => grp_X11_condition g 3 [0] M) U) (hF : ∀ q, q ≤ T.length → Fwd T q (U q)) {g : Nat} (hg : N + 1 ≤ g) : ActM' T w dp (fun M => (grp_X11_condition g 3 [0] M).bind fun x => grp_X11_condition g 1 [0] x.2) (trW T U) :=
  act_sq (hU g (by omega)) (b_goA hU hF g hg) (fun M b e s cb h => by
    obtain ⟨g, rfl⟩ : ∃ q, g = q + 1 := ⟨g - 1, by omega⟩
    exact ⟨0, d_and h⟩)
theorem bind_get {F G : Mem → Option (Int × Mem)} {M M2 : Mem} {v : Int} (h : ((F M).bind fun x => G x.2) = some (v, M2)) : ∃ v1 M1, F M = some (v1, M1) ∧ G M1 = some (v, M2) := by
  cases e : F M with
  | none => rw [e] at h; cases h
  | some x => rw [e] at h; exact ⟨x.1, x.2, rfl, h⟩
theorem b_goO {T : List Int} {w dp N : Nat} {U : Nat → Rd} (hU : ∀ g, N ≤ g → ActM' T w dp (fun M => grp_X11_condition g 3 [0] M) U) (hF : ∀ q, q ≤ T.length → Fwd T q (U q)) : ∀ g, N + 2 ≤ g → ActM' T w dp (fun M => grp_X11_condition g 2 [0] M) (lpR T (isC 124) (trW T U) 240) := by
  intro g hg s p c M h
  obtain ⟨g, rfl⟩ : ∃ q, g = q + 1 := ⟨g - 1, by omega⟩
  dsimp only
  rw [u_X11_goOnOr]
  have hT := h.1.2.1
  obtain ⟨M', w1, w2⟩ := lpO (b_tr hU hF (g := g) (by omega)) (fun q hq => fw_tr hF hq) (d := 124) (by decide) (B := wb1_X11_goOnOr (grp_X11_condition g)) (fun q v v2 M M2 M3 m3 h1 h2 => by
    obtain ⟨v3, M4, k1, k2⟩ := bind_get (F := fun M => grp_X11_condition g 3 [0] M) (G := fun M => grp_X11_condition g 1 [0] M) h1
    have st1 := s_up3 (ρ := []) m3
    have st2 := s_do0 (ci := ci_X11_unit (grp_X11_condition g)) (ρ := []) (rc_X11_unit (grp_X11_condition g) [0]) (by rw [g_X11_unit]; exact k1)
    have st4 := s_do0 (ci := ci_X11_goOnAnd (grp_X11_condition g)) (ρ := []) (rc_X11_goOnAnd (grp_X11_condition g) [0]) (by rw [g_X11_goOnAnd]; exact k2)
    have st3 := s_do3 (ci := ci_X11_put) (ρ := []) (e := dInt 11) (f := dInt 0) (x := 11) (y := 0) (rc_X11_put [0, 11, 0]) (by simp only [fin, dSeq, dSet, dInc, dIf, dIfE, dRet, dReV, dInt, dLoc, dBin, dDiv, dUn, dFld, dAr, dLen, dRo, dCal, dCon, dBo, dCmp, dCm0, dCmpL, dNul, dAnd, dOr, dNot, dA0, dA1, dDo, dPutF, dUpdF, dPutA, dUpdA, Option.bind_some, Option.bind_none, opF, dvF, dvW, mtF, List.getD_cons_zero, List.getD_cons_succ, List.set_cons_zero, List.set_cons_succ, List.length_cons, List.length_nil, List.headD_cons, List.nil_append, List.cons_append, ite_bind, cmpI, cmpL, wr_0, decide_eq_true_eq, reduceIte, true_and, and_true, false_and, and_false, not_true_eq_false, not_false_eq_true, true_or, or_true, false_or, or_false, Int.cast_ofNat_Int, Int.toNat_natCast, Bool.false_eq_true, Nat.reduceLT, Nat.reduceLeDiff, Nat.reduceAdd, Nat.reduceMul, Nat.reduceSub, Nat.reduceEqDiff, Int.reduceLT, Int.reduceLE, Int.reduceEq, Int.reduceNeg, Int.reduceAdd, Int.reduceMul, Int.reduceSub, Int.reduceToNat, Bool.not_true, Bool.not_false, Bool.not_eq_true, Bool.not_eq_eq_eq_not, decide_true, decide_false, ne_eq, reduceCtorEq, ms_eq, id_eq, Option.map_some, Nat.lt_add_one, Nat.zero_lt_succ]) (by simp only [fin, dSeq, dSet, dInc, dIf, dIfE, dRet, dReV, dInt, dLoc, dBin, dDiv, dUn, dFld, dAr, dLen, dRo, dCal, dCon, dBo, dCmp, dCm0, dCmpL, dNul, dAnd, dOr, dNot, dA0, dA1, dDo, dPutF, dUpdF, dPutA, dUpdA, Option.bind_some, Option.bind_none, opF, dvF, dvW, mtF, List.getD_cons_zero, List.getD_cons_succ, List.set_cons_zero, List.set_cons_succ, List.length_cons, List.length_nil, List.headD_cons, List.nil_append, List.cons_append, ite_bind, cmpI, cmpL, wr_0, decide_eq_true_eq, reduceIte, true_and, and_true, false_and, and_false, not_true_eq_false, not_false_eq_true, true_or, or_true, false_or, or_false, Int.cast_ofNat_Int, Int.toNat_natCast, Bool.false_eq_true, Nat.reduceLT, Nat.reduceLeDiff, Nat.reduceAdd, Nat.reduceMul, Nat.reduceSub, Nat.reduceEqDiff, Int.reduceLT, Int.reduceLE, Int.reduceEq, Int.reduceNeg, Int.reduceAdd, Int.reduceMul, Int.reduceSub, Int.reduceToNat, Bool.not_true, Bool.not_false, Bool.not_eq_true, Bool.not_eq_eq_eq_not, decide_true, decide_false, ne_eq, reduceCtorEq, ms_eq, id_eq, Option.map_some, Nat.lt_add_one, Nat.zero_lt_succ]) h2
    exact seq_t st1 (seq_t st2 (seq_t st4 st3))) 240 s p c M h (by omega)
  exact ⟨0, M', fin_V w1, w2⟩
theorem b_cond {T : List Int} {w dp N : Nat} {U : Nat → Rd} (hU : ∀ g, N ≤ g → ActM' T w dp (fun M => grp_X11_condition g 3 [0] M) U) (hF : ∀ q, q ≤ T.length → Fwd T q (U q)) : ∀ g, N + 3 ≤ g → ActM' T w dp (fun M => grp_X11_condition g 0 [0] M) (coW T U) := by
  intro g hg s p c M h
  obtain ⟨g, rfl⟩ : ∃ q, g = q + 1 := ⟨g - 1, by omega⟩
  dsimp only
  rw [u_X11_condition]
  have k := act_sq (b_tr hU hF (g := g) (by omega)) (b_goO hU hF g (by omega)) (fun M b e s cb h => by
    obtain ⟨g, rfl⟩ : ∃ q, g = q + 1 := ⟨g - 1, by omega⟩
    exact ⟨0, d_or h⟩)
  obtain ⟨v, M3, k1, k2⟩ := k s p c M h
  obtain ⟨v2, M2, k3, k4⟩ := bind_get (F := fun M => (grp_X11_condition g 3 [0] M).bind fun x => grp_X11_condition g 1 [0] x.2) (G := fun M => grp_X11_condition g 2 [0] M) k1
  obtain ⟨v1, M1, k5, k6⟩ := bind_get (F := fun M => grp_X11_condition g 3 [0] M) (G := fun M => grp_X11_condition g 1 [0] M) k3
  have st1 := s_do0 (ci := ci_X11_unit (grp_X11_condition g)) (ρ := []) (rc_X11_unit (grp_X11_condition g) [0]) (by rw [g_X11_unit]; exact k5)
  have st2 := s_do0 (ci := ci_X11_goOnAnd (grp_X11_condition g)) (ρ := []) (rc_X11_goOnAnd (grp_X11_condition g) [0]) (by rw [g_X11_goOnAnd]; exact k6)
  have st3 := s_do0 (ci := ci_X11_goOnOr (grp_X11_condition g)) (ρ := []) (rc_X11_goOnOr (grp_X11_condition g) [0]) (by rw [g_X11_goOnOr]; exact k4)
  exact ⟨0, M3, fin_V (seq_t st1 (seq_t st2 st3)), k2⟩
theorem out_5 {T : List Int} {w dp s c : Nat} {r : Rd} {M M' : Mem} (h : OutM T w (dp + 1) s c r M M') (hd : dp + 1 ≤ 6) : OutM T w dp s c r M (ms M' 0 5 (dp : Int)) :=
  ⟨FrP_trans h.1 (FrP_0 (Or.inr (Or.inr rfl))) (Nat.le_refl c), fun e => ⟨l_5 (h.2.1 e).1 (by omega), AtM_P (h.2.1 e).2 (FrP_0 (w := w) (c := c + r.2.2.length) (Or.inr (Or.inr rfl))) (by omega)⟩, fun e => DeadM_less (d_5 (h.2.2 e) _) (by omega) (Nat.le_refl _) (Nat.le_refl _)⟩
theorem b_unit {T : List Int} {w dp g k : Nat} (hk : dp + k = 6) (h1 : ∀ k', k = k' + 1 → ActM' T w (dp + 1) (fun M => grp_X11_condition g 3 [0] M) (unR T k')) (h2 : ∀ k', k = k' + 1 → ActM' T w (dp + 1) (fun M => grp_X11_condition g 0 [0] M) (coW T (unR T k'))) : ActM' T w dp (fun M => grp_X11_condition (g + 1) 3 [0] M) (unR T k) := by
  intro s p c M h
  dsimp only
  rw [u_X11_unit, unR_eq]
  obtain ⟨M1, e1, x1, f1⟩ := l_look h
  have hr : -1 ≤ sgT T p ∧ sgT T p ≤ 255 := tpm_rng h.1 (skS T p)
  have wz : wr (sgT T p) = sgT T p := wr_id (by omega) (by omega)
  have s0 : (dSet 1 (dCal wM ci_X11_look (dA1 dA0 (dLoc 0)))) [0, 0] M = some (none, [0, sgT T p], M1) := by simp only [fin, dSeq, dSet, dInc, dIf, dIfE, dRet, dReV, dInt, dLoc, dBin, dDiv, dUn, dFld, dAr, dLen, dRo, dCal, dCon, dBo, dCmp, dCm0, dCmpL, dNul, dAnd, dOr, dNot, dA0, dA1, dDo, dPutF, dUpdF, dPutA, dUpdA, Option.bind_some, Option.bind_none, opF, dvF, dvW, mtF, List.getD_cons_zero, List.getD_cons_succ, List.set_cons_zero, List.set_cons_succ, List.length_cons, List.length_nil, List.headD_cons, List.nil_append, List.cons_append, ite_bind, cmpI, cmpL, wr_0, decide_eq_true_eq, reduceIte, true_and, and_true, false_and, and_false, not_true_eq_false, not_false_eq_true, true_or, or_true, false_or, or_false, Int.cast_ofNat_Int, Int.toNat_natCast, Bool.false_eq_true, Nat.reduceLT, Nat.reduceLeDiff, Nat.reduceAdd, Nat.reduceMul, Nat.reduceSub, Nat.reduceEqDiff, Int.reduceLT, Int.reduceLE, Int.reduceEq, Int.reduceNeg, Int.reduceAdd, Int.reduceMul, Int.reduceSub, Int.reduceToNat, Bool.not_true, Bool.not_false, Bool.not_eq_true, Bool.not_eq_eq_eq_not, decide_true, decide_false, ne_eq, reduceCtorEq, ms_eq, id_eq, Option.map_some, Nat.lt_add_one, Nat.zero_lt_succ, obM0, isM0, arM1, apM1, arM2, apM2, arM3, apM3, arM4, apM4, arM5, apM5, arM6, apM6, arM7, apM7, arM8, apM8, arM9, apM9, arM10, apM10, arM11, apM11, arM12, apM12, arM13, apM13, arM14, apM14, arM15, apM15, arM16, apM16, arM17, apM17, arM18, apM18, arM19, apM19, arM20, apM20, arM21, apM21, arM22, apM22, arM23, apM23, arM24, apM24, arM25, apM25, arM26, apM26, rc_J6_bitCount_0f7a4M, rc_X11_in, rc_X11_has, rc_X11_thrown, rc_X11_byteOf, rc_X11_feed, rc_X11_end, rc_X11_here, rc_X11_look, rc_X11_bad, rc_X11_isDigit, rc_X11_put, rc_X11_letterOf, rc_X11_opens, rc_X11_closes, rc_X11_plainNumber, rc_X11_atom, rc_X11_sum, rc_X11_term, rc_X11_isSign, rc_X11_compare, rc_X11_condition, rc_X11_goOnAnd, rc_X11_goOnOr, rc_X11_unit, rc_X11_clause, rc_X11_open, rc_X11_atEnd, rc_X11_readLaw, rc_X11_bounded, rc_X11_worked, rc_X11_workOut, rc_X11_worthOf, rc_X11_number, rc_X11_itemOf, rc_X11_lowest, rc_X11_highest, rc_X11_usual, rc_X11_items, rc_X11_isWhole, rc_X11_readMill, rc_X11_fault, rc_X11_lay, rc_X11_of, rc_X11_takeMill, rc_X11_text, rc_X11_isLad, rc_X11_lives, rc_X11_living, rc_X11_manyLive, rc_X11_fearBy, rc_X11_fear, rc_X11_chosenNow, rc_X11_friendsOf, rc_X11_signs, rc_X11_master, rc_X11_lad, rc_X11_way, rc_X11_law, rc_X11_learnsBy, rc_X11_live, rc_X11_artOf, rc_X11_passYear, rc_X11_keep, rc_X11_isRefused, rc_X11_show, rc_X11_warn, rc_X11_leave, rc_X11_comeNow, rc_X11_come, rc_X11_years, rc_X11_bold, rc_X11_draw, rc_X11_drawLads, rc_X11_winters, rc_X11_status, rc_X11_undo, rc_X11_log, rc_X11_chosen, rc_X11_putAside, rc_X11_takeBack, rc_X11_tryPath, rc_X11_path, rc_X11_holds, rc_X11_tells, rc_X11_twins, rc_X11_chain, rc_X11_trusts, rc_X11_out, rc_X11_isSpies, rc_X11_areSpies, rc_X11_spies, rc_X11_clear, rc_X11_best, rc_X11_layHours, rc_X11_flight, rc_X11_reach, rc_X11_dare, rc_X11_ordersOf, rc_X11_pivots, rc_X11_shares, rc_X11_gameOf, rc_X11_areTwo, rc_X11_game, rc_X11_rests, rc_X11_grave, rc_X11_dug, rc_X11_odds, rc_X11_mostOf, rc_X11_ablest, rc_X11_hides, rc_X11_order, rc_X11_safe, rc_X11_friends, rc_X11_oldest, rc_X11_learns, rc_X11_image, rc_X11_back, rc_X11_count, fv_0_0, fv_0_1, fv_0_2, fv_0_3, fv_1_0, fv_1_1, fv_1_2, fv_1_3, fv_1_4, fv_1_5, fv_1_6, fv_2_0, fv_2_1, fv_2_2, fv_2_3, fv_2_4, fv_3_0, fv_3_1, fv_4_0, fv_4_1, fv_4_2, fv_4_3, fv_4_4, fv_4_5, fv_4_6, fv_5_0, fv_6_0, fv_6_1, fv_6_2, fv_6_3, fv_6_4, fv_6_5, fv_7_0, fv_7_1, fv_7_2, fv_8_0, fv_8_1, fv_8_2, fv_8_3, fv_9_0, fv_9_1, fv_9_2, fv_10_0, fv_10_1, fv_10_2, fv_10_3, fv_10_4, fv_10_5, fv_10_6, fv_10_7, fv_10_8, fv_10_9, fv_10_10, fv_10_11, fv_10_12, fv_10_13, fv_10_14, fv_10_15, fv_10_16, fv_11_0, fv_11_1, fv_11_2, fv_11_3, fv_11_4, fv_11_5, fv_11_6, fv_11_7, fv_11_8, fv_11_9, fv_11_10, fv_11_11, fv_11_12, fv_11_13, fv_11_14, fv_11_15, fv_11_16, fv_11_17, fv_11_18, fv_11_19, fv_11_20, fv_11_21, fv_11_22, fv_11_23, fv_11_24, fv_11_25, fv_11_26, fv_11_27, fv_11_28, fv_11_29, fv_11_30, fv_11_31, fv_11_32, fv_11_33, fv_11_34, fv_11_35, fv_11_36, fv_11_37, fv_11_38, fv_11_39, fv_11_40, fv_11_41, fv_11_42, fv_11_43, fv_11_44, fv_11_45, ft_0_2, ft_0_3, ft_1_5, ft_1_6, ft_2_1, ft_2_2, ft_2_3, ft_2_4, ft_3_1, ft_4_4, ft_4_5, ft_4_6, ft_6_3, ft_6_4, ft_6_5, ft_7_2, ft_8_1, ft_8_2, ft_8_3, ft_9_1, ft_9_2, ft_10_15, ft_10_16, ft_11_0, ft_11_2, ft_11_3, ft_11_4, ft_11_5, ft_11_13, ft_11_14, ft_11_20, ft_11_21, ft_11_24, ft_11_25, ft_11_28, ft_11_29, ft_11_31, ft_11_32, ft_11_34, ft_11_35, ft_11_38, ft_11_43, ft_11_45, e1]
  have c1 : (dCmp .eq (dLoc 1) (dInt 33)) [0, sgT T p] M1 = some (decide (sgT T p = 33), M1) := by simp only [fin, dSeq, dSet, dInc, dIf, dIfE, dRet, dReV, dInt, dLoc, dBin, dDiv, dUn, dFld, dAr, dLen, dRo, dCal, dCon, dBo, dCmp, dCm0, dCmpL, dNul, dAnd, dOr, dNot, dA0, dA1, dDo, dPutF, dUpdF, dPutA, dUpdA, Option.bind_some, Option.bind_none, opF, dvF, dvW, mtF, List.getD_cons_zero, List.getD_cons_succ, List.set_cons_zero, List.set_cons_succ, List.length_cons, List.length_nil, List.headD_cons, List.nil_append, List.cons_append, ite_bind, cmpI, cmpL, wr_0, decide_eq_true_eq, reduceIte, true_and, and_true, false_and, and_false, not_true_eq_false, not_false_eq_true, true_or, or_true, false_or, or_false, Int.cast_ofNat_Int, Int.toNat_natCast, Bool.false_eq_true, Nat.reduceLT, Nat.reduceLeDiff, Nat.reduceAdd, Nat.reduceMul, Nat.reduceSub, Nat.reduceEqDiff, Int.reduceLT, Int.reduceLE, Int.reduceEq, Int.reduceNeg, Int.reduceAdd, Int.reduceMul, Int.reduceSub, Int.reduceToNat, Bool.not_true, Bool.not_false, Bool.not_eq_true, Bool.not_eq_eq_eq_not, decide_true, decide_false, ne_eq, reduceCtorEq, ms_eq, id_eq, Option.map_some, Nat.lt_add_one, Nat.zero_lt_succ, wk_1, wk_2, wk_3, wk_4, wk_5, wk_6, wk_7, wk_8, wk_9, wk_10, wk_11, wk_12, wk_14, wk_16, wk_19, wk_20, wk_24, wk_30, wk_32, wk_33, wk_38, wk_39, wk_40, wk_41, wk_42, wk_43, wk_45, wk_47, wk_48, wk_49, wk_50, wk_55, wk_57, wk_58, wk_59, wk_60, wk_61, wk_62, wk_63, wk_64, wk_80, wk_91, wk_93, wk_97, wk_98, wk_99, wk_100, wk_101, wk_102, wk_103, wk_104, wk_107, wk_108, wk_110, wk_111, wk_112, wk_115, wk_119, wk_121, wk_124, wk_140, wk_200, wk_231, wk_240, wk_255, wk_300, wk_520, wk_999, wk_1000, wk_1000000, wk_10000, wk_20000, wk_10033, wk_10059, wk_10063, wk_m1, wk_m2, wz]
  have c2 : (dCmp .eq (dLoc 1) (dInt 40)) [0, sgT T p] M1 = some (decide (sgT T p = 40), M1) := by simp only [fin, dSeq, dSet, dInc, dIf, dIfE, dRet, dReV, dInt, dLoc, dBin, dDiv, dUn, dFld, dAr, dLen, dRo, dCal, dCon, dBo, dCmp, dCm0, dCmpL, dNul, dAnd, dOr, dNot, dA0, dA1, dDo, dPutF, dUpdF, dPutA, dUpdA, Option.bind_some, Option.bind_none, opF, dvF, dvW, mtF, List.getD_cons_zero, List.getD_cons_succ, List.set_cons_zero, List.set_cons_succ, List.length_cons, List.length_nil, List.headD_cons, List.nil_append, List.cons_append, ite_bind, cmpI, cmpL, wr_0, decide_eq_true_eq, reduceIte, true_and, and_true, false_and, and_false, not_true_eq_false, not_false_eq_true, true_or, or_true, false_or, or_false, Int.cast_ofNat_Int, Int.toNat_natCast, Bool.false_eq_true, Nat.reduceLT, Nat.reduceLeDiff, Nat.reduceAdd, Nat.reduceMul, Nat.reduceSub, Nat.reduceEqDiff, Int.reduceLT, Int.reduceLE, Int.reduceEq, Int.reduceNeg, Int.reduceAdd, Int.reduceMul, Int.reduceSub, Int.reduceToNat, Bool.not_true, Bool.not_false, Bool.not_eq_true, Bool.not_eq_eq_eq_not, decide_true, decide_false, ne_eq, reduceCtorEq, ms_eq, id_eq, Option.map_some, Nat.lt_add_one, Nat.zero_lt_succ, wk_1, wk_2, wk_3, wk_4, wk_5, wk_6, wk_7, wk_8, wk_9, wk_10, wk_11, wk_12, wk_14, wk_16, wk_19, wk_20, wk_24, wk_30, wk_32, wk_33, wk_38, wk_39, wk_40, wk_41, wk_42, wk_43, wk_45, wk_47, wk_48, wk_49, wk_50, wk_55, wk_57, wk_58, wk_59, wk_60, wk_61, wk_62, wk_63, wk_64, wk_80, wk_91, wk_93, wk_97, wk_98, wk_99, wk_100, wk_101, wk_102, wk_103, wk_104, wk_107, wk_108, wk_110, wk_111, wk_112, wk_115, wk_119, wk_121, wk_124, wk_140, wk_200, wk_231, wk_240, wk_255, wk_300, wk_520, wk_999, wk_1000, wk_1000000, wk_10000, wk_20000, wk_10033, wk_10059, wk_10063, wk_m1, wk_m2, wz]
  unfold unW1
  by_cases z1 : sgT T p = 33
  · rw [if_pos z1]
    rw [decide_eq_true z1] at c1
    obtain ⟨M2, o1, o2, o3, o4⟩ := l_opens x1 (by omega)
    have d1 := s_do0 (ρ := [sgT T p]) (rc_X11_opens [0]) o1
    by_cases k0 : k = 0
    · subst k0
      have dd := o4 (by omega)
      have d4 := dd.2.2.2.1
      have hb := dd.2.2.2.2.1
      have hT := dd.1.2.1
      have wb : wr ((skS T p : Nat) : Int) = ((skS T p : Nat) : Int) := wr_nat (by omega)
      have cw := c_wr0 (ρ := [sgT T p]) d4 wb
      rw [decide_eq_false (by omega)] at cw
      exact ⟨0, M2, fin_V (seq_t s0 (ifE_t c1 (seq_t d1 (if_f cw)))), FrP_trans (f1 c) (o2 c) (Nat.le_refl c), fun z => (by cases z), fun _ => DeadM_less dd (by omega) (by omega) (Nat.le_refl c)⟩
    · obtain ⟨k', rfl⟩ : ∃ k', k = k' + 1 := ⟨k - 1, by omega⟩
      have lv := o3 (by omega)
      obtain ⟨v, M3, q1, q2⟩ := h1 k' rfl (s + 1) (skS T p + 1) c M2 lv
      have cw := c_wr0 (ρ := [sgT T p]) lv.2.2.2.2.1 (wr_id (by decide) (by decide))
      rw [decide_eq_true rfl] at cw
      have d2 := s_do0 (ci := ci_X11_unit (grp_X11_condition g)) (ρ := [sgT T p]) (rc_X11_unit (grp_X11_condition g) [0]) (by rw [g_X11_unit]; exact q1)
      have tail : ∃ M4, ci_X11_put.2.2.2.2 [0, 9, 0] M3 = some (0, M4) ∧ OutM T w dp s c (bnR (unR T k' (skS T p + 1)) (fun q => okR1 q [10033])) M2 (ms M4 0 5 (M4 0 5 - 1)) := by
        cases er : (unR T k' (skS T p + 1)).1 with
        | true =>
          obtain ⟨M4, t1, t2⟩ := l_put (q2.2.1 er).1 (C := 10033) (k := 9) (v := 0) rfl (fun y => by omega) (fun y => by omega)
          have m5 : M4 0 5 = ((dp + 1 : Nat) : Int) := (t2.2.1 rfl).1.2.2.2.2.2.1
          have ed : M4 0 5 - 1 = (dp : Int) := by omega
          refine ⟨M4, t1, ?_⟩
          rw [ed]
          exact out_bn q2 (fun _ => out_5 t2 (by omega)) (fun z => by rw [er] at z; cases z)
        | false =>
          obtain ⟨M4, t1, t2, t3⟩ := d_put (q2.2.2 er) (by omega) 9 0
          exact ⟨M4, t1, out_bn q2 (fun z => by rw [er] at z; cases z) (fun _ => ⟨FrP_trans t2 (FrP_0 (Or.inr (Or.inr rfl))) (Nat.le_refl c), DeadM_less (d_5 t3 _) (by omega) (Nat.le_refl _) (Nat.le_refl c)⟩)⟩
      obtain ⟨M4, t1, t2⟩ := tail
      have d3 := s_do3 (ci := ci_X11_put) (ρ := [sgT T p]) (e := dInt 9) (f := dInt 0) (x := 9) (y := 0) (rc_X11_put [0, 9, 0]) (by simp only [fin, dSeq, dSet, dInc, dIf, dIfE, dRet, dReV, dInt, dLoc, dBin, dDiv, dUn, dFld, dAr, dLen, dRo, dCal, dCon, dBo, dCmp, dCm0, dCmpL, dNul, dAnd, dOr, dNot, dA0, dA1, dDo, dPutF, dUpdF, dPutA, dUpdA, Option.bind_some, Option.bind_none, opF, dvF, dvW, mtF, List.getD_cons_zero, List.getD_cons_succ, List.set_cons_zero, List.set_cons_succ, List.length_cons, List.length_nil, List.headD_cons, List.nil_append, List.cons_append, ite_bind, cmpI, cmpL, wr_0, decide_eq_true_eq, reduceIte, true_and, and_true, false_and, and_false, not_true_eq_false, not_false_eq_true, true_or, or_true, false_or, or_false, Int.cast_ofNat_Int, Int.toNat_natCast, Bool.false_eq_true, Nat.reduceLT, Nat.reduceLeDiff, Nat.reduceAdd, Nat.reduceMul, Nat.reduceSub, Nat.reduceEqDiff, Int.reduceLT, Int.reduceLE, Int.reduceEq, Int.reduceNeg, Int.reduceAdd, Int.reduceMul, Int.reduceSub, Int.reduceToNat, Bool.not_true, Bool.not_false, Bool.not_eq_true, Bool.not_eq_eq_eq_not, decide_true, decide_false, ne_eq, reduceCtorEq, ms_eq, id_eq, Option.map_some, Nat.lt_add_one, Nat.zero_lt_succ]) (by simp only [fin, dSeq, dSet, dInc, dIf, dIfE, dRet, dReV, dInt, dLoc, dBin, dDiv, dUn, dFld, dAr, dLen, dRo, dCal, dCon, dBo, dCmp, dCm0, dCmpL, dNul, dAnd, dOr, dNot, dA0, dA1, dDo, dPutF, dUpdF, dPutA, dUpdA, Option.bind_some, Option.bind_none, opF, dvF, dvW, mtF, List.getD_cons_zero, List.getD_cons_succ, List.set_cons_zero, List.set_cons_succ, List.length_cons, List.length_nil, List.headD_cons, List.nil_append, List.cons_append, ite_bind, cmpI, cmpL, wr_0, decide_eq_true_eq, reduceIte, true_and, and_true, false_and, and_false, not_true_eq_false, not_false_eq_true, true_or, or_true, false_or, or_false, Int.cast_ofNat_Int, Int.toNat_natCast, Bool.false_eq_true, Nat.reduceLT, Nat.reduceLeDiff, Nat.reduceAdd, Nat.reduceMul, Nat.reduceSub, Nat.reduceEqDiff, Int.reduceLT, Int.reduceLE, Int.reduceEq, Int.reduceNeg, Int.reduceAdd, Int.reduceMul, Int.reduceSub, Int.reduceToNat, Bool.not_true, Bool.not_false, Bool.not_eq_true, Bool.not_eq_eq_eq_not, decide_true, decide_false, ne_eq, reduceCtorEq, ms_eq, id_eq, Option.map_some, Nat.lt_add_one, Nat.zero_lt_succ]) t1
      have d4 := s_dn5 (M := M4) (ρ := [sgT T p]) rfl
      exact ⟨0, _, fin_V (seq_t s0 (ifE_t c1 (seq_t d1 (if_t cw (seq_t d2 (seq_t d3 d4)))))), out_pre (FrP_trans (f1 c) (o2 c) (Nat.le_refl c)) t2 (Nat.le_refl c)⟩
  · rw [if_neg z1]
    rw [decide_eq_false z1] at c1
    by_cases z2 : sgT T p = 40
    · rw [if_pos z2]
      rw [decide_eq_true z2] at c2
      obtain ⟨M2, o1, o2, o3, o4⟩ := l_opens x1 (by omega)
      have d1 := s_do0 (ρ := [sgT T p]) (rc_X11_opens [0]) o1
      by_cases k0 : k = 0
      · subst k0
        have dd := o4 (by omega)
        have d4 := dd.2.2.2.1
        have hb := dd.2.2.2.2.1
        have hT := dd.1.2.1
        have wb : wr ((skS T p : Nat) : Int) = ((skS T p : Nat) : Int) := wr_nat (by omega)
        have cw := c_wr0 (ρ := [sgT T p]) d4 wb
        rw [decide_eq_false (by omega)] at cw
        exact ⟨0, M2, fin_V (seq_t s0 (ifE_f c1 (ifE_t c2 (seq_t d1 (if_f cw))))), FrP_trans (f1 c) (o2 c) (Nat.le_refl c), fun z => (by cases z), fun _ => DeadM_less dd (by omega) (by omega) (Nat.le_refl c)⟩
      · obtain ⟨k', rfl⟩ : ∃ k', k = k' + 1 := ⟨k - 1, by omega⟩
        have lv := o3 (by omega)
        obtain ⟨v, M3, q1, q2⟩ := h2 k' rfl (s + 1) (skS T p + 1) c M2 lv
        have cw := c_wr0 (ρ := [sgT T p]) lv.2.2.2.2.1 (wr_id (by decide) (by decide))
        rw [decide_eq_true rfl] at cw
        have d2 := s_do0 (ci := ci_X11_condition (grp_X11_condition g)) (ρ := [sgT T p]) (rc_X11_condition (grp_X11_condition g) [0]) (by rw [g_X11_condition]; exact q1)
        have tail : ∃ M4, ci_X11_closes.2.2.2.2 [0, 41] M3 = some (0, M4) ∧ OutM T w dp (s + 1) c (bnR (coW T (unR T k') (skS T p + 1)) (sgR T 41)) M2 M4 := by
          cases er : (coW T (unR T k') (skS T p + 1)).1 with
          | true =>
            obtain ⟨M4, t1, t2⟩ := l_closes (q2.2.1 er).1 (d := 41) (by decide) (by decide)
            exact ⟨M4, t1, out_bn q2 (fun _ => t2) (fun z => by rw [er] at z; cases z)⟩
          | false =>
            obtain ⟨M4, t1, t2, t3⟩ := d_closes (q2.2.2 er) 41
            exact ⟨M4, t1, out_bn q2 (fun z => by rw [er] at z; cases z) (fun _ => ⟨t2, DeadM_less t3 (by omega) (Nat.le_refl _) (Nat.le_refl c)⟩)⟩
        obtain ⟨M4, t1, t2⟩ := tail
        have d3 := s_do2 (ci := ci_X11_closes) (ρ := [sgT T p]) (e := dInt 41) (x := 41) (rc_X11_closes [0, 41]) (by simp only [fin, dSeq, dSet, dInc, dIf, dIfE, dRet, dReV, dInt, dLoc, dBin, dDiv, dUn, dFld, dAr, dLen, dRo, dCal, dCon, dBo, dCmp, dCm0, dCmpL, dNul, dAnd, dOr, dNot, dA0, dA1, dDo, dPutF, dUpdF, dPutA, dUpdA, Option.bind_some, Option.bind_none, opF, dvF, dvW, mtF, List.getD_cons_zero, List.getD_cons_succ, List.set_cons_zero, List.set_cons_succ, List.length_cons, List.length_nil, List.headD_cons, List.nil_append, List.cons_append, ite_bind, cmpI, cmpL, wr_0, decide_eq_true_eq, reduceIte, true_and, and_true, false_and, and_false, not_true_eq_false, not_false_eq_true, true_or, or_true, false_or, or_false, Int.cast_ofNat_Int, Int.toNat_natCast, Bool.false_eq_true, Nat.reduceLT, Nat.reduceLeDiff, Nat.reduceAdd, Nat.reduceMul, Nat.reduceSub, Nat.reduceEqDiff, Int.reduceLT, Int.reduceLE, Int.reduceEq, Int.reduceNeg, Int.reduceAdd, Int.reduceMul, Int.reduceSub, Int.reduceToNat, Bool.not_true, Bool.not_false, Bool.not_eq_true, Bool.not_eq_eq_eq_not, decide_true, decide_false, ne_eq, reduceCtorEq, ms_eq, id_eq, Option.map_some, Nat.lt_add_one, Nat.zero_lt_succ]) t1
        have o := out_pre (FrP_trans (f1 c) (o2 c) (Nat.le_refl c)) t2 (Nat.le_refl c)
        refine ⟨0, M4, fin_V (seq_t s0 (ifE_f c1 (ifE_t c2 (seq_t d1 (if_t cw (seq_t d2 d3)))))), o.1, fun z => ?_, fun z => DeadM_less (o.2.2 z) (Nat.le_refl _) (by omega) (Nat.le_refl c)⟩
        exact ⟨LiveM_less (o.2.1 z).1 (by omega), (o.2.1 z).2⟩
    · rw [if_neg z2]
      rw [decide_eq_false z2] at c2
      obtain ⟨v, M2, q1, q2⟩ := b_sum T w k dp 24 hk (by omega) s p c M1 x1.1
      have d1 := s_do0 (ci := ci_X11_sum (grp_X11_sum 24)) (ρ := [sgT T p]) (rc_X11_sum (grp_X11_sum 24) [0]) (by rw [g_X11_sum]; exact q1)
      cases er : (suR T k p).1 with
      | true =>
        have lv := (q2.2.1 er).1
        have cw := c_wr0 (ρ := [sgT T p]) lv.2.2.2.2.1 (wr_id (by decide) (by decide))
        rw [decide_eq_true rfl] at cw
        obtain ⟨v2, M3, t1, t2⟩ := b_cmp hk s _ _ M2 lv
        have d2 := s_do0 (ci := ci_X11_compare) (ρ := [sgT T p]) (rc_X11_compare [0]) t1
        exact ⟨0, M3, fin_V (seq_t s0 (ifE_f c1 (ifE_f c2 (seq_t d1 (if_t cw d2))))), out_pre (f1 c) (out_bn q2 (fun _ => t2) (fun z => by rw [er] at z; cases z)) (Nat.le_refl c)⟩
      | false =>
        have dd := q2.2.2 er
        have d4 := dd.2.2.2.1
        have hb := dd.2.2.2.2.1
        have hT := dd.1.2.1
        have wb : wr (((suR T k p).2.1 : Nat) : Int) = (((suR T k p).2.1 : Nat) : Int) := wr_nat (by omega)
        have cw := c_wr0 (ρ := [sgT T p]) d4 wb
        rw [decide_eq_false (by omega)] at cw
        exact ⟨0, M2, fin_V (seq_t s0 (ifE_f c1 (ifE_f c2 (seq_t d1 (if_f cw))))), out_pre (f1 c) (out_bn q2 (fun z => by rw [er] at z; cases z) (fun _ => ⟨FrP_refl w c M2, dd⟩)) (Nat.le_refl c)⟩
theorem b_un (T : List Int) (w : Nat) : ∀ (k dp g : Nat), dp + k = 6 → 4 * k + 1 ≤ g → ActM' T w dp (fun M => grp_X11_condition g 3 [0] M) (unR T k)
  | k, dp, g, hk, hg => by
    obtain ⟨g, rfl⟩ : ∃ q, g = q + 1 := ⟨g - 1, by omega⟩
    exact b_unit hk (fun k' e => b_un T w k' (dp + 1) g (by omega) (by omega)) (fun k' e => b_cond (N := 4 * k' + 1) (fun g' hg' => b_un T w k' (dp + 1) g' (by omega) hg') (fw_un k') g (by omega))
  termination_by k => k
