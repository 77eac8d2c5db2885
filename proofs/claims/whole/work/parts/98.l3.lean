/-! PART 98.l3: the operation that may throw. -/
theorem o_lad {Mc Mr : Mem} (hR : Rel Mc Mr) {a w : Int} (ha : wr a = a) (hw : wr w = w) : ∃ (b dec : Bool) (r : Int) (Mr2 : Mem), ci_X2_has.2.2.2.2 [15, a] Mc = some (b2i b, Mc) ∧ (dec = true ↔ (b = true ∧ 0 ≤ wr w ∧ wr w ≤ 8)) ∧ (dec = true → (if wr w = 7 then ci_X2_fear.2.2.2.2 [15, a] Mc else if wr w = 8 then ci_X2_signs.2.2.2.2 [15, a] Mc else ci_X2_get.2.2.2.2 [15, a, w] Mc) = some (r, Mc)) ∧ ci_X11_lad.2.2.2.2 [0, a, w] Mr = some (if dec = true then r else 0, Mr2) ∧ ci_X11_thrown.2.2.2.2 [0] Mr2 = some (if dec = true then 0 else 1, Mr2) ∧ Rel Mc Mr2 := by
  obtain ⟨T, n, s, laws, sec, grv, W, im, mr, bold, hold, st, hc, hr, hs⟩ := hR
  obtain ⟨R, e1, -, v1, hb, -⟩ := facts hc hr hs
  have thr : ∀ M : Mem, ci_X11_thrown.2.2.2.2 [0] M = some (M 0 0, M) := fun M => by
    rw [u_X11_thrown]
    simp only [fin, dSeq, dSet, dInc, dIf, dIfE, dRet, dReV, dInt, dLoc, dBin, dDiv, dUn, dFld, dAr, dLen, dRo, dCal, dCon, dBo, dCmp, dCm0, dCmpL, dNul, dAnd, dOr, dNot, dA0, dA1, dDo, dPutF, dUpdF, dPutA, dUpdA, Option.bind_some, Option.bind_none, opF, dvF, dvW, mtF, List.getD_cons_zero, List.getD_cons_succ, List.set_cons_zero, List.set_cons_succ, List.length_cons, List.length_nil, List.headD_cons, List.nil_append, List.cons_append, ite_bind, cmpI, cmpL, wr_0, decide_eq_true_eq, reduceIte, true_and, and_true, false_and, and_false, not_true_eq_false, not_false_eq_true, true_or, or_true, false_or, or_false, Int.cast_ofNat_Int, Int.toNat_natCast, Bool.false_eq_true, Nat.reduceLT, Nat.reduceLeDiff, Nat.reduceAdd, Nat.reduceMul, Nat.reduceSub, Nat.reduceEqDiff, Int.reduceLT, Int.reduceLE, Int.reduceEq, Int.reduceNeg, Int.reduceAdd, Int.reduceMul, Int.reduceSub, Int.reduceToNat, Bool.not_true, Bool.not_false, Bool.not_eq_true, Bool.not_eq_eq_eq_not, decide_true, decide_false, ne_eq, reduceCtorEq, ms_eq, id_eq, Option.map_some, Nat.lt_add_one, Nat.zero_lt_succ, obM0, isM0, arM1, apM1, arM2, apM2, arM3, apM3, arM4, apM4, arM5, apM5, arM6, apM6, arM7, apM7, arM8, apM8, arM9, apM9, arM10, apM10, arM11, apM11, arM12, apM12, arM13, apM13, arM14, apM14, arM15, apM15, arM16, apM16, arM17, apM17, arM18, apM18, arM19, apM19, arM20, apM20, arM21, apM21, arM22, apM22, arM23, apM23, arM24, apM24, arM25, apM25, arM26, apM26, rc_J6_bitCount_0f7a4M, rc_X11_in, rc_X11_has, rc_X11_thrown, rc_X11_byteOf, rc_X11_feed, rc_X11_end, rc_X11_here, rc_X11_look, rc_X11_bad, rc_X11_isDigit, rc_X11_put, rc_X11_letterOf, rc_X11_opens, rc_X11_closes, rc_X11_plainNumber, rc_X11_atom, rc_X11_sum, rc_X11_term, rc_X11_isSign, rc_X11_compare, rc_X11_condition, rc_X11_goOnAnd, rc_X11_goOnOr, rc_X11_unit, rc_X11_clause, rc_X11_open, rc_X11_atEnd, rc_X11_readLaw, rc_X11_bounded, rc_X11_worked, rc_X11_workOut, rc_X11_worthOf, rc_X11_number, rc_X11_itemOf, rc_X11_lowest, rc_X11_highest, rc_X11_usual, rc_X11_items, rc_X11_isWhole, rc_X11_readMill, rc_X11_fault, rc_X11_lay, rc_X11_of, rc_X11_takeMill, rc_X11_text, rc_X11_isLad, rc_X11_lives, rc_X11_living, rc_X11_manyLive, rc_X11_fearBy, rc_X11_fear, rc_X11_chosenNow, rc_X11_friendsOf, rc_X11_signs, rc_X11_master, rc_X11_lad, rc_X11_way, rc_X11_law, rc_X11_learnsBy, rc_X11_live, rc_X11_artOf, rc_X11_passYear, rc_X11_keep, rc_X11_isRefused, rc_X11_show, rc_X11_warn, rc_X11_leave, rc_X11_comeNow, rc_X11_come, rc_X11_years, rc_X11_bold, rc_X11_draw, rc_X11_drawLads, rc_X11_winters, rc_X11_status, rc_X11_undo, rc_X11_log, rc_X11_chosen, rc_X11_putAside, rc_X11_takeBack, rc_X11_tryPath, rc_X11_path, rc_X11_holds, rc_X11_tells, rc_X11_twins, rc_X11_chain, rc_X11_trusts, rc_X11_out, rc_X11_isSpies, rc_X11_areSpies, rc_X11_spies, rc_X11_clear, rc_X11_best, rc_X11_layHours, rc_X11_flight, rc_X11_reach, rc_X11_dare, rc_X11_ordersOf, rc_X11_pivots, rc_X11_shares, rc_X11_gameOf, rc_X11_areTwo, rc_X11_game, rc_X11_rests, rc_X11_grave, rc_X11_dug, rc_X11_odds, rc_X11_mostOf, rc_X11_ablest, rc_X11_hides, rc_X11_order, rc_X11_safe, rc_X11_friends, rc_X11_oldest, rc_X11_learns, rc_X11_image, rc_X11_back, rc_X11_count, fv_0_0, fv_0_1, fv_0_2, fv_0_3, fv_1_0, fv_1_1, fv_1_2, fv_1_3, fv_1_4, fv_1_5, fv_1_6, fv_2_0, fv_2_1, fv_2_2, fv_2_3, fv_2_4, fv_3_0, fv_3_1, fv_4_0, fv_4_1, fv_4_2, fv_4_3, fv_4_4, fv_4_5, fv_4_6, fv_5_0, fv_6_0, fv_6_1, fv_6_2, fv_6_3, fv_6_4, fv_6_5, fv_7_0, fv_7_1, fv_7_2, fv_8_0, fv_8_1, fv_8_2, fv_8_3, fv_9_0, fv_9_1, fv_9_2, fv_10_0, fv_10_1, fv_10_2, fv_10_3, fv_10_4, fv_10_5, fv_10_6, fv_10_7, fv_10_8, fv_10_9, fv_10_10, fv_10_11, fv_10_12, fv_10_13, fv_10_14, fv_10_15, fv_10_16, fv_11_0, fv_11_1, fv_11_2, fv_11_3, fv_11_4, fv_11_5, fv_11_6, fv_11_7, fv_11_8, fv_11_9, fv_11_10, fv_11_11, fv_11_12, fv_11_13, fv_11_14, fv_11_15, fv_11_16, fv_11_17, fv_11_18, fv_11_19, fv_11_20, fv_11_21, fv_11_22, fv_11_23, fv_11_24, fv_11_25, fv_11_26, fv_11_27, fv_11_28, fv_11_29, fv_11_30, fv_11_31, fv_11_32, fv_11_33, fv_11_34, fv_11_35, fv_11_36, fv_11_37, fv_11_38, fv_11_39, fv_11_40, fv_11_41, fv_11_42, fv_11_43, fv_11_44, fv_11_45, ft_0_2, ft_0_3, ft_1_5, ft_1_6, ft_2_1, ft_2_2, ft_2_3, ft_2_4, ft_3_1, ft_4_4, ft_4_5, ft_4_6, ft_6_3, ft_6_4, ft_6_5, ft_7_2, ft_8_1, ft_8_2, ft_8_3, ft_9_1, ft_9_2, ft_10_15, ft_10_16, ft_11_0, ft_11_2, ft_11_3, ft_11_4, ft_11_5, ft_11_13, ft_11_14, ft_11_20, ft_11_21, ft_11_24, ft_11_25, ft_11_28, ft_11_29, ft_11_31, ft_11_32, ft_11_34, ft_11_35, ft_11_38, ft_11_43, ft_11_45]
  have rel : ∀ v, Rel Mc (ms Mr 0 0 v) := fun v => by
    have no : ∀ j, ¬ j = 0 → ms Mr 0 0 v j = Mr j := fun j hj => ms_ne hj
    have n0 : ∀ k, ¬ k = 0 → ms Mr 0 0 v 0 k = Mr 0 k := fun k hk => by rw [ms_at, if_neg (fun z => hk z.2)]
    refine ⟨T, n, s, laws, sec, grv, W, im, mr, bold, hold, st, hc, SvR_gen hr ?_ (fun k hk => n0 k (fun z => by rw [z] at hk; exact absurd hk (by decide))) (fun j hj => no j (fun z => by rw [z] at hj; exact absurd hj (by decide))) (fun w cl h => LawM_eq (hr.2.2.1.2 w cl h) (fun j hj => no j (fun z => by rw [z] at hj; exact absurd hj (by decide)))), hs⟩
    obtain ⟨t1, t2, t3⟩ := hr.1
    exact ⟨by rw [n0 2 (by decide)]; exact t1, t2, fun i hi => by rw [no 1 (by decide)]; exact t3 i hi⟩
  have m1 := r_ladM v1 hb ha hw
  refine ⟨decide (0 ≤ a ∧ a < n), ladB n a w, ladS n s.1 a w, if ladB n a w = true then ms Mr 0 0 0 else ms Mr 0 0 1, h_has R ha, ?_, fun hd => ?_, ?_, ?_, ?_⟩
  · unfold ladB
    rw [decide_eq_true_eq, decide_eq_true_eq, hw]
    constructor <;> intro z <;> omega
  · have hd := of_decide_eq_true hd
    obtain ⟨l, rfl⟩ : ∃ l : Nat, a = (l : Int) := ⟨a.toNat, by omega⟩
    have hl : l < n := by omega
    have h8 := hb.1
    rw [hw]
    unfold ladS
    by_cases w7 : w = 7
    · rw [if_pos w7, if_neg (by omega), if_neg (by omega), if_pos w7, h_fear R hl, e1]
      rfl
    · rw [if_neg w7]
      by_cases w8 : w = 8
      · have cs : ci_X2_signs.2.2.2.2 [15, (l : Int)] Mc = some ((sgS n (hv Mc 15) l : Int), Mc) := c_signs (h := 15) (by decide) R.1 R.2.1 hl
        rw [if_pos w8, if_neg (by omega), if_neg (by omega), if_neg (by omega), cs, e1]
        rfl
      · rw [if_neg w8]
        obtain ⟨k, rfl⟩ : ∃ k : Nat, w = (k : Int) := ⟨w.toNat, by omega⟩
        have cg : ci_X2_get.2.2.2.2 [15, (l : Int), (k : Int)] Mc = some (hv Mc 15 l k, Mc) := f_g (h := 15) (by decide) l k Mc (by omega) (by omega)
        rw [cg, e1]
        by_cases w6 : (k : Int) < 6
        · rw [if_pos w6]; rfl
        · rw [if_neg w6, if_pos (by omega), show k = 6 by omega]; rfl
  · rw [m1]
    by_cases z : ladB n a w = true
    · rw [if_pos z, if_pos z, if_pos z]
    · rw [if_neg z, if_neg z, if_neg z]
  · rw [thr]
    by_cases z : ladB n a w = true
    · rw [if_pos z, if_pos z]; rfl
    · rw [if_neg z, if_neg z]; rfl
  · by_cases z : ladB n a w = true
    · rw [if_pos z]; exact rel 0
    · rw [if_neg z]; exact rel 1
