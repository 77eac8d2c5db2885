/-! PART 63: the class: what one learns; a year goes by. -/
theorem hs_x : ∀ h ∈ hsL, (¬ h = 9 ∧ ¬ h = 10 ∧ ¬ h = 11 ∧ ¬ h = 12 ∧ ¬ h = 13) ∧ (¬ h + 1 = 9 ∧ ¬ h + 1 = 10 ∧ ¬ h + 1 = 11 ∧ ¬ h + 1 = 12 ∧ ¬ h + 1 = 13) := by decide
theorem runS_congr {lt lt' : Nat → Int} (h : ∀ k, k < 6 → lt k = lt' k) : ∀ (p : List Int) (s : List Int) (ks ks' : List Bool), okR p ks = some ks' → runS lt p s = runS lt' p s
  | [], _, _, _, _ => rfl
  | c :: p, s, ks, ks', ho => by
    have ho : (okW c ks).bind (okR p) = some ks' := ho
    cases hw : okW c ks with
    | none => rw [hw] at ho; cases ho
    | some k1 =>
      rw [hw] at ho
      show runS lt p (wkS lt c s) = runS lt' p (wkS lt' c s)
      have e : wkS lt c s = wkS lt' c s := by
        unfold wkS
        unfold okW at hw
        by_cases c1 : c < 10000
        · rw [if_pos c1, if_pos c1]
        · rw [if_neg c1, if_neg c1]
          by_cases c2 : 20000 ≤ c
          · rw [if_pos c2, if_pos c2]
            rw [if_neg c1, if_pos c2] at hw
            by_cases c3 : c < 20006
            · rw [h _ (by omega)]
            · rw [if_neg c3] at hw
              split at hw <;> cases hw
          · rw [if_neg c2, if_neg c2]
      rw [e]
      exact runS_congr h p _ k1 ks' ho
theorem wtS_congr {lt lt' : Nat → Int} (h : ∀ k, k < 6 → lt k = lt' k) : ∀ (cl : List (List Int × List Int)), (∀ q ∈ cl, okCl q) → wtS lt cl = wtS lt' cl
  | [], _ => rfl
  | q :: cl, hq => by
    obtain ⟨n1, n2, n3, b, n4⟩ := hq q List.mem_cons_self
    have e1 : runS lt q.1 [] = runS lt' q.1 [] := by
      rcases n3 with e | e
      · rw [e]; rfl
      · exact runS_congr h _ _ _ _ e
    have e2 := runS_congr h q.2 [] _ _ n4
    have e3 := wtS_congr h cl (fun z hz => hq z (List.mem_cons_of_mem _ hz))
    unfold wtS
    rw [e1, e2, e3]
def ltrS (a : Nat → Nat → Int) (l : Nat) (y many : Int) : Nat → Int := fun k => if k = 0 then a l 0 else if k = 1 then a l 1 else if k = 2 then a l 2 else if k = 3 then a l 4 else if k = 4 then y else many
abbrev Law : Type := Option (List (List Int × List Int))
/-- what one learns -/
def leS (law : Law) (ls : Int) (a : Nat → Nat → Int) (l : Nat) (y many : Int) : Int := max 0 (min 9 (match law with | none => ls + a l 1 / 10 | some cl => wtS (ltrS a l y many) cl))
theorem leS_rng (law : Law) (ls : Int) (a : Nat → Nat → Int) (l : Nat) (y many : Int) : 0 ≤ leS law ls a l y many ∧ leS law ls a l y many ≤ 9 := by unfold leS; omega
/-- what a call leaves alone: all but the rows S and the top of the laws' stack -/
def FrC (S : List Nat) (M M' : Mem) : Prop := (∀ j, ¬ j ∈ S → ¬ j = 9 → M' j = M j) ∧ ∀ k, ¬ k = 4 → M' 9 k = M 9 k
theorem FrC_refl (S : List Nat) (M : Mem) : FrC S M M := ⟨fun _ _ _ => rfl, fun _ _ => rfl⟩
theorem FrC_trans {S T : List Nat} {M M1 M2 : Mem} (h1 : FrC S M M1) (h2 : FrC T M1 M2) (hs : ∀ j, j ∈ T → j ∈ S) : FrC S M M2 := ⟨fun j a b => by rw [h2.1 j (fun e => a (hs j e)) b, h1.1 j a b], fun k a => by rw [h2.2 k a, h1.2 k a]⟩
theorem FrC_sub {S T : List Nat} {M M1 : Mem} (h1 : FrC S M M1) (hs : ∀ j, j ∈ S → j ∈ T) : FrC T M M1 := ⟨fun j a b => h1.1 j (fun e => a (hs j e)) b, h1.2⟩
theorem FrC_ms {S : List Nat} {i k : Nat} {v : Int} {M : Mem} (h : i ∈ S) (h9 : ¬ i = 9) : FrC S M (ms M i k v) := ⟨fun j a _ => ms_ne (fun e => a (e ▸ h)), fun q _ => by rw [ms_ne (Ne.symm h9)]⟩
def HoldC (M : Mem) (law : Law) : Prop := match law with
  | none => M 9 6 = -1
  | some cl => ∃ w : Nat, w < 4 ∧ M 9 6 = (w : Int) ∧ LawC M w cl
theorem HoldC_fr {S : List Nat} {M M' : Mem} {law : Law} (h : HoldC M law) (f : FrC S M M') (s1 : ¬ 10 ∈ S) (s2 : ¬ 11 ∈ S) : HoldC M' law := by
  have e10 := f.1 10 s1 (by decide)
  have e11 := f.1 11 s2 (by decide)
  have e6 := f.2 6 (by decide)
  match law, h with
  | none, h => show M' 9 6 = -1; rw [e6]; exact h
  | some cl, ⟨w, h1, h2, h3, h4, h5, h6⟩ =>
    refine ⟨w, h1, by rw [e6]; exact h2, h3, by rw [e11]; exact h4, h5, fun j hj => ?_⟩
    rw [e10]
    exact h6 j hj
theorem c_within {v : Int} {M : Mem} (h1 : -2147483648 ≤ v) (h2 : v < 2147483648) : ci_X10_within.2.2.2.2 [0, 9, v] M = some (max 0 (min 9 v), M) := by
  rw [u_X10_within]
  simp (disch := omega) only [fin, dSeq, dSet, dInc, dIf, dIfE, dRet, dReV, dInt, dLoc, dBin, dDiv, dUn, dFld, dAr, dLen, dRo, dCal, dCon, dBo, dCmp, dCm0, dCmpL, dNul, dAnd, dOr, dNot, dA0, dA1, dDo, dPutF, dUpdF, dPutA, dUpdA, Option.bind_some, Option.bind_none, opF, dvF, dvW, mtF, List.getD_cons_zero, List.getD_cons_succ, List.set_cons_zero, List.set_cons_succ, List.length_cons, List.length_nil, List.headD_cons, List.nil_append, List.cons_append, ite_bind, cmpI, cmpL, wr_0, decide_eq_true_eq, reduceIte, true_and, and_true, false_and, and_false, not_true_eq_false, not_false_eq_true, true_or, or_true, false_or, or_false, Int.cast_ofNat_Int, Int.toNat_natCast, Bool.false_eq_true, Nat.reduceLT, Nat.reduceLeDiff, Nat.reduceAdd, Nat.reduceMul, Nat.reduceSub, Nat.reduceEqDiff, Int.reduceLT, Int.reduceLE, Int.reduceEq, Int.reduceNeg, Int.reduceAdd, Int.reduceMul, Int.reduceSub, Int.reduceToNat, Bool.not_true, Bool.not_false, Bool.not_eq_true, Bool.not_eq_eq_eq_not, decide_true, decide_false, ne_eq, reduceCtorEq, ms_eq, id_eq, Option.map_some, Nat.lt_add_one, Nat.zero_lt_succ, mnI_nat, mxI_nat]
theorem wtS_rng {lt : Nat → Int} (hlt : ∀ k, k < 6 → -1000000 ≤ lt k ∧ lt k ≤ 1000000) : ∀ (p : List Int) (s : List Int) (ks ks' : List Bool), skK s ks → okR p ks = some ks' → skK (runS lt p s) ks'
  | [], s, ks, ks', hk, ho => by
    have e : ks = ks' := Option.some.inj ho
    subst e
    exact hk
  | c :: p, s, ks, ks', hk, ho => by
    have ho : (okW c ks).bind (okR p) = some ks' := ho
    cases hw : okW c ks with
    | none => rw [hw] at ho; cases ho
    | some k1 =>
      rw [hw] at ho
      refine wtS_rng hlt p _ k1 ks' ?_ ho
      unfold okW at hw
      unfold wkS
      by_cases h40 : 40 ≤ ks.length
      · rw [if_pos h40] at hw; cases hw
      rw [if_neg h40] at hw
      by_cases c1 : c < 10000
      · rw [if_pos c1] at hw ⊢
        by_cases c0 : 0 ≤ c
        · rw [if_pos c0] at hw; cases hw
          exact ⟨⟨by omega, by omega⟩, (fun e => by cases e), hk⟩
        · rw [if_neg c0] at hw; cases hw
      · rw [if_neg c1] at hw ⊢
        by_cases c2 : 20000 ≤ c
        · rw [if_pos c2] at hw ⊢
          by_cases c3 : c < 20006
          · rw [if_pos c3] at hw; cases hw
            exact ⟨hlt _ (by omega), (fun e => by cases e), hk⟩
          · rw [if_neg c3] at hw; cases hw
        · rw [if_neg c2] at hw ⊢
          by_cases c3 : c = 10033
          · rw [if_pos c3] at hw ⊢
            match s, ks, hk, hw with
            | v :: s, true :: ks, hk, hw => cases hw; exact ⟨by have := hk.2.1 rfl; omega, fun _ => by have := hk.2.1 rfl; omega, hk.2.2⟩
            | v :: s, false :: ks, hk, hw => cases hw
            | [], [], hk, hw => cases hw
          · rw [if_neg c3] at hw ⊢
            match s, ks, hk, hw with
            | r :: l :: s, b2 :: b1 :: ks, hk, hw =>
              dsimp only at hw ⊢
              split at hw
              · cases hw; exact ⟨resS_rng _ _ _, (fun e => by cases e), hk.2.2.2.2⟩
              · split at hw
                · cases hw; exact ⟨resS_rng _ _ _, (fun _ => resS_tr (by omega)), hk.2.2.2.2⟩
                · split at hw
                  · cases hw; exact ⟨resS_rng _ _ _, (fun _ => resS_tr (by omega)), hk.2.2.2.2⟩
                  · cases hw
            | [], [], hk, hw => cases hw
            | [v], [b], hk, hw => cases hw
theorem wt_rng {lt : Nat → Int} (hlt : ∀ k, k < 6 → -1000000 ≤ lt k ∧ lt k ≤ 1000000) : ∀ (cl : List (List Int × List Int)), (∀ q ∈ cl, okCl q) → -1000000 ≤ wtS lt cl ∧ wtS lt cl ≤ 1000000
  | [], _ => by unfold wtS; omega
  | q :: cl, hq => by
    obtain ⟨n1, n2, n3, b, n4⟩ := hq q List.mem_cons_self
    have e3 := wt_rng hlt cl (fun z hz => hq z (List.mem_cons_of_mem _ hz))
    obtain ⟨x, x1, x2⟩ := skK_one (wtS_rng hlt q.2 [] [] [b] trivial n4)
    unfold wtS
    split
    · rw [x1]; exact x2
    · exact e3
theorem c_lesson {h n : Nat} {M : Mem} (hh : h ∈ hsL) (hb : HB n (hv M h)) {l : Nat} (hl : l < n) {many : Nat} (hm : many ≤ 8) (hy : 0 ≤ M h 2 ∧ M h 2 ≤ 2000) (hs : 0 ≤ M h 3 ∧ M h 3 ≤ 9) {law : Law} (hL : HoldC M law) : ∃ M', ci_X4_lessonOf.2.2.2.2 [9, h, (l : Int), (many : Int)] M = some (leS law (M h 3) (hv M h) l (M h 2) many, M') ∧ FrC [12, 13] M M' := by
  rw [u_X4_lessonOf]
  have hk := hb.2 l hl
  have h8 : l < 8 := by have := hb.1; omega
  match law, hL with
  | none, hL =>
    have hL : M 9 6 = -1 := hL
    have i10 : idv (hv M h l 1) 10 = hv M h l 1 / 10 := idv_pos (by omega) (by omega) (by decide) (by decide)
    have g := c_within (v := M h 3 + hv M h l 1 / 10) (M := M) (by omega) (by omega)
    refine ⟨M, ?_, FrC_refl _ _⟩
    simp only [fin, dSeq, dSet, dInc, dIf, dIfE, dRet, dReV, dInt, dLoc, dBin, dDiv, dUn, dFld, dAr, dLen, dRo, dCal, dCon, dBo, dCmp, dCm0, dCmpL, dNul, dAnd, dOr, dNot, dA0, dA1, dDo, dPutF, dUpdF, dPutA, dUpdA, Option.bind_some, Option.bind_none, opF, dvF, dvW, mtF, List.getD_cons_zero, List.getD_cons_succ, List.set_cons_zero, List.set_cons_succ, List.length_cons, List.length_nil, List.headD_cons, List.nil_append, List.cons_append, ite_bind, cmpI, cmpL, wr_0, decide_eq_true_eq, reduceIte, true_and, and_true, false_and, and_false, not_true_eq_false, not_false_eq_true, true_or, or_true, false_or, or_false, Int.cast_ofNat_Int, Int.toNat_natCast, Bool.false_eq_true, Nat.reduceLT, Nat.reduceLeDiff, Nat.reduceAdd, Nat.reduceMul, Nat.reduceSub, Nat.reduceEqDiff, Int.reduceLT, Int.reduceLE, Int.reduceEq, Int.reduceNeg, Int.reduceAdd, Int.reduceMul, Int.reduceSub, Int.reduceToNat, Bool.not_true, Bool.not_false, Bool.not_eq_true, Bool.not_eq_eq_eq_not, decide_true, decide_false, ne_eq, reduceCtorEq, ms_eq, id_eq, Option.map_some, Nat.lt_add_one, Nat.zero_lt_succ, obC0, isC0, obC1, isC1, arC2, apC2, obC3, isC3, arC4, apC4, arC5, apC5, arC6, apC6, obC7, isC7, arC8, apC8, obC9, isC9, arC10, apC10, arC11, apC11, arC12, apC12, arC13, apC13, arC14, apC14, obC15, isC15, arC16, apC16, obC17, isC17, arC18, apC18, obC19, isC19, arC20, apC20, obC21, isC21, arC22, apC22, obC23, isC23, arC24, apC24, obC25, isC25, arC26, apC26, arC27, apC27, obC28, isC28, roC29, obC30, isC30, arC31, apC31, obC32, isC32, arC33, apC33, obC34, isC34, arC35, apC35, obC36, isC36, arC37, apC37, obC38, isC38, arC39, apC39, obC40, isC40, arC41, apC41, obC42, isC42, arC43, apC43, arC44, apC44, obC45, isC45, arC46, apC46, arC47, apC47, arC48, apC48, arC49, apC49, arC50, apC50, arC51, apC51, arC52, arC53, arC54, arC55, arC56, arC57, arC58, arC59, arC60, arC61, rc_X10_filled, rc_X10_put, rc_X8_addWord, rc_X10_feed, rc_X10_end, rc_X8_begin, rc_X10_move, rc_X8_sign, rc_X8_step, rc_X10_placeIn, rc_X10_isDigit, rc_X8_failAt, rc_X8_fail, rc_X10_at, rc_X8_number, rc_X6_items, rc_X6_clause, rc_X8_wantOver, rc_X6_item, rc_X6_isWhole, rc_X6_read, rc_X8_want, rc_X3_write, rc_X3_mayNest, rc_X3_atom, rc_X3_sum, rc_X3_term, rc_X3_isRelation, rc_X3_condition, rc_X3_nested, rc_X3_truth, rc_X3_unit, rc_X3_clause, rc_X3_read, rc_X10_fault, rc_X2_set, rc_X2_settle, rc_X7_shorten, rc_X7_build, rc_X1_forget, rc_X0_forget, rc_X10_found, rc_X4_add, rc_X10_text, rc_X10_isTold, rc_X10_master, rc_X10_way, rc_X10_law, rc_X2_has, rc_X2_get, rc_X2_lives, rc_X10_refuse, rc_X0_keep, rc_X2_fear, rc_X10_show, rc_X10_warn, rc_X2_living, rc_J6_bitCount_0f7a4C, rc_X2_manyLive, rc_X10_leave, rc_X2_welcome, rc_X10_come, rc_X10_within, rc_X4_pop, rc_X4_push, rc_X4_result, rc_X4_held, rc_X4_work, rc_X4_worth, rc_X4_lessonOf, rc_X2_grow, rc_X2_mostFeared, rc_X2_pass, rc_X2_artOf, rc_X2_artOfAll, rc_X5_write, rc_X10_passYear, rc_X10_years, rc_X10_bold, rc_X10_stepped, rc_X10_drawn, rc_X10_showByDraws, rc_X10_comeByDraws, rc_X10_winters, rc_X10_status, rc_X0_takeBack, rc_X10_undo, rc_X10_logLength, rc_X5_read, rc_X10_log, rc_X2_copy, rc_X5_copy, rc_X10_image, rc_X10_back, rc_X10_chosen, rc_X2_rankedByFear, rc_X10_order, rc_X10_safe, rc_X9_stepAt, rc_X9_tread, rc_X9_search, rc_X10_path, rc_X10_holds, rc_X2_lotsOfAll, rc_X10_odds, rc_X10_learns, rc_X2_befriending, rc_X2_signs, rc_X2_differsFromAll, rc_X2_tellingSigns, rc_X10_tells, rc_X2_areTwins, rc_X10_twins, rc_X2_stepsBetween, rc_X10_chain, rc_X2_trusted, rc_X10_trusts, rc_X10_friends, rc_X1_addSecret, rc_X10_out, rc_X10_asksForSpies, rc_X1_fits, rc_X1_fits_, rc_X1_manyFitting, rc_X1_fitting, rc_X10_spies, rc_X1_manyFittingWith, rc_X10_clear, rc_X10_best, rc_X1_addGrave, rc_X10_grave, rc_X1_couldDig, rc_X1_diggers, rc_X10_dug, rc_X7_hoursTo, rc_X10_flight, rc_X10_reach, rc_X2_fewestWith, rc_X10_dare, rc_X2_turningOrders, rc_X10_shares, rc_X10_canPlay, rc_X10_played, rc_X10_game, rc_X10_isRest, rc_X10_rests, rc_X2_mostOf, rc_X10_ablest, rc_X10_oldest, rc_X10_hides, rc_X2_warned, rc_X10_count, fv_0_0, fv_0_1, fv_0_2, fv_0_3, fv_1_0, fv_1_1, fv_1_2, fv_1_3, fv_1_4, fv_1_5, fv_1_6, fv_2_0, fv_2_1, fv_2_2, fv_2_3, fv_2_4, fv_3_0, fv_3_1, fv_4_0, fv_4_1, fv_4_2, fv_4_3, fv_4_4, fv_4_5, fv_4_6, fv_5_0, fv_6_0, fv_6_1, fv_6_2, fv_6_3, fv_6_4, fv_6_5, fv_7_0, fv_7_1, fv_7_2, fv_8_0, fv_8_1, fv_8_2, fv_8_3, fv_9_0, fv_9_1, fv_9_2, fv_10_0, fv_10_1, fv_10_2, fv_10_3, fv_10_4, fv_10_5, fv_10_6, fv_10_7, fv_10_8, fv_10_9, fv_10_10, fv_10_11, fv_10_12, fv_10_13, fv_10_14, fv_10_15, fv_10_16, fv_11_0, fv_11_1, fv_11_2, fv_11_3, fv_11_4, fv_11_5, fv_11_6, fv_11_7, fv_11_8, fv_11_9, fv_11_10, fv_11_11, fv_11_12, fv_11_13, fv_11_14, fv_11_15, fv_11_16, fv_11_17, fv_11_18, fv_11_19, fv_11_20, fv_11_21, fv_11_22, fv_11_23, fv_11_24, fv_11_25, fv_11_26, fv_11_27, fv_11_28, fv_11_29, fv_11_30, fv_11_31, fv_11_32, fv_11_33, fv_11_34, fv_11_35, fv_11_36, fv_11_37, fv_11_38, fv_11_39, fv_11_40, fv_11_41, fv_11_42, fv_11_43, fv_11_44, fv_11_45, ft_0_2, ft_0_3, ft_1_5, ft_1_6, ft_2_1, ft_2_2, ft_2_3, ft_2_4, ft_3_1, ft_4_4, ft_4_5, ft_4_6, ft_6_3, ft_6_4, ft_6_5, ft_7_2, ft_8_1, ft_8_2, ft_8_3, ft_9_1, ft_9_2, ft_10_15, ft_10_16, ft_11_0, ft_11_2, ft_11_3, ft_11_4, ft_11_5, ft_11_13, ft_11_14, ft_11_20, ft_11_21, ft_11_24, ft_11_25, ft_11_28, ft_11_29, ft_11_31, ft_11_32, ft_11_34, ft_11_35, ft_11_38, ft_11_43, ft_11_45, hL, hs_ob h hh, hs_is h hh, f_g1 hh h8, show wr (-1) = -1 from rfl, show wr 10 = 10 from rfl, i10, g]
    rfl
  | some cl, ⟨w, w1, w2, w3⟩ =>
    have pt : ∀ (M : Mem) (i : Nat) (v : Int), i < 6 → ci_X10_put.2.2.2.2 [12, (i : Int), v] M = some (0, ms M 12 i v) := fun M i v hi => by
      have g := f_put (a := 12) (i := (i : Int)) (v := v) (n := 6) (M := M) apC12 arC12 (by decide)
      rw [wr_nat (by omega), if_pos (by omega)] at g
      exact g
    have p0 := fun M v => pt M 0 v (by decide)
    have p1 := fun M v => pt M 1 v (by decide)
    have p2 := fun M v => pt M 2 v (by decide)
    have p3 := fun M v => pt M 3 v (by decide)
    have p4 := fun M v => pt M 4 v (by decide)
    have p5 := fun M v => pt M 5 v (by decide)
    simp only [Int.cast_ofNat_Int] at p0 p1 p2 p3 p4 p5
    obtain ⟨⟨-, -, -, z1, -⟩, -, -, -, z2, -⟩ := hs_x h hh
    have n12 : ∀ (M : Mem) (i : Nat) (v : Int), hv (ms M 12 i v) h = hv M h := fun M i v => hv_ne M h 12 i v (fun e => z2 e.symm)
    have m12 : ∀ (M : Mem) (i : Nat) (v : Int), ms M 12 i v h = M h := fun M i v => ms_ne z1
    have hw : wr (w : Int) = w := wr_nat (by omega)
    have hw1 : ¬ (w : Int) = -1 := by omega
    obtain ⟨M1, hM1⟩ : ∃ M1, ms (ms (ms (ms (ms (ms M 12 0 (hv M h l 0)) 12 1 (hv M h l 1)) 12 2 (hv M h l 2)) 12 3 (hv M h l 4)) 12 4 (M h 2)) 12 5 (many : Int) = M1 := ⟨_, rfl⟩
    have f1 : FrC [12, 13] M M1 := ⟨fun j a b => by
      have : ¬ j = 12 := fun e => a (by simp [e])
      rw [← hM1, ms_ne this, ms_ne this, ms_ne this, ms_ne this, ms_ne this, ms_ne this], fun k a => by
      rw [← hM1, ms_ne (by decide), ms_ne (by decide), ms_ne (by decide), ms_ne (by decide), ms_ne (by decide), ms_ne (by decide)]⟩
    have e12 : ∀ k, k < 6 → M1 12 k = ltrS (hv M h) l (M h 2) many k := fun k hk => by
      have : k = 0 ∨ k = 1 ∨ k = 2 ∨ k = 3 ∨ k = 4 ∨ k = 5 := by omega
      rw [← hM1]
      rcases this with rfl | rfl | rfl | rfl | rfl | rfl <;> simp [ms, ltrS]
    have hlt : ∀ k, k < 6 → -1000000 ≤ M1 12 k ∧ M1 12 k ≤ 1000000 := fun k hk6 => by
      rw [e12 k hk6]
      unfold ltrS
      repeat' split
      all_goals omega
    have hL1 : HoldC M1 (some cl) := HoldC_fr (law := some cl) ⟨w, w1, w2, w3⟩ f1 (by decide) (by decide)
    obtain ⟨w', v1, v2, v3⟩ := hL1
    obtain ⟨M2, g1, g2⟩ := c_worth v1 v2 v3 hlt
    have hr := wt_rng hlt cl v3.1
    have gw := c_within (v := wtS (M1 12) cl) (M := M2) (by omega) (by omega)
    refine ⟨M2, ?_, FrC_trans f1 ⟨fun j a b => g2.1 j (fun e => a (by simp [e])) b, g2.2⟩ (T := [13]) (by simp)⟩
    have e : leS (some cl) (M h 3) (hv M h) l (M h 2) many = max 0 (min 9 (wtS (M1 12) cl)) := by
      unfold leS
      rw [wtS_congr e12 cl v3.1]
    rw [e]
    simp only [fin, dSeq, dSet, dInc, dIf, dIfE, dRet, dReV, dInt, dLoc, dBin, dDiv, dUn, dFld, dAr, dLen, dRo, dCal, dCon, dBo, dCmp, dCm0, dCmpL, dNul, dAnd, dOr, dNot, dA0, dA1, dDo, dPutF, dUpdF, dPutA, dUpdA, Option.bind_some, Option.bind_none, opF, dvF, dvW, mtF, List.getD_cons_zero, List.getD_cons_succ, List.set_cons_zero, List.set_cons_succ, List.length_cons, List.length_nil, List.headD_cons, List.nil_append, List.cons_append, ite_bind, cmpI, cmpL, wr_0, decide_eq_true_eq, reduceIte, true_and, and_true, false_and, and_false, not_true_eq_false, not_false_eq_true, true_or, or_true, false_or, or_false, Int.cast_ofNat_Int, Int.toNat_natCast, Bool.false_eq_true, Nat.reduceLT, Nat.reduceLeDiff, Nat.reduceAdd, Nat.reduceMul, Nat.reduceSub, Nat.reduceEqDiff, Int.reduceLT, Int.reduceLE, Int.reduceEq, Int.reduceNeg, Int.reduceAdd, Int.reduceMul, Int.reduceSub, Int.reduceToNat, Bool.not_true, Bool.not_false, Bool.not_eq_true, Bool.not_eq_eq_eq_not, decide_true, decide_false, ne_eq, reduceCtorEq, ms_eq, id_eq, Option.map_some, Nat.lt_add_one, Nat.zero_lt_succ, obC0, isC0, obC1, isC1, arC2, apC2, obC3, isC3, arC4, apC4, arC5, apC5, arC6, apC6, obC7, isC7, arC8, apC8, obC9, isC9, arC10, apC10, arC11, apC11, arC12, apC12, arC13, apC13, arC14, apC14, obC15, isC15, arC16, apC16, obC17, isC17, arC18, apC18, obC19, isC19, arC20, apC20, obC21, isC21, arC22, apC22, obC23, isC23, arC24, apC24, obC25, isC25, arC26, apC26, arC27, apC27, obC28, isC28, roC29, obC30, isC30, arC31, apC31, obC32, isC32, arC33, apC33, obC34, isC34, arC35, apC35, obC36, isC36, arC37, apC37, obC38, isC38, arC39, apC39, obC40, isC40, arC41, apC41, obC42, isC42, arC43, apC43, arC44, apC44, obC45, isC45, arC46, apC46, arC47, apC47, arC48, apC48, arC49, apC49, arC50, apC50, arC51, apC51, arC52, arC53, arC54, arC55, arC56, arC57, arC58, arC59, arC60, arC61, rc_X10_filled, rc_X10_put, rc_X8_addWord, rc_X10_feed, rc_X10_end, rc_X8_begin, rc_X10_move, rc_X8_sign, rc_X8_step, rc_X10_placeIn, rc_X10_isDigit, rc_X8_failAt, rc_X8_fail, rc_X10_at, rc_X8_number, rc_X6_items, rc_X6_clause, rc_X8_wantOver, rc_X6_item, rc_X6_isWhole, rc_X6_read, rc_X8_want, rc_X3_write, rc_X3_mayNest, rc_X3_atom, rc_X3_sum, rc_X3_term, rc_X3_isRelation, rc_X3_condition, rc_X3_nested, rc_X3_truth, rc_X3_unit, rc_X3_clause, rc_X3_read, rc_X10_fault, rc_X2_set, rc_X2_settle, rc_X7_shorten, rc_X7_build, rc_X1_forget, rc_X0_forget, rc_X10_found, rc_X4_add, rc_X10_text, rc_X10_isTold, rc_X10_master, rc_X10_way, rc_X10_law, rc_X2_has, rc_X2_get, rc_X2_lives, rc_X10_refuse, rc_X0_keep, rc_X2_fear, rc_X10_show, rc_X10_warn, rc_X2_living, rc_J6_bitCount_0f7a4C, rc_X2_manyLive, rc_X10_leave, rc_X2_welcome, rc_X10_come, rc_X10_within, rc_X4_pop, rc_X4_push, rc_X4_result, rc_X4_held, rc_X4_work, rc_X4_worth, rc_X4_lessonOf, rc_X2_grow, rc_X2_mostFeared, rc_X2_pass, rc_X2_artOf, rc_X2_artOfAll, rc_X5_write, rc_X10_passYear, rc_X10_years, rc_X10_bold, rc_X10_stepped, rc_X10_drawn, rc_X10_showByDraws, rc_X10_comeByDraws, rc_X10_winters, rc_X10_status, rc_X0_takeBack, rc_X10_undo, rc_X10_logLength, rc_X5_read, rc_X10_log, rc_X2_copy, rc_X5_copy, rc_X10_image, rc_X10_back, rc_X10_chosen, rc_X2_rankedByFear, rc_X10_order, rc_X10_safe, rc_X9_stepAt, rc_X9_tread, rc_X9_search, rc_X10_path, rc_X10_holds, rc_X2_lotsOfAll, rc_X10_odds, rc_X10_learns, rc_X2_befriending, rc_X2_signs, rc_X2_differsFromAll, rc_X2_tellingSigns, rc_X10_tells, rc_X2_areTwins, rc_X10_twins, rc_X2_stepsBetween, rc_X10_chain, rc_X2_trusted, rc_X10_trusts, rc_X10_friends, rc_X1_addSecret, rc_X10_out, rc_X10_asksForSpies, rc_X1_fits, rc_X1_fits_, rc_X1_manyFitting, rc_X1_fitting, rc_X10_spies, rc_X1_manyFittingWith, rc_X10_clear, rc_X10_best, rc_X1_addGrave, rc_X10_grave, rc_X1_couldDig, rc_X1_diggers, rc_X10_dug, rc_X7_hoursTo, rc_X10_flight, rc_X10_reach, rc_X2_fewestWith, rc_X10_dare, rc_X2_turningOrders, rc_X10_shares, rc_X10_canPlay, rc_X10_played, rc_X10_game, rc_X10_isRest, rc_X10_rests, rc_X2_mostOf, rc_X10_ablest, rc_X10_oldest, rc_X10_hides, rc_X2_warned, rc_X10_count, fv_0_0, fv_0_1, fv_0_2, fv_0_3, fv_1_0, fv_1_1, fv_1_2, fv_1_3, fv_1_4, fv_1_5, fv_1_6, fv_2_0, fv_2_1, fv_2_2, fv_2_3, fv_2_4, fv_3_0, fv_3_1, fv_4_0, fv_4_1, fv_4_2, fv_4_3, fv_4_4, fv_4_5, fv_4_6, fv_5_0, fv_6_0, fv_6_1, fv_6_2, fv_6_3, fv_6_4, fv_6_5, fv_7_0, fv_7_1, fv_7_2, fv_8_0, fv_8_1, fv_8_2, fv_8_3, fv_9_0, fv_9_1, fv_9_2, fv_10_0, fv_10_1, fv_10_2, fv_10_3, fv_10_4, fv_10_5, fv_10_6, fv_10_7, fv_10_8, fv_10_9, fv_10_10, fv_10_11, fv_10_12, fv_10_13, fv_10_14, fv_10_15, fv_10_16, fv_11_0, fv_11_1, fv_11_2, fv_11_3, fv_11_4, fv_11_5, fv_11_6, fv_11_7, fv_11_8, fv_11_9, fv_11_10, fv_11_11, fv_11_12, fv_11_13, fv_11_14, fv_11_15, fv_11_16, fv_11_17, fv_11_18, fv_11_19, fv_11_20, fv_11_21, fv_11_22, fv_11_23, fv_11_24, fv_11_25, fv_11_26, fv_11_27, fv_11_28, fv_11_29, fv_11_30, fv_11_31, fv_11_32, fv_11_33, fv_11_34, fv_11_35, fv_11_36, fv_11_37, fv_11_38, fv_11_39, fv_11_40, fv_11_41, fv_11_42, fv_11_43, fv_11_44, fv_11_45, ft_0_2, ft_0_3, ft_1_5, ft_1_6, ft_2_1, ft_2_2, ft_2_3, ft_2_4, ft_3_1, ft_4_4, ft_4_5, ft_4_6, ft_6_3, ft_6_4, ft_6_5, ft_7_2, ft_8_1, ft_8_2, ft_8_3, ft_9_1, ft_9_2, ft_10_15, ft_10_16, ft_11_0, ft_11_2, ft_11_3, ft_11_4, ft_11_5, ft_11_13, ft_11_14, ft_11_20, ft_11_21, ft_11_24, ft_11_25, ft_11_28, ft_11_29, ft_11_31, ft_11_32, ft_11_34, ft_11_35, ft_11_38, ft_11_43, ft_11_45, w2, hw, hw1, hs_ob h hh, hs_is h hh, f_g0 hh h8, f_g1 hh h8, f_g2 hh h8, f_g4 hh h8, show wr (-1) = -1 from rfl, p0, p1, p2, p3, p4, p5, n12, m12, hM1, g1, gw]
