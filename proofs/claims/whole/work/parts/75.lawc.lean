/-! PART 75: the class reads laws: steps. -/
theorem bnR_assoc (r : Rd) (f g : Nat → Rd) : bnR (bnR r f) g = bnR r (fun p => bnR (f p) g) := by
  unfold bnR
  by_cases e : r.1 = true
  · simp only [if_pos e]
    by_cases e2 : (f r.2.1).1 = true
    · simp only [if_pos e2, List.append_assoc]
    · simp only [if_neg e2]
  · simp only [if_neg e]
theorem bnR_congr {r : Rd} {f g : Nat → Rd} (h : r.1 = true → f r.2.1 = g r.2.1) : bnR r f = bnR r g := by
  unfold bnR
  by_cases e : r.1 = true
  · rw [if_pos e, if_pos e, h e]
  · rw [if_neg e, if_neg e]
theorem bnR_dead {r : Rd} (h : r.1 = false) (f : Nat → Rd) : bnR r f = r := by unfold bnR; rw [h]; rfl
def TaC (T : List Int) (M : Mem) (p : Nat) (b : Int) : Prop := TpC M T ∧ M 1 2 = (p : Int) ∧ p ≤ T.length ∧ M 1 3 = b ∧ -1 ≤ b ∧ b ≤ 240
theorem TaC_tpM {T : List Int} {M : Mem} {q c : Int} {p : Nat} {b : Int} (h : TpC M T) (hp : p ≤ T.length) (b0 : -1 ≤ b) (b1 : b ≤ 240) : TaC T (tpM M p b) p b := ⟨TpC_M h _ _, tpM_2 _ _ _, hp, tpM_3 _ _ _, b0, b1⟩
theorem TaC_M {T : List Int} {M : Mem} {p : Nat} {b : Int} (h : TaC T M p b) : M = tpM M p b := by
  have := tpM_id M
  rw [h.2.1, h.2.2.2.1] at this
  exact this.symm
theorem Fr_tpM (M : Mem) (p b : Int) : FrC [1] M (tpM M p b) := ⟨fun j a _ => tpM_ne M p b (by simpa using a), fun k _ => by rw [tpM_ne M p b (by decide)]⟩
def CodeC (M : Mem) (o : List Int) : Prop := M 7 1 = (o.length : Int) ∧ ∀ i, i < o.length → M 8 i = o.getD i 0
/-- how the reading stands: s signs more read than codes put -/
def InS (T : List Int) (s : Nat) (r : Rd) (M : Mem) : Prop := (r.1 = true → (∃ p, TaC T M p (-1) ∧ r.2.2.length + s ≤ p ∧ skS T p = skS T r.2.1) ∧ CodeC M r.2.2) ∧ (r.1 = false → ∃ p, TaC T M p (r.2.1 : Int))
/-- and just behind a look -/
def InX (T : List Int) (s : Nat) (r : Rd) (M : Mem) : Prop := (r.1 = true → TaC T M (skS T r.2.1) (-1) ∧ r.2.2.length + s ≤ skS T r.2.1 ∧ CodeC M r.2.2) ∧ (r.1 = false → ∃ p, TaC T M p (r.2.1 : Int))
def sgX (T : List Int) (r : Rd) : Int := if r.1 = true then sgT T r.2.1 else -1
theorem InX_S {T : List Int} {s : Nat} {r : Rd} {M : Mem} (h : InX T s r M) : InS T s r M := ⟨fun e => by
  obtain ⟨h1, h2, h3⟩ := h.1 e
  exact ⟨⟨_, h1, h2, skS_idem _ _⟩, h3⟩, h.2⟩
theorem InS_less {T : List Int} {s t : Nat} {r : Rd} {M : Mem} (h : InS T s r M) (ht : t ≤ s) : InS T t r M := ⟨fun e => by
  obtain ⟨⟨p, h1, h2, h3⟩, h4⟩ := h.1 e
  exact ⟨⟨p, h1, by omega, h3⟩, h4⟩, h.2⟩
theorem CodeC_fr {M M' : Mem} {o : List Int} {S : List Nat} (h : CodeC M o) (f : FrC S M M') (s1 : ¬ 7 ∈ S) (s2 : ¬ 8 ∈ S) : CodeC M' o := by
  unfold CodeC
  rw [f.1 7 s1 (by decide), f.1 8 s2 (by decide)]
  exact h
theorem TaC_len {T : List Int} {M : Mem} {p : Nat} {b : Int} (h : TaC T M p b) : T.length ≤ 240 := h.1.2.1
theorem InS_len {T : List Int} {s : Nat} {r : Rd} {M : Mem} (h : InS T s r M) : T.length ≤ 240 := by
  cases e : r.1 with
  | true => obtain ⟨⟨p, h1, -⟩, -⟩ := h.1 e; exact TaC_len h1
  | false => obtain ⟨p, h1⟩ := h.2 e; exact TaC_len h1
theorem InS_TpC {T : List Int} {s : Nat} {r : Rd} {M : Mem} (h : InS T s r M) : TpC M T := by
  cases e : r.1 with
  | true => obtain ⟨⟨p, h1, -⟩, -⟩ := h.1 e; exact h1.1
  | false => obtain ⟨p, h1⟩ := h.2 e; exact h1.1
theorem l_sign {T : List Int} {s : Nat} {r : Rd} {M : Mem} (h : InS T s r M) : ∃ M', ci_X8_sign.2.2.2.2 [1] M = some (sgX T r, M') ∧ FrC [1] M M' ∧ InX T s r M' := by
  unfold sgX
  cases e : r.1 with
  | true =>
    obtain ⟨⟨p, h1, h2, h3⟩, h4⟩ := h.1 e
    have g := c_sign h1.1 h1.2.2.1 (b := -1) (by decide) (by decide)
    rw [← TaC_M h1, if_pos rfl] at g
    have hs := skS_le h1.2.2.1
    refine ⟨_, by rw [g]; unfold sgT; rw [h3]; rfl, Fr_tpM _ _ _, ⟨fun _ => ⟨?_, by omega, CodeC_fr h4 (Fr_tpM _ _ _) (by decide) (by decide)⟩, fun z => by rw [e] at z; cases z⟩⟩
    exact TaC_tpM (q := 0) (c := 0) h1.1 (by omega) (by decide) (by decide)
  | false =>
    obtain ⟨p, h1⟩ := h.2 e
    have g := c_sign h1.1 h1.2.2.1 h1.2.2.2.2.1 h1.2.2.2.2.2
    rw [← TaC_M h1, if_neg (by omega)] at g
    have hs := skS_le h1.2.2.1
    exact ⟨_, g, Fr_tpM _ _ _, ⟨(fun z => by rw [e] at z; cases z), fun _ => ⟨_, TaC_tpM (q := 0) (c := 0) h1.1 (by omega) h1.2.2.2.2.1 h1.2.2.2.2.2⟩⟩⟩
theorem l_step {T : List Int} {s : Nat} {r : Rd} {M : Mem} (h : InX T s r M) (e : r.1 = true) (hc : ¬ sgT T r.2.1 = -1) : ∃ M', ci_X8_step.2.2.2.2 [1] M = some (0, M') ∧ FrC [1] M M' ∧ InS T (s + 1) (bnR r (fun p => okR1 (skS T p + 1) [])) M' := by
  obtain ⟨h1, h2, h3⟩ := h.1 e
  have g := c_step (M := M) (p := skS T r.2.1) (b := -1)
  rw [← TaC_M h1] at g
  have hl := sg_lt hc
  refine ⟨_, g, Fr_tpM _ _ _, ?_⟩
  unfold bnR
  rw [if_pos e]
  refine ⟨fun _ => ⟨⟨skS T r.2.1 + 1, TaC_tpM (q := 0) (c := 0) h1.1 hl (by decide) (by decide), ?_, rfl⟩, ?_⟩, fun z => by cases z⟩
  · show (r.2.2 ++ []).length + (s + 1) ≤ skS T r.2.1 + 1
    rw [List.append_nil]
    omega
  · show CodeC _ (r.2.2 ++ [])
    rw [List.append_nil]
    exact CodeC_fr h3 (Fr_tpM _ _ _) (by decide) (by decide)
theorem l_fail {T : List Int} {s : Nat} {r : Rd} {M : Mem} (h : InX T s r M) : ∃ M', ci_X8_fail.2.2.2.2 [1] M = some (0, M') ∧ FrC [1] M M' ∧ InS T s (bnR r (fun p => ftR (skS T p))) M' := by
  cases e : r.1 with
  | true =>
    obtain ⟨h1, h2, h3⟩ := h.1 e
    have g := c_fail (M := M) (p := (skS T r.2.1 : Nat)) (b := -1) (by decide) (by decide)
    rw [← TaC_M h1, if_pos rfl] at g
    have hlen := TaC_len h1
    have hs := h1.2.2.1
    refine ⟨_, g, Fr_tpM _ _ _, ?_⟩
    unfold bnR
    rw [if_pos e]
    exact ⟨(fun z => by cases z), fun _ => ⟨_, TaC_tpM (q := 0) (c := 0) h1.1 hs (by omega) (by omega)⟩⟩
  | false =>
    obtain ⟨p, h1⟩ := h.2 e
    have g := c_fail (M := M) (p := (p : Int)) (b := (r.2.1 : Int)) (by omega) h1.2.2.2.2.2
    rw [← TaC_M h1, if_neg (by omega), ← TaC_M h1] at g
    refine ⟨_, g, FrC_refl _ _, ?_⟩
    rw [bnR_dead e]
    exact ⟨(fun z => by rw [e] at z; cases z), fun _ => ⟨p, h1⟩⟩
theorem l_want {T : List Int} {s : Nat} {r : Rd} {M : Mem} (h : InS T s r M) {d : Int} (d0 : 0 ≤ d) (d1 : d ≤ 255) : ∃ M', ci_X8_want.2.2.2.2 [1, d] M = some (0, M') ∧ FrC [1] M M' ∧ InS T s (bnR r (sgR T d)) M' := by
  cases e : r.1 with
  | true =>
    obtain ⟨⟨p, h1, h2, h3⟩, h4⟩ := h.1 e
    have g := c_want h1.1 h1.2.2.1 (b := -1) (by decide) (by decide) d0 d1
    rw [← TaC_M h1, if_pos rfl] at g
    have hs := skS_le h1.2.2.1
    have hlen := TaC_len h1
    have esg : sgT T p = sgT T r.2.1 := by unfold sgT; rw [h3]
    rw [esg, h3] at g
    unfold bnR
    rw [if_pos e]
    unfold sgR
    by_cases hc : sgT T r.2.1 = d
    · rw [if_pos hc] at g ⊢
      have hl := sg_lt (T := T) (p := r.2.1) (by omega)
      refine ⟨_, g, Fr_tpM _ _ _, ⟨fun _ => ⟨⟨skS T r.2.1 + 1, TaC_tpM (q := 0) (c := 0) h1.1 hl (by decide) (by decide), ?_, rfl⟩, ?_⟩, fun z => by cases z⟩⟩
      · show (r.2.2 ++ []).length + s ≤ skS T r.2.1 + 1
        rw [List.append_nil]
        omega
      · show CodeC _ (r.2.2 ++ [])
        rw [List.append_nil]
        exact CodeC_fr h4 (Fr_tpM _ _ _) (by decide) (by decide)
    · rw [if_neg hc] at g ⊢
      exact ⟨_, g, Fr_tpM _ _ _, ⟨(fun z => by cases z), fun _ => ⟨_, TaC_tpM (q := 0) (c := 0) h1.1 (by omega) (by omega) (by omega)⟩⟩⟩
  | false =>
    obtain ⟨p, h1⟩ := h.2 e
    have g := c_want h1.1 h1.2.2.1 h1.2.2.2.2.1 h1.2.2.2.2.2 d0 d1
    rw [← TaC_M h1, if_neg (by omega)] at g
    have hs := skS_le h1.2.2.1
    rw [bnR_dead e]
    exact ⟨_, g, Fr_tpM _ _ _, ⟨(fun z => by rw [e] at z; cases z), fun _ => ⟨_, TaC_tpM (q := 0) (c := 0) h1.1 (by omega) h1.2.2.2.2.1 h1.2.2.2.2.2⟩⟩⟩
theorem l_write {T : List Int} {s : Nat} {r : Rd} {M : Mem} (h : InS T (s + 1) r M) (c : Int) : ∃ M', ci_X3_write.2.2.2.2 [7, c] M = some (0, M') ∧ FrC [7, 8] M M' ∧ InS T s (bnR r (fun q => okR1 q [c])) M' := by
  rw [u_X3_write]
  have pw := f_put (a := 8) (i := M 7 1) (v := c) (n := 240) (M := M) apC8 arC8 (by decide)
  obtain ⟨M1, hM1⟩ : ∃ M1, (if 0 ≤ wr (M 7 1) ∧ wr (M 7 1) < 240 then ms M (Int.toNat 8) (wr (M 7 1)).toNat c else M) = M1 := ⟨_, rfl⟩
  have hM1' : (if 0 ≤ wr (M 7 1) ∧ wr (M 7 1) < (240 : Nat) then ms M (Int.toNat 8) (wr (M 7 1)).toNat c else M) = M1 := hM1
  rw [hM1'] at pw
  have f1 : FrC [8] M M1 := by
    rw [← hM1]
    split
    · exact FrC_ms (by simp) (by decide)
    · exact FrC_refl _ _
  have e7 : M1 7 = M 7 := f1.1 7 (by decide) (by decide)
  have f2 : FrC [7, 8] M (ms M1 7 1 (M1 7 1 + 1)) := FrC_trans (FrC_sub f1 (by simp)) (FrC_ms (S := [7]) (by simp) (by decide)) (by simp)
  have t1 : ∀ p b, TaC T M p b → TaC T (ms M1 7 1 (M1 7 1 + 1)) p b := fun p b ht => by
    have e1 := f2.1 1 (by decide) (by decide)
    have e2 := f2.1 2 (by decide) (by decide)
    unfold TaC TpC at *
    rw [e1, e2]
    exact ht
  refine ⟨ms M1 7 1 (M1 7 1 + 1), ?_, f2, ?_⟩
  · simp only [fin, dSeq, dSet, dInc, dIf, dIfE, dRet, dReV, dInt, dLoc, dBin, dDiv, dUn, dFld, dAr, dLen, dRo, dCal, dCon, dBo, dCmp, dCm0, dCmpL, dNul, dAnd, dOr, dNot, dA0, dA1, dDo, dPutF, dUpdF, dPutA, dUpdA, Option.bind_some, Option.bind_none, opF, dvF, dvW, mtF, List.getD_cons_zero, List.getD_cons_succ, List.set_cons_zero, List.set_cons_succ, List.length_cons, List.length_nil, List.headD_cons, List.nil_append, List.cons_append, ite_bind, cmpI, cmpL, wr_0, decide_eq_true_eq, reduceIte, true_and, and_true, false_and, and_false, not_true_eq_false, not_false_eq_true, true_or, or_true, false_or, or_false, Int.cast_ofNat_Int, Int.toNat_natCast, Bool.false_eq_true, Nat.reduceLT, Nat.reduceLeDiff, Nat.reduceAdd, Nat.reduceMul, Nat.reduceSub, Nat.reduceEqDiff, Int.reduceLT, Int.reduceLE, Int.reduceEq, Int.reduceNeg, Int.reduceAdd, Int.reduceMul, Int.reduceSub, Int.reduceToNat, Bool.not_true, Bool.not_false, Bool.not_eq_true, Bool.not_eq_eq_eq_not, decide_true, decide_false, ne_eq, reduceCtorEq, ms_eq, id_eq, Option.map_some, Nat.lt_add_one, Nat.zero_lt_succ, obC0, isC0, obC1, isC1, arC2, apC2, obC3, isC3, arC4, apC4, arC5, apC5, arC6, apC6, obC7, isC7, arC8, apC8, obC9, isC9, arC10, apC10, arC11, apC11, arC12, apC12, arC13, apC13, arC14, apC14, obC15, isC15, arC16, apC16, obC17, isC17, arC18, apC18, obC19, isC19, arC20, apC20, obC21, isC21, arC22, apC22, obC23, isC23, arC24, apC24, obC25, isC25, arC26, apC26, arC27, apC27, obC28, isC28, roC29, obC30, isC30, arC31, apC31, obC32, isC32, arC33, apC33, obC34, isC34, arC35, apC35, obC36, isC36, arC37, apC37, obC38, isC38, arC39, apC39, obC40, isC40, arC41, apC41, obC42, isC42, arC43, apC43, arC44, apC44, obC45, isC45, arC46, apC46, arC47, apC47, arC48, apC48, arC49, apC49, arC50, apC50, arC51, apC51, arC52, arC53, arC54, arC55, arC56, arC57, arC58, arC59, arC60, arC61, rc_X10_filled, rc_X10_put, rc_X8_addWord, rc_X10_feed, rc_X10_end, rc_X8_begin, rc_X10_move, rc_X8_sign, rc_X8_step, rc_X10_placeIn, rc_X10_isDigit, rc_X8_failAt, rc_X8_fail, rc_X10_at, rc_X8_number, rc_X6_items, rc_X6_clause, rc_X8_wantOver, rc_X6_item, rc_X6_isWhole, rc_X6_read, rc_X8_want, rc_X3_write, rc_X3_mayNest, rc_X3_atom, rc_X3_sum, rc_X3_term, rc_X3_isRelation, rc_X3_condition, rc_X3_nested, rc_X3_truth, rc_X3_unit, rc_X3_clause, rc_X3_read, rc_X10_fault, rc_X2_set, rc_X2_settle, rc_X7_shorten, rc_X7_build, rc_X1_forget, rc_X0_forget, rc_X10_found, rc_X4_add, rc_X10_text, rc_X10_isTold, rc_X10_master, rc_X10_way, rc_X10_law, rc_X2_has, rc_X2_get, rc_X2_lives, rc_X10_refuse, rc_X0_keep, rc_X2_fear, rc_X10_show, rc_X10_warn, rc_X2_living, rc_J6_bitCount_0f7a4C, rc_X2_manyLive, rc_X10_leave, rc_X2_welcome, rc_X10_come, rc_X10_within, rc_X4_pop, rc_X4_push, rc_X4_result, rc_X4_held, rc_X4_work, rc_X4_worth, rc_X4_lessonOf, rc_X2_grow, rc_X2_mostFeared, rc_X2_pass, rc_X2_artOf, rc_X2_artOfAll, rc_X5_write, rc_X10_passYear, rc_X10_years, rc_X10_bold, rc_X10_stepped, rc_X10_drawn, rc_X10_showByDraws, rc_X10_comeByDraws, rc_X10_winters, rc_X10_status, rc_X0_takeBack, rc_X10_undo, rc_X10_logLength, rc_X5_read, rc_X10_log, rc_X2_copy, rc_X5_copy, rc_X10_image, rc_X10_back, rc_X10_chosen, rc_X2_rankedByFear, rc_X10_order, rc_X10_safe, rc_X9_stepAt, rc_X9_tread, rc_X9_search, rc_X10_path, rc_X10_holds, rc_X2_lotsOfAll, rc_X10_odds, rc_X10_learns, rc_X2_befriending, rc_X2_signs, rc_X2_differsFromAll, rc_X2_tellingSigns, rc_X10_tells, rc_X2_areTwins, rc_X10_twins, rc_X2_stepsBetween, rc_X10_chain, rc_X2_trusted, rc_X10_trusts, rc_X10_friends, rc_X1_addSecret, rc_X10_out, rc_X10_asksForSpies, rc_X1_fits, rc_X1_fits_, rc_X1_manyFitting, rc_X1_fitting, rc_X10_spies, rc_X1_manyFittingWith, rc_X10_clear, rc_X10_best, rc_X1_addGrave, rc_X10_grave, rc_X1_couldDig, rc_X1_diggers, rc_X10_dug, rc_X7_hoursTo, rc_X10_flight, rc_X10_reach, rc_X2_fewestWith, rc_X10_dare, rc_X2_turningOrders, rc_X10_shares, rc_X10_canPlay, rc_X10_played, rc_X10_game, rc_X10_isRest, rc_X10_rests, rc_X2_mostOf, rc_X10_ablest, rc_X10_oldest, rc_X10_hides, rc_X2_warned, rc_X10_count, fv_0_0, fv_0_1, fv_0_2, fv_0_3, fv_1_0, fv_1_1, fv_1_2, fv_1_3, fv_1_4, fv_1_5, fv_1_6, fv_2_0, fv_2_1, fv_2_2, fv_2_3, fv_2_4, fv_3_0, fv_3_1, fv_4_0, fv_4_1, fv_4_2, fv_4_3, fv_4_4, fv_4_5, fv_4_6, fv_5_0, fv_6_0, fv_6_1, fv_6_2, fv_6_3, fv_6_4, fv_6_5, fv_7_0, fv_7_1, fv_7_2, fv_8_0, fv_8_1, fv_8_2, fv_8_3, fv_9_0, fv_9_1, fv_9_2, fv_10_0, fv_10_1, fv_10_2, fv_10_3, fv_10_4, fv_10_5, fv_10_6, fv_10_7, fv_10_8, fv_10_9, fv_10_10, fv_10_11, fv_10_12, fv_10_13, fv_10_14, fv_10_15, fv_10_16, fv_11_0, fv_11_1, fv_11_2, fv_11_3, fv_11_4, fv_11_5, fv_11_6, fv_11_7, fv_11_8, fv_11_9, fv_11_10, fv_11_11, fv_11_12, fv_11_13, fv_11_14, fv_11_15, fv_11_16, fv_11_17, fv_11_18, fv_11_19, fv_11_20, fv_11_21, fv_11_22, fv_11_23, fv_11_24, fv_11_25, fv_11_26, fv_11_27, fv_11_28, fv_11_29, fv_11_30, fv_11_31, fv_11_32, fv_11_33, fv_11_34, fv_11_35, fv_11_36, fv_11_37, fv_11_38, fv_11_39, fv_11_40, fv_11_41, fv_11_42, fv_11_43, fv_11_44, fv_11_45, ft_0_2, ft_0_3, ft_1_5, ft_1_6, ft_2_1, ft_2_2, ft_2_3, ft_2_4, ft_3_1, ft_4_4, ft_4_5, ft_4_6, ft_6_3, ft_6_4, ft_6_5, ft_7_2, ft_8_1, ft_8_2, ft_8_3, ft_9_1, ft_9_2, ft_10_15, ft_10_16, ft_11_0, ft_11_2, ft_11_3, ft_11_4, ft_11_5, ft_11_13, ft_11_14, ft_11_20, ft_11_21, ft_11_24, ft_11_25, ft_11_28, ft_11_29, ft_11_31, ft_11_32, ft_11_34, ft_11_35, ft_11_38, ft_11_43, ft_11_45, pw]
  · cases e : r.1 with
    | true =>
      obtain ⟨⟨p, h1, h2, h3⟩, h4⟩ := h.1 e
      unfold bnR
      rw [if_pos e]
      have hlen := TaC_len h1
      have hpl := h1.2.2.1
      refine ⟨fun _ => ⟨⟨p, t1 p _ h1, (by show (r.2.2 ++ [c]).length + s ≤ p; simp only [List.length_append, List.length_cons, List.length_nil]; omega), h3⟩, ⟨?_, fun i hi => ?_⟩⟩, fun z => by cases z⟩
      · rw [e7, h4.1]
        show ms M1 7 1 ((r.2.2.length : Int) + 1) 7 1 = (((r.2.2 ++ [c]).length : Nat) : Int)
        simp [ms]
      · rw [ms_ne (by decide), ← hM1, h4.1, wr_nat (by omega), if_pos (by omega)]
        have hi : i < (r.2.2 ++ [c]).length := hi
        show ms M 8 r.2.2.length c 8 i = (r.2.2 ++ [c]).getD i 0
        by_cases q : i < r.2.2.length
        · have := h4.2 i q
          rw [List.getD_eq_getElem?_getD, List.getElem?_append_left q, ← List.getD_eq_getElem?_getD, ← this]
          simp [ms, show ¬ i = r.2.2.length by omega]
        · simp only [List.length_append, List.length_cons, List.length_nil] at hi
          have : i = r.2.2.length := by omega
          subst this
          simp [ms]
    | false =>
      obtain ⟨p, h1⟩ := h.2 e
      rw [bnR_dead e]
      exact ⟨(fun z => by rw [e] at z; cases z), fun _ => ⟨p, t1 p _ h1⟩⟩
def nuR (T : List Int) (p : Nat) : Rd := if (nuS T 4 0 (skS T p)).1 = true then okR1 (nuS T 4 0 (skS T p)).2.1 [] else ftR (nuS T 4 0 (skS T p)).2.1
theorem l_number {T : List Int} {s : Nat} {r : Rd} {M : Mem} (h : InX T s r M) (e : r.1 = true) (hd : dgB (sgT T r.2.1) = true) : ∃ M', ci_X8_number.2.2.2.2 [1, 4] M = some ((nuS T 4 0 (skS T r.2.1)).2.2, M') ∧ FrC [1] M M' ∧ InS T (s + 1) (bnR r (nuR T)) M' := by
  obtain ⟨h1, h2, h3⟩ := h.1 e
  have g := c_number h1.1 h1.2.2.1 (b := -1) (by decide) (by decide) (d := 4) (by decide)
  have esg : sgT T (skS T r.2.1) = sgT T r.2.1 := by unfold sgT; rw [skS_idem]
  rw [← TaC_M h1, if_pos rfl, if_pos rfl, esg, if_pos hd, if_pos hd, skS_idem] at g
  have g : ci_X8_number.2.2.2.2 [1, 4] M = _ := g
  have hn := nuS_le (T := T) 4 0 (skS T r.2.1) h1.2.2.1
  have hl := sg_lt (T := T) (p := r.2.1) (fun z => by rw [z] at hd; cases hd)
  have hp := nuS_pos (T := T) (d := 4) (v := 0) (p := skS T r.2.1) hd (by decide) hl
  have hlen := TaC_len h1
  unfold bnR
  rw [if_pos e]
  unfold nuR
  by_cases c : (nuS T 4 0 (skS T r.2.1)).1 = true
  · rw [if_pos c] at g ⊢
    refine ⟨_, g, Fr_tpM _ _ _, ⟨fun _ => ⟨⟨_, TaC_tpM (q := 0) (c := 0) h1.1 hn.2 (by decide) (by decide), ?_, rfl⟩, ?_⟩, fun z => by cases z⟩⟩
    · show (r.2.2 ++ []).length + (s + 1) ≤ (nuS T 4 0 (skS T r.2.1)).2.1
      rw [List.append_nil]
      omega
    · show CodeC _ (r.2.2 ++ [])
      rw [List.append_nil]
      exact CodeC_fr h3 (Fr_tpM _ _ _) (by decide) (by decide)
  · rw [if_neg c] at g ⊢
    exact ⟨_, g, Fr_tpM _ _ _, ⟨(fun z => by cases z), fun _ => ⟨_, TaC_tpM (q := 0) (c := 0) h1.1 hn.2 (by omega) (by omega)⟩⟩⟩
/-- what reads like this -/
def ActR (T : List Int) (F : Mem → Option (Int × Mem)) (sp : Nat → Rd) : Prop := ∀ s r M, InS T s r M → ∃ v M', F M = some (v, M') ∧ FrC [1, 7, 8] M M' ∧ InS T s (bnR r sp) M'
theorem sgX_rng {T : List Int} {s : Nat} {r : Rd} {M : Mem} (h : InS T s r M) : -1 ≤ sgX T r ∧ sgX T r ≤ 255 := by
  unfold sgX
  split
  · exact sgT_rng (InS_TpC h) _
  · omega
theorem InX_end {T : List Int} {s : Nat} {r : Rd} {M : Mem} (h : InX T s r M) : InS T s (bnR r (fun p => okR1 (skS T p) [])) M := by
  cases e : r.1 with
  | true =>
    obtain ⟨h1, h2, h3⟩ := h.1 e
    unfold bnR
    rw [if_pos e]
    refine ⟨fun _ => ⟨⟨_, h1, ?_, rfl⟩, ?_⟩, fun z => by cases z⟩
    · show (r.2.2 ++ []).length + s ≤ _
      rw [List.append_nil]
      exact h2
    · show CodeC _ (r.2.2 ++ [])
      rw [List.append_nil]
      exact h3
  | false =>
    rw [bnR_dead e]
    exact InX_S h
theorem InS_end {T : List Int} {s : Nat} {r : Rd} {M : Mem} (h : InS T s r M) : InS T s (bnR r (fun p => okR1 (skS T p) [])) M := by
  cases e : r.1 with
  | true =>
    obtain ⟨⟨p, h1, h2, h3⟩, h4⟩ := h.1 e
    unfold bnR
    rw [if_pos e]
    refine ⟨fun _ => ⟨⟨p, h1, ?_, ?_⟩, ?_⟩, fun z => by cases z⟩
    · show (r.2.2 ++ []).length + s ≤ _
      rw [List.append_nil]
      exact h2
    · show skS T p = skS T (skS T r.2.1)
      rw [skS_idem]
      exact h3
    · show CodeC _ (r.2.2 ++ [])
      rw [List.append_nil]
      exact h4
  | false =>
    rw [bnR_dead e]
    exact h
theorem l_may {T : List Int} {s : Nat} {r : Rd} {M : Mem} (h : InX T s r M) (e : r.1 = true) (hc : ¬ sgT T r.2.1 = -1) (d : Nat) (hd : d < 1000) : ∃ M', ci_X3_mayNest.2.2.2.2 [1, (d : Int)] M = some (if 6 ≤ d then 0 else 1, M') ∧ FrC [1] M M' ∧ (6 ≤ d → InS T s (bnR r (fun p => ftR (skS T p))) M') ∧ (¬ 6 ≤ d → InS T (s + 1) (bnR r (fun p => okR1 (skS T p + 1) [])) M') := by
  rw [u_X3_mayNest]
  have wd : wr (d : Int) = d := wr_nat (by omega)
  by_cases h6 : 6 ≤ d
  · obtain ⟨M', g1, g2, g3⟩ := l_fail h
    have k : (6 : Int) ≤ (d : Int) := by omega
    refine ⟨M', ?_, g2, fun _ => g3, fun z => absurd h6 z⟩
    simp only [fin, dSeq, dSet, dInc, dIf, dIfE, dRet, dReV, dInt, dLoc, dBin, dDiv, dUn, dFld, dAr, dLen, dRo, dCal, dCon, dBo, dCmp, dCm0, dCmpL, dNul, dAnd, dOr, dNot, dA0, dA1, dDo, dPutF, dUpdF, dPutA, dUpdA, Option.bind_some, Option.bind_none, opF, dvF, dvW, mtF, List.getD_cons_zero, List.getD_cons_succ, List.set_cons_zero, List.set_cons_succ, List.length_cons, List.length_nil, List.headD_cons, List.nil_append, List.cons_append, ite_bind, cmpI, cmpL, wr_0, decide_eq_true_eq, reduceIte, true_and, and_true, false_and, and_false, not_true_eq_false, not_false_eq_true, true_or, or_true, false_or, or_false, Int.cast_ofNat_Int, Int.toNat_natCast, Bool.false_eq_true, Nat.reduceLT, Nat.reduceLeDiff, Nat.reduceAdd, Nat.reduceMul, Nat.reduceSub, Nat.reduceEqDiff, Int.reduceLT, Int.reduceLE, Int.reduceEq, Int.reduceNeg, Int.reduceAdd, Int.reduceMul, Int.reduceSub, Int.reduceToNat, Bool.not_true, Bool.not_false, Bool.not_eq_true, Bool.not_eq_eq_eq_not, decide_true, decide_false, ne_eq, reduceCtorEq, ms_eq, id_eq, Option.map_some, Nat.lt_add_one, Nat.zero_lt_succ, obC0, isC0, obC1, isC1, arC2, apC2, obC3, isC3, arC4, apC4, arC5, apC5, arC6, apC6, obC7, isC7, arC8, apC8, obC9, isC9, arC10, apC10, arC11, apC11, arC12, apC12, arC13, apC13, arC14, apC14, obC15, isC15, arC16, apC16, obC17, isC17, arC18, apC18, obC19, isC19, arC20, apC20, obC21, isC21, arC22, apC22, obC23, isC23, arC24, apC24, obC25, isC25, arC26, apC26, arC27, apC27, obC28, isC28, roC29, obC30, isC30, arC31, apC31, obC32, isC32, arC33, apC33, obC34, isC34, arC35, apC35, obC36, isC36, arC37, apC37, obC38, isC38, arC39, apC39, obC40, isC40, arC41, apC41, obC42, isC42, arC43, apC43, arC44, apC44, obC45, isC45, arC46, apC46, arC47, apC47, arC48, apC48, arC49, apC49, arC50, apC50, arC51, apC51, arC52, arC53, arC54, arC55, arC56, arC57, arC58, arC59, arC60, arC61, rc_X10_filled, rc_X10_put, rc_X8_addWord, rc_X10_feed, rc_X10_end, rc_X8_begin, rc_X10_move, rc_X8_sign, rc_X8_step, rc_X10_placeIn, rc_X10_isDigit, rc_X8_failAt, rc_X8_fail, rc_X10_at, rc_X8_number, rc_X6_items, rc_X6_clause, rc_X8_wantOver, rc_X6_item, rc_X6_isWhole, rc_X6_read, rc_X8_want, rc_X3_write, rc_X3_mayNest, rc_X3_atom, rc_X3_sum, rc_X3_term, rc_X3_isRelation, rc_X3_condition, rc_X3_nested, rc_X3_truth, rc_X3_unit, rc_X3_clause, rc_X3_read, rc_X10_fault, rc_X2_set, rc_X2_settle, rc_X7_shorten, rc_X7_build, rc_X1_forget, rc_X0_forget, rc_X10_found, rc_X4_add, rc_X10_text, rc_X10_isTold, rc_X10_master, rc_X10_way, rc_X10_law, rc_X2_has, rc_X2_get, rc_X2_lives, rc_X10_refuse, rc_X0_keep, rc_X2_fear, rc_X10_show, rc_X10_warn, rc_X2_living, rc_J6_bitCount_0f7a4C, rc_X2_manyLive, rc_X10_leave, rc_X2_welcome, rc_X10_come, rc_X10_within, rc_X4_pop, rc_X4_push, rc_X4_result, rc_X4_held, rc_X4_work, rc_X4_worth, rc_X4_lessonOf, rc_X2_grow, rc_X2_mostFeared, rc_X2_pass, rc_X2_artOf, rc_X2_artOfAll, rc_X5_write, rc_X10_passYear, rc_X10_years, rc_X10_bold, rc_X10_stepped, rc_X10_drawn, rc_X10_showByDraws, rc_X10_comeByDraws, rc_X10_winters, rc_X10_status, rc_X0_takeBack, rc_X10_undo, rc_X10_logLength, rc_X5_read, rc_X10_log, rc_X2_copy, rc_X5_copy, rc_X10_image, rc_X10_back, rc_X10_chosen, rc_X2_rankedByFear, rc_X10_order, rc_X10_safe, rc_X9_stepAt, rc_X9_tread, rc_X9_search, rc_X10_path, rc_X10_holds, rc_X2_lotsOfAll, rc_X10_odds, rc_X10_learns, rc_X2_befriending, rc_X2_signs, rc_X2_differsFromAll, rc_X2_tellingSigns, rc_X10_tells, rc_X2_areTwins, rc_X10_twins, rc_X2_stepsBetween, rc_X10_chain, rc_X2_trusted, rc_X10_trusts, rc_X10_friends, rc_X1_addSecret, rc_X10_out, rc_X10_asksForSpies, rc_X1_fits, rc_X1_fits_, rc_X1_manyFitting, rc_X1_fitting, rc_X10_spies, rc_X1_manyFittingWith, rc_X10_clear, rc_X10_best, rc_X1_addGrave, rc_X10_grave, rc_X1_couldDig, rc_X1_diggers, rc_X10_dug, rc_X7_hoursTo, rc_X10_flight, rc_X10_reach, rc_X2_fewestWith, rc_X10_dare, rc_X2_turningOrders, rc_X10_shares, rc_X10_canPlay, rc_X10_played, rc_X10_game, rc_X10_isRest, rc_X10_rests, rc_X2_mostOf, rc_X10_ablest, rc_X10_oldest, rc_X10_hides, rc_X2_warned, rc_X10_count, fv_0_0, fv_0_1, fv_0_2, fv_0_3, fv_1_0, fv_1_1, fv_1_2, fv_1_3, fv_1_4, fv_1_5, fv_1_6, fv_2_0, fv_2_1, fv_2_2, fv_2_3, fv_2_4, fv_3_0, fv_3_1, fv_4_0, fv_4_1, fv_4_2, fv_4_3, fv_4_4, fv_4_5, fv_4_6, fv_5_0, fv_6_0, fv_6_1, fv_6_2, fv_6_3, fv_6_4, fv_6_5, fv_7_0, fv_7_1, fv_7_2, fv_8_0, fv_8_1, fv_8_2, fv_8_3, fv_9_0, fv_9_1, fv_9_2, fv_10_0, fv_10_1, fv_10_2, fv_10_3, fv_10_4, fv_10_5, fv_10_6, fv_10_7, fv_10_8, fv_10_9, fv_10_10, fv_10_11, fv_10_12, fv_10_13, fv_10_14, fv_10_15, fv_10_16, fv_11_0, fv_11_1, fv_11_2, fv_11_3, fv_11_4, fv_11_5, fv_11_6, fv_11_7, fv_11_8, fv_11_9, fv_11_10, fv_11_11, fv_11_12, fv_11_13, fv_11_14, fv_11_15, fv_11_16, fv_11_17, fv_11_18, fv_11_19, fv_11_20, fv_11_21, fv_11_22, fv_11_23, fv_11_24, fv_11_25, fv_11_26, fv_11_27, fv_11_28, fv_11_29, fv_11_30, fv_11_31, fv_11_32, fv_11_33, fv_11_34, fv_11_35, fv_11_36, fv_11_37, fv_11_38, fv_11_39, fv_11_40, fv_11_41, fv_11_42, fv_11_43, fv_11_44, fv_11_45, ft_0_2, ft_0_3, ft_1_5, ft_1_6, ft_2_1, ft_2_2, ft_2_3, ft_2_4, ft_3_1, ft_4_4, ft_4_5, ft_4_6, ft_6_3, ft_6_4, ft_6_5, ft_7_2, ft_8_1, ft_8_2, ft_8_3, ft_9_1, ft_9_2, ft_10_15, ft_10_16, ft_11_0, ft_11_2, ft_11_3, ft_11_4, ft_11_5, ft_11_13, ft_11_14, ft_11_20, ft_11_21, ft_11_24, ft_11_25, ft_11_28, ft_11_29, ft_11_31, ft_11_32, ft_11_34, ft_11_35, ft_11_38, ft_11_43, ft_11_45, wd, wk_1, wk_2, wk_3, wk_4, wk_5, wk_6, wk_7, wk_8, wk_9, wk_10, wk_11, wk_12, wk_14, wk_16, wk_19, wk_20, wk_24, wk_30, wk_32, wk_33, wk_38, wk_39, wk_40, wk_41, wk_42, wk_43, wk_45, wk_47, wk_48, wk_49, wk_50, wk_55, wk_57, wk_58, wk_59, wk_60, wk_61, wk_62, wk_63, wk_64, wk_80, wk_91, wk_93, wk_97, wk_98, wk_99, wk_100, wk_101, wk_102, wk_103, wk_104, wk_107, wk_108, wk_110, wk_111, wk_112, wk_115, wk_119, wk_121, wk_124, wk_140, wk_200, wk_231, wk_240, wk_255, wk_300, wk_520, wk_999, wk_1000, wk_1000000, wk_10000, wk_20000, wk_10033, wk_10059, wk_10063, wk_m1, wk_m2, ge_iff_le, k, g1, h6]
  · obtain ⟨M', g1, g2, g3⟩ := l_step h e hc
    have k : ¬ (6 : Int) ≤ (d : Int) := by omega
    refine ⟨M', ?_, g2, fun z => absurd z h6, fun _ => g3⟩
    simp only [fin, dSeq, dSet, dInc, dIf, dIfE, dRet, dReV, dInt, dLoc, dBin, dDiv, dUn, dFld, dAr, dLen, dRo, dCal, dCon, dBo, dCmp, dCm0, dCmpL, dNul, dAnd, dOr, dNot, dA0, dA1, dDo, dPutF, dUpdF, dPutA, dUpdA, Option.bind_some, Option.bind_none, opF, dvF, dvW, mtF, List.getD_cons_zero, List.getD_cons_succ, List.set_cons_zero, List.set_cons_succ, List.length_cons, List.length_nil, List.headD_cons, List.nil_append, List.cons_append, ite_bind, cmpI, cmpL, wr_0, decide_eq_true_eq, reduceIte, true_and, and_true, false_and, and_false, not_true_eq_false, not_false_eq_true, true_or, or_true, false_or, or_false, Int.cast_ofNat_Int, Int.toNat_natCast, Bool.false_eq_true, Nat.reduceLT, Nat.reduceLeDiff, Nat.reduceAdd, Nat.reduceMul, Nat.reduceSub, Nat.reduceEqDiff, Int.reduceLT, Int.reduceLE, Int.reduceEq, Int.reduceNeg, Int.reduceAdd, Int.reduceMul, Int.reduceSub, Int.reduceToNat, Bool.not_true, Bool.not_false, Bool.not_eq_true, Bool.not_eq_eq_eq_not, decide_true, decide_false, ne_eq, reduceCtorEq, ms_eq, id_eq, Option.map_some, Nat.lt_add_one, Nat.zero_lt_succ, obC0, isC0, obC1, isC1, arC2, apC2, obC3, isC3, arC4, apC4, arC5, apC5, arC6, apC6, obC7, isC7, arC8, apC8, obC9, isC9, arC10, apC10, arC11, apC11, arC12, apC12, arC13, apC13, arC14, apC14, obC15, isC15, arC16, apC16, obC17, isC17, arC18, apC18, obC19, isC19, arC20, apC20, obC21, isC21, arC22, apC22, obC23, isC23, arC24, apC24, obC25, isC25, arC26, apC26, arC27, apC27, obC28, isC28, roC29, obC30, isC30, arC31, apC31, obC32, isC32, arC33, apC33, obC34, isC34, arC35, apC35, obC36, isC36, arC37, apC37, obC38, isC38, arC39, apC39, obC40, isC40, arC41, apC41, obC42, isC42, arC43, apC43, arC44, apC44, obC45, isC45, arC46, apC46, arC47, apC47, arC48, apC48, arC49, apC49, arC50, apC50, arC51, apC51, arC52, arC53, arC54, arC55, arC56, arC57, arC58, arC59, arC60, arC61, rc_X10_filled, rc_X10_put, rc_X8_addWord, rc_X10_feed, rc_X10_end, rc_X8_begin, rc_X10_move, rc_X8_sign, rc_X8_step, rc_X10_placeIn, rc_X10_isDigit, rc_X8_failAt, rc_X8_fail, rc_X10_at, rc_X8_number, rc_X6_items, rc_X6_clause, rc_X8_wantOver, rc_X6_item, rc_X6_isWhole, rc_X6_read, rc_X8_want, rc_X3_write, rc_X3_mayNest, rc_X3_atom, rc_X3_sum, rc_X3_term, rc_X3_isRelation, rc_X3_condition, rc_X3_nested, rc_X3_truth, rc_X3_unit, rc_X3_clause, rc_X3_read, rc_X10_fault, rc_X2_set, rc_X2_settle, rc_X7_shorten, rc_X7_build, rc_X1_forget, rc_X0_forget, rc_X10_found, rc_X4_add, rc_X10_text, rc_X10_isTold, rc_X10_master, rc_X10_way, rc_X10_law, rc_X2_has, rc_X2_get, rc_X2_lives, rc_X10_refuse, rc_X0_keep, rc_X2_fear, rc_X10_show, rc_X10_warn, rc_X2_living, rc_J6_bitCount_0f7a4C, rc_X2_manyLive, rc_X10_leave, rc_X2_welcome, rc_X10_come, rc_X10_within, rc_X4_pop, rc_X4_push, rc_X4_result, rc_X4_held, rc_X4_work, rc_X4_worth, rc_X4_lessonOf, rc_X2_grow, rc_X2_mostFeared, rc_X2_pass, rc_X2_artOf, rc_X2_artOfAll, rc_X5_write, rc_X10_passYear, rc_X10_years, rc_X10_bold, rc_X10_stepped, rc_X10_drawn, rc_X10_showByDraws, rc_X10_comeByDraws, rc_X10_winters, rc_X10_status, rc_X0_takeBack, rc_X10_undo, rc_X10_logLength, rc_X5_read, rc_X10_log, rc_X2_copy, rc_X5_copy, rc_X10_image, rc_X10_back, rc_X10_chosen, rc_X2_rankedByFear, rc_X10_order, rc_X10_safe, rc_X9_stepAt, rc_X9_tread, rc_X9_search, rc_X10_path, rc_X10_holds, rc_X2_lotsOfAll, rc_X10_odds, rc_X10_learns, rc_X2_befriending, rc_X2_signs, rc_X2_differsFromAll, rc_X2_tellingSigns, rc_X10_tells, rc_X2_areTwins, rc_X10_twins, rc_X2_stepsBetween, rc_X10_chain, rc_X2_trusted, rc_X10_trusts, rc_X10_friends, rc_X1_addSecret, rc_X10_out, rc_X10_asksForSpies, rc_X1_fits, rc_X1_fits_, rc_X1_manyFitting, rc_X1_fitting, rc_X10_spies, rc_X1_manyFittingWith, rc_X10_clear, rc_X10_best, rc_X1_addGrave, rc_X10_grave, rc_X1_couldDig, rc_X1_diggers, rc_X10_dug, rc_X7_hoursTo, rc_X10_flight, rc_X10_reach, rc_X2_fewestWith, rc_X10_dare, rc_X2_turningOrders, rc_X10_shares, rc_X10_canPlay, rc_X10_played, rc_X10_game, rc_X10_isRest, rc_X10_rests, rc_X2_mostOf, rc_X10_ablest, rc_X10_oldest, rc_X10_hides, rc_X2_warned, rc_X10_count, fv_0_0, fv_0_1, fv_0_2, fv_0_3, fv_1_0, fv_1_1, fv_1_2, fv_1_3, fv_1_4, fv_1_5, fv_1_6, fv_2_0, fv_2_1, fv_2_2, fv_2_3, fv_2_4, fv_3_0, fv_3_1, fv_4_0, fv_4_1, fv_4_2, fv_4_3, fv_4_4, fv_4_5, fv_4_6, fv_5_0, fv_6_0, fv_6_1, fv_6_2, fv_6_3, fv_6_4, fv_6_5, fv_7_0, fv_7_1, fv_7_2, fv_8_0, fv_8_1, fv_8_2, fv_8_3, fv_9_0, fv_9_1, fv_9_2, fv_10_0, fv_10_1, fv_10_2, fv_10_3, fv_10_4, fv_10_5, fv_10_6, fv_10_7, fv_10_8, fv_10_9, fv_10_10, fv_10_11, fv_10_12, fv_10_13, fv_10_14, fv_10_15, fv_10_16, fv_11_0, fv_11_1, fv_11_2, fv_11_3, fv_11_4, fv_11_5, fv_11_6, fv_11_7, fv_11_8, fv_11_9, fv_11_10, fv_11_11, fv_11_12, fv_11_13, fv_11_14, fv_11_15, fv_11_16, fv_11_17, fv_11_18, fv_11_19, fv_11_20, fv_11_21, fv_11_22, fv_11_23, fv_11_24, fv_11_25, fv_11_26, fv_11_27, fv_11_28, fv_11_29, fv_11_30, fv_11_31, fv_11_32, fv_11_33, fv_11_34, fv_11_35, fv_11_36, fv_11_37, fv_11_38, fv_11_39, fv_11_40, fv_11_41, fv_11_42, fv_11_43, fv_11_44, fv_11_45, ft_0_2, ft_0_3, ft_1_5, ft_1_6, ft_2_1, ft_2_2, ft_2_3, ft_2_4, ft_3_1, ft_4_4, ft_4_5, ft_4_6, ft_6_3, ft_6_4, ft_6_5, ft_7_2, ft_8_1, ft_8_2, ft_8_3, ft_9_1, ft_9_2, ft_10_15, ft_10_16, ft_11_0, ft_11_2, ft_11_3, ft_11_4, ft_11_5, ft_11_13, ft_11_14, ft_11_20, ft_11_21, ft_11_24, ft_11_25, ft_11_28, ft_11_29, ft_11_31, ft_11_32, ft_11_34, ft_11_35, ft_11_38, ft_11_43, ft_11_45, wd, wk_1, wk_2, wk_3, wk_4, wk_5, wk_6, wk_7, wk_8, wk_9, wk_10, wk_11, wk_12, wk_14, wk_16, wk_19, wk_20, wk_24, wk_30, wk_32, wk_33, wk_38, wk_39, wk_40, wk_41, wk_42, wk_43, wk_45, wk_47, wk_48, wk_49, wk_50, wk_55, wk_57, wk_58, wk_59, wk_60, wk_61, wk_62, wk_63, wk_64, wk_80, wk_91, wk_93, wk_97, wk_98, wk_99, wk_100, wk_101, wk_102, wk_103, wk_104, wk_107, wk_108, wk_110, wk_111, wk_112, wk_115, wk_119, wk_121, wk_124, wk_140, wk_200, wk_231, wk_240, wk_255, wk_300, wk_520, wk_999, wk_1000, wk_1000000, wk_10000, wk_20000, wk_10033, wk_10059, wk_10063, wk_m1, wk_m2, ge_iff_le, k, g1, h6]
theorem l_rel {c : Int} {M : Mem} (hc : wr c = c) : ci_X3_isRelation.2.2.2.2 [c] M = some (b2i (isRel c), M) := by
  rw [u_X3_isRelation]
  unfold isRel
  by_cases h1 : c = 61
  · simp only [fin, dSeq, dSet, dInc, dIf, dIfE, dRet, dReV, dInt, dLoc, dBin, dDiv, dUn, dFld, dAr, dLen, dRo, dCal, dCon, dBo, dCmp, dCm0, dCmpL, dNul, dAnd, dOr, dNot, dA0, dA1, dDo, dPutF, dUpdF, dPutA, dUpdA, Option.bind_some, Option.bind_none, opF, dvF, dvW, mtF, List.getD_cons_zero, List.getD_cons_succ, List.set_cons_zero, List.set_cons_succ, List.length_cons, List.length_nil, List.headD_cons, List.nil_append, List.cons_append, ite_bind, cmpI, cmpL, wr_0, decide_eq_true_eq, reduceIte, true_and, and_true, false_and, and_false, not_true_eq_false, not_false_eq_true, true_or, or_true, false_or, or_false, Int.cast_ofNat_Int, Int.toNat_natCast, Bool.false_eq_true, Nat.reduceLT, Nat.reduceLeDiff, Nat.reduceAdd, Nat.reduceMul, Nat.reduceSub, Nat.reduceEqDiff, Int.reduceLT, Int.reduceLE, Int.reduceEq, Int.reduceNeg, Int.reduceAdd, Int.reduceMul, Int.reduceSub, Int.reduceToNat, Bool.not_true, Bool.not_false, Bool.not_eq_true, Bool.not_eq_eq_eq_not, decide_true, decide_false, ne_eq, reduceCtorEq, ms_eq, id_eq, Option.map_some, Nat.lt_add_one, Nat.zero_lt_succ, dBo, wk_1, wk_2, wk_3, wk_4, wk_5, wk_6, wk_7, wk_8, wk_9, wk_10, wk_11, wk_12, wk_14, wk_16, wk_19, wk_20, wk_24, wk_30, wk_32, wk_33, wk_38, wk_39, wk_40, wk_41, wk_42, wk_43, wk_45, wk_47, wk_48, wk_49, wk_50, wk_55, wk_57, wk_58, wk_59, wk_60, wk_61, wk_62, wk_63, wk_64, wk_80, wk_91, wk_93, wk_97, wk_98, wk_99, wk_100, wk_101, wk_102, wk_103, wk_104, wk_107, wk_108, wk_110, wk_111, wk_112, wk_115, wk_119, wk_121, wk_124, wk_140, wk_200, wk_231, wk_240, wk_255, wk_300, wk_520, wk_999, wk_1000, wk_1000000, wk_10000, wk_20000, wk_10033, wk_10059, wk_10063, wk_m1, wk_m2, h1, b2i]
  · by_cases h2 : c = 60
    · simp only [fin, dSeq, dSet, dInc, dIf, dIfE, dRet, dReV, dInt, dLoc, dBin, dDiv, dUn, dFld, dAr, dLen, dRo, dCal, dCon, dBo, dCmp, dCm0, dCmpL, dNul, dAnd, dOr, dNot, dA0, dA1, dDo, dPutF, dUpdF, dPutA, dUpdA, Option.bind_some, Option.bind_none, opF, dvF, dvW, mtF, List.getD_cons_zero, List.getD_cons_succ, List.set_cons_zero, List.set_cons_succ, List.length_cons, List.length_nil, List.headD_cons, List.nil_append, List.cons_append, ite_bind, cmpI, cmpL, wr_0, decide_eq_true_eq, reduceIte, true_and, and_true, false_and, and_false, not_true_eq_false, not_false_eq_true, true_or, or_true, false_or, or_false, Int.cast_ofNat_Int, Int.toNat_natCast, Bool.false_eq_true, Nat.reduceLT, Nat.reduceLeDiff, Nat.reduceAdd, Nat.reduceMul, Nat.reduceSub, Nat.reduceEqDiff, Int.reduceLT, Int.reduceLE, Int.reduceEq, Int.reduceNeg, Int.reduceAdd, Int.reduceMul, Int.reduceSub, Int.reduceToNat, Bool.not_true, Bool.not_false, Bool.not_eq_true, Bool.not_eq_eq_eq_not, decide_true, decide_false, ne_eq, reduceCtorEq, ms_eq, id_eq, Option.map_some, Nat.lt_add_one, Nat.zero_lt_succ, dBo, wk_1, wk_2, wk_3, wk_4, wk_5, wk_6, wk_7, wk_8, wk_9, wk_10, wk_11, wk_12, wk_14, wk_16, wk_19, wk_20, wk_24, wk_30, wk_32, wk_33, wk_38, wk_39, wk_40, wk_41, wk_42, wk_43, wk_45, wk_47, wk_48, wk_49, wk_50, wk_55, wk_57, wk_58, wk_59, wk_60, wk_61, wk_62, wk_63, wk_64, wk_80, wk_91, wk_93, wk_97, wk_98, wk_99, wk_100, wk_101, wk_102, wk_103, wk_104, wk_107, wk_108, wk_110, wk_111, wk_112, wk_115, wk_119, wk_121, wk_124, wk_140, wk_200, wk_231, wk_240, wk_255, wk_300, wk_520, wk_999, wk_1000, wk_1000000, wk_10000, wk_20000, wk_10033, wk_10059, wk_10063, wk_m1, wk_m2, h2, b2i]
    · by_cases h3 : c = 62
      · simp only [fin, dSeq, dSet, dInc, dIf, dIfE, dRet, dReV, dInt, dLoc, dBin, dDiv, dUn, dFld, dAr, dLen, dRo, dCal, dCon, dBo, dCmp, dCm0, dCmpL, dNul, dAnd, dOr, dNot, dA0, dA1, dDo, dPutF, dUpdF, dPutA, dUpdA, Option.bind_some, Option.bind_none, opF, dvF, dvW, mtF, List.getD_cons_zero, List.getD_cons_succ, List.set_cons_zero, List.set_cons_succ, List.length_cons, List.length_nil, List.headD_cons, List.nil_append, List.cons_append, ite_bind, cmpI, cmpL, wr_0, decide_eq_true_eq, reduceIte, true_and, and_true, false_and, and_false, not_true_eq_false, not_false_eq_true, true_or, or_true, false_or, or_false, Int.cast_ofNat_Int, Int.toNat_natCast, Bool.false_eq_true, Nat.reduceLT, Nat.reduceLeDiff, Nat.reduceAdd, Nat.reduceMul, Nat.reduceSub, Nat.reduceEqDiff, Int.reduceLT, Int.reduceLE, Int.reduceEq, Int.reduceNeg, Int.reduceAdd, Int.reduceMul, Int.reduceSub, Int.reduceToNat, Bool.not_true, Bool.not_false, Bool.not_eq_true, Bool.not_eq_eq_eq_not, decide_true, decide_false, ne_eq, reduceCtorEq, ms_eq, id_eq, Option.map_some, Nat.lt_add_one, Nat.zero_lt_succ, dBo, wk_1, wk_2, wk_3, wk_4, wk_5, wk_6, wk_7, wk_8, wk_9, wk_10, wk_11, wk_12, wk_14, wk_16, wk_19, wk_20, wk_24, wk_30, wk_32, wk_33, wk_38, wk_39, wk_40, wk_41, wk_42, wk_43, wk_45, wk_47, wk_48, wk_49, wk_50, wk_55, wk_57, wk_58, wk_59, wk_60, wk_61, wk_62, wk_63, wk_64, wk_80, wk_91, wk_93, wk_97, wk_98, wk_99, wk_100, wk_101, wk_102, wk_103, wk_104, wk_107, wk_108, wk_110, wk_111, wk_112, wk_115, wk_119, wk_121, wk_124, wk_140, wk_200, wk_231, wk_240, wk_255, wk_300, wk_520, wk_999, wk_1000, wk_1000000, wk_10000, wk_20000, wk_10033, wk_10059, wk_10063, wk_m1, wk_m2, h3, b2i]
      · simp only [fin, dSeq, dSet, dInc, dIf, dIfE, dRet, dReV, dInt, dLoc, dBin, dDiv, dUn, dFld, dAr, dLen, dRo, dCal, dCon, dBo, dCmp, dCm0, dCmpL, dNul, dAnd, dOr, dNot, dA0, dA1, dDo, dPutF, dUpdF, dPutA, dUpdA, Option.bind_some, Option.bind_none, opF, dvF, dvW, mtF, List.getD_cons_zero, List.getD_cons_succ, List.set_cons_zero, List.set_cons_succ, List.length_cons, List.length_nil, List.headD_cons, List.nil_append, List.cons_append, ite_bind, cmpI, cmpL, wr_0, decide_eq_true_eq, reduceIte, true_and, and_true, false_and, and_false, not_true_eq_false, not_false_eq_true, true_or, or_true, false_or, or_false, Int.cast_ofNat_Int, Int.toNat_natCast, Bool.false_eq_true, Nat.reduceLT, Nat.reduceLeDiff, Nat.reduceAdd, Nat.reduceMul, Nat.reduceSub, Nat.reduceEqDiff, Int.reduceLT, Int.reduceLE, Int.reduceEq, Int.reduceNeg, Int.reduceAdd, Int.reduceMul, Int.reduceSub, Int.reduceToNat, Bool.not_true, Bool.not_false, Bool.not_eq_true, Bool.not_eq_eq_eq_not, decide_true, decide_false, ne_eq, reduceCtorEq, ms_eq, id_eq, Option.map_some, Nat.lt_add_one, Nat.zero_lt_succ, dBo, hc, wk_1, wk_2, wk_3, wk_4, wk_5, wk_6, wk_7, wk_8, wk_9, wk_10, wk_11, wk_12, wk_14, wk_16, wk_19, wk_20, wk_24, wk_30, wk_32, wk_33, wk_38, wk_39, wk_40, wk_41, wk_42, wk_43, wk_45, wk_47, wk_48, wk_49, wk_50, wk_55, wk_57, wk_58, wk_59, wk_60, wk_61, wk_62, wk_63, wk_64, wk_80, wk_91, wk_93, wk_97, wk_98, wk_99, wk_100, wk_101, wk_102, wk_103, wk_104, wk_107, wk_108, wk_110, wk_111, wk_112, wk_115, wk_119, wk_121, wk_124, wk_140, wk_200, wk_231, wk_240, wk_255, wk_300, wk_520, wk_999, wk_1000, wk_1000000, wk_10000, wk_20000, wk_10033, wk_10059, wk_10063, wk_m1, wk_m2, h1, h2, h3, b2i]
/-- a loop with the sign looked at ahead -/
theorem lp_A {T : List Int} {is : Int → Bool} (hi : is (-1) = false) {A : Nat → Rd} {c : CoD} {b : StD} {st : Int → Nat → List Int} (hc : ∀ z i M, -1 ≤ z → z ≤ 255 → i ≤ 240 → c (st z i) M = some (decide (i < 240) && is z, M))
    (hb : ∀ s r M i, InX T s r M → r.1 = true → is (sgT T r.2.1) = true → i < 240 → ∃ M', b (st (sgX T r) i) M = some (none, st (sgX T (bnR r (fun p => bnR (A (skS T p + 1)) (fun q => okR1 q [10000 + sgT T p])))) (i + 1), M') ∧ FrC [1, 7, 8] M M' ∧ InX T s (bnR r (fun p => bnR (A (skS T p + 1)) (fun q => okR1 q [10000 + sgT T p]))) M') :
    ∀ f i s r M, i + f = 240 → InX T s r M → ∃ ρ M', dWh c b (st (sgX T r) i) M = some (none, ρ, M') ∧ FrC [1, 7, 8] M M' ∧ InS T s (bnR r (lpR T is A f)) M'
  | 0, i, s, r, M, h, hx => by
    have hr := sgX_rng (InX_S hx)
    exact ⟨_, M, dWh_end (by rw [hc _ i M hr.1 hr.2 (by omega), decide_eq_false (by omega)]; rfl), FrC_refl _ _, InX_end hx⟩
  | f + 1, i, s, r, M, h, hx => by
    have hr := sgX_rng (InX_S hx)
    cases e : r.1 with
    | false =>
      rw [bnR_dead e]
      have e2 : sgX T r = -1 := by unfold sgX; rw [e]; rfl
      exact ⟨_, M, dWh_end (by rw [hc _ i M hr.1 hr.2 (by omega), e2, hi, Bool.and_false]), FrC_refl _ _, InX_S hx⟩
    | true =>
      have e2 : sgX T r = sgT T r.2.1 := by unfold sgX; rw [e]; rfl
      by_cases e3 : is (sgT T r.2.1) = true
      · obtain ⟨M1, b1, b2, b3⟩ := hb s r M i hx e e3 (by omega)
        obtain ⟨ρ, M2, g1, g2, g3⟩ := lp_A hi hc hb f (i + 1) s _ M1 (by omega) b3
        refine ⟨ρ, M2, dWh_go (M1 := M) (by rw [hc _ i M hr.1 hr.2 (by omega), decide_eq_true (by omega), e2, e3]; rfl) b1 g1, FrC_trans b2 g2 (fun _ h => h), ?_⟩
        have e4 : bnR r (lpR T is A (f + 1)) = bnR (bnR r (fun p => bnR (A (skS T p + 1)) (fun q => okR1 q [10000 + sgT T p]))) (lpR T is A f) := by
          rw [bnR_assoc]
          refine bnR_congr (fun _ => ?_)
          show (if is (sgT T r.2.1) = true then _ else _) = _
          rw [if_pos e3]
        rw [e4]
        exact g3
      · have e3' : is (sgT T r.2.1) = false := by cases q : is (sgT T r.2.1) with
          | true => exact absurd q e3
          | false => rfl
        refine ⟨_, M, dWh_end (by rw [hc _ i M hr.1 hr.2 (by omega), e2, e3', Bool.and_false]), FrC_refl _ _, ?_⟩
        have e4 : bnR r (lpR T is A (f + 1)) = bnR r (fun p => okR1 (skS T p) []) := bnR_congr (fun _ => by
          show (if is (sgT T r.2.1) = true then _ else _) = _
          rw [if_neg e3])
        rw [e4]
        exact InX_end hx
/-- a loop that looks itself -/
theorem lp_B {T : List Int} {is : Int → Bool} (hi : is (-1) = false) {A : Nat → Rd} {c : CoD} {b : StD} {st : Nat → List Int} (hc : ∀ s r M i, InS T s r M → i < 240 → ∃ M', c (st i) M = some (is (sgX T r), M') ∧ FrC [1, 7, 8] M M' ∧ InX T s r M') (hc2 : ∀ M, c (st 240) M = some (false, M))
    (hb : ∀ s r M i, InX T s r M → r.1 = true → is (sgT T r.2.1) = true → i < 240 → ∃ M', b (st i) M = some (none, st (i + 1), M') ∧ FrC [1, 7, 8] M M' ∧ InS T s (bnR r (fun p => bnR (A (skS T p + 1)) (fun q => okR1 q [10000 + sgT T p]))) M') :
    ∀ f i s r M, i + f = 240 → InS T s r M → ∃ ρ M', dWh c b (st i) M = some (none, ρ, M') ∧ FrC [1, 7, 8] M M' ∧ InS T s (bnR r (lpR T is A f)) M'
  | 0, i, s, r, M, h, hx => by
    have h : i = 240 := h
    subst h
    exact ⟨_, M, dWh_end (hc2 M), FrC_refl _ _, InS_end hx⟩
  | f + 1, i, s, r, M, h, hx => by
    obtain ⟨M0, c1, c2, c3⟩ := hc s r M i hx (by omega)
    cases e : r.1 with
    | false =>
      rw [bnR_dead e]
      have e2 : sgX T r = -1 := by unfold sgX; rw [e]; rfl
      exact ⟨_, M0, dWh_end (by rw [c1, e2, hi]), c2, InX_S c3⟩
    | true =>
      have e2 : sgX T r = sgT T r.2.1 := by unfold sgX; rw [e]; rfl
      by_cases e3 : is (sgT T r.2.1) = true
      · obtain ⟨M1, b1, b2, b3⟩ := hb s r M0 i c3 e e3 (by omega)
        obtain ⟨ρ, M2, g1, g2, g3⟩ := lp_B hi hc hc2 hb f (i + 1) s _ M1 (by omega) b3
        refine ⟨ρ, M2, dWh_go (M1 := M0) (by rw [c1, e2, e3]) b1 g1, FrC_trans c2 (FrC_trans b2 g2 (fun _ h => h)) (fun _ h => h), ?_⟩
        have e4 : bnR r (lpR T is A (f + 1)) = bnR (bnR r (fun p => bnR (A (skS T p + 1)) (fun q => okR1 q [10000 + sgT T p]))) (lpR T is A f) := by
          rw [bnR_assoc]
          refine bnR_congr (fun _ => ?_)
          show (if is (sgT T r.2.1) = true then _ else _) = _
          rw [if_pos e3]
        rw [e4]
        exact g3
      · have e3' : is (sgT T r.2.1) = false := by cases q : is (sgT T r.2.1) with
          | true => exact absurd q e3
          | false => rfl
        refine ⟨_, M0, dWh_end (by rw [c1, e2, e3']), c2, ?_⟩
        have e4 : bnR r (lpR T is A (f + 1)) = bnR r (fun p => okR1 (skS T p) []) := bnR_congr (fun _ => by
          show (if is (sgT T r.2.1) = true then _ else _) = _
          rw [if_neg e3])
        rw [e4]
        exact InX_end c3
