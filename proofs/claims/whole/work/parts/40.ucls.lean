/-! PART 40: what the class's methods do, spelt out; loops by name. -/
def fin (rb : Bool) (x : Option (Option Int × List Int × Mem)) : Option (Int × Mem) := x.bind fun x => x.1.bind fun v => if rb = true ∧ ¬ (v = 0 ∨ v = 1) then none else some (v, x.2.2)
section PS
variable {wd : Wd} {mi : MI} {rt : Nat}
theorem p_sSet (i : Nat) (e : Ex wd mi) : (sSet i e : St wd mi rt).1.1 = dSet i e.1.1 := rfl
theorem p_sInc (i : Nat) (n : Int) : (sInc i n : St wd mi rt).1.1 = dInc i n := rfl
theorem p_sPutF (c k : Nat) (o e : Ex wd mi) : (sPutF c k o e : St wd mi rt).1.1 = dPutF wd c k o.1.1 e.1.1 := rfl
theorem p_sUpdF (p c k : Nat) (o e : Ex wd mi) : (sUpdF p c k o e : St wd mi rt).1.1 = dUpdF wd p c k o.1.1 e.1.1 := rfl
theorem p_sPutA (u : Nat) (a i e : Ex wd mi) : (sPutA u a i e : St wd mi rt).1.1 = dPutA wd u a.1.1 i.1.1 e.1.1 := rfl
theorem p_sUpdA (p : Nat) (a i e : Ex wd mi) : (sUpdA p a i e : St wd mi rt).1.1 = dUpdA wd p a.1.1 i.1.1 e.1.1 := rfl
theorem p_sDo (idx : Nat) (ci : CI) (h : lk idx (miK mi) = some ci) (a : Ar wd mi) : (sDo idx ci h a : St wd mi rt).1.1 = dDo wd ci a.1.1 := rfl
theorem p_sCpy (a : Ar wd mi) : (sCpy a : St wd mi rt).1.1 = dCpy wd a.1.1 := rfl
theorem p_sSeq (a b : St wd mi rt) : (sSeq a b).1.1 = dSeq a.1.1 b.1.1 := rfl
theorem p_sIf (c : Co wd mi) (a : St wd mi rt) : (sIf c a).1.1 = dIf c.1.1 a.1.1 := rfl
theorem p_sIfE (c : Co wd mi) (a b : St wd mi rt) : (sIfE c a b).1.1 = dIfE c.1.1 a.1.1 b.1.1 := rfl
theorem p_sWh (c : Co wd mi) (a : St wd mi rt) : (sWh c a).1.1 = dWh c.1.1 a.1.1 := rfl
theorem p_sRet (e : Ex wd mi) : (sRet e : St wd mi rt).1.1 = dRet e.1.1 := rfl
theorem p_sReV  : (sReV : St wd mi rt).1.1 = dReV := rfl
theorem p_sBlk (a : St wd mi rt) : (sBlk a).1.1 = a.1.1 := rfl
theorem p_sSw (e : Ex wd mi) (w : Sw wd mi rt) : (sSw e w).1.1 = dSw e.1.1 w.1.1 := rfl
theorem p_wDf (a : St wd mi rt) : (wDf a).1.1 = fun _ => a.1.1 := rfl
theorem p_wCs (k : Int) (a : St wd mi rt) (w : Sw wd mi rt) : (wCs k a w).1.1 = dCs k a.1.1 w.1.1 := rfl
theorem p_eInt (n : Int) : (eInt n : Ex wd mi).1.1 = dInt n := rfl
theorem p_eLng (n : Int) : (eLng n : Ex wd mi).1.1 = dInt n := rfl
theorem p_eNll  : (eNll : Ex wd mi).1.1 = dInt (-1) := rfl
theorem p_eStr (n : Nat) : (eStr n : Ex wd mi).1.1 = dInt n := rfl
theorem p_eSta (n : Nat) : (eSta n : Ex wd mi).1.1 = dInt n := rfl
theorem p_eLoc (n : Nat) : (eLoc n : Ex wd mi).1.1 = dLoc n := rfl
theorem p_eBin (p : Nat) (a b : Ex wd mi) : (eBin p a b).1.1 = dBin (opF p) a.1.1 b.1.1 := rfl
theorem p_eDiv (p : Nat) (a b : Ex wd mi) : (eDiv p a b).1.1 = dDiv (dvF p) (dvW p) a.1.1 b.1.1 := rfl
theorem p_eI2L (a : Ex wd mi) : (eI2L a).1.1 = dUn wr a.1.1 := rfl
theorem p_eL2I (a : Ex wd mi) : (eL2I a).1.1 = dUn id a.1.1 := rfl
theorem p_eFld (c k : Nat) (a : Ex wd mi) : (eFld c k a).1.1 = dFld wd c k a.1.1 := rfl
theorem p_eAr (u : Nat) (a b : Ex wd mi) : (eAr u a b).1.1 = dAr wd u a.1.1 b.1.1 := rfl
theorem p_eRo (a b : Ex wd mi) : (eRo a b).1.1 = dRo wd a.1.1 b.1.1 := rfl
theorem p_eLen (u : Nat) (a : Ex wd mi) : (eLen u a).1.1 = dLen wd u a.1.1 := rfl
theorem p_eCal (idx : Nat) (ci : CI) (h : lk idx (miK mi) = some ci) (a : Ar wd mi) : (eCal idx ci h a).1.1 = dCal wd ci a.1.1 := rfl
theorem p_eMt (p : Nat) (a b : Ex wd mi) : (eMt p a b).1.1 = dBin (mtF p) a.1.1 b.1.1 := rfl
theorem p_eAbs (a : Ex wd mi) : (eAbs a).1.1 = dUn abI a.1.1 := rfl
theorem p_eBo (c : Co wd mi) : (eBo c).1.1 = dBo c.1.1 := rfl
theorem p_eCon (c : Co wd mi) (a b : Ex wd mi) : (eCon c a b).1.1 = dCon c.1.1 a.1.1 b.1.1 := rfl
theorem p_aA0  : (aA0 : Ar wd mi).1.1 = dA0 := rfl
theorem p_aA1 (a : Ar wd mi) (b : Ex wd mi) : (aA1 a b).1.1 = dA1 a.1.1 b.1.1 := rfl
theorem p_oCmp (q : Jvm.ClassFile.Cond) (a b : Ex wd mi) : (oCmp q a b).1.1 = dCmp q a.1.1 b.1.1 := rfl
theorem p_oCm0 (q : Jvm.ClassFile.Cond) (a : Ex wd mi) : (oCm0 q a).1.1 = dCm0 q a.1.1 := rfl
theorem p_oCmpL (q : Jvm.ClassFile.Cond) (a b : Ex wd mi) : (oCmpL q a b).1.1 = dCmpL q a.1.1 b.1.1 := rfl
theorem p_oNul (a : Ex wd mi) : (oNul a).1.1 = dNul a.1.1 := rfl
theorem p_oAnd (a b : Co wd mi) : (oAnd a b).1.1 = dAnd a.1.1 b.1.1 := rfl
theorem p_oOr (a b : Co wd mi) : (oOr a b).1.1 = dOr a.1.1 b.1.1 := rfl
theorem p_oNot (a : Co wd mi) : (oNot a).1.1 = dNot a.1.1 := rfl
end PS
noncomputable def wc1_X10_filled : CoD := (dCmp .lt (dLoc 2) (dInt 32))
noncomputable def wb1_X10_filled : StD := (dSeq (dIf (dCm0 .ne (dBin (opF 3) (dBin (opF 8) (dLoc 0) (dLoc 2)) (dInt 255))) (dInc 1 1))
  (dInc 2 8))
set_option maxRecDepth 100000 in
theorem u_X10_filled (v0 : Int) (M : Mem) : ci_X10_filled.2.2.2.2 [v0] M = fin false ((dSeq (dSet 1 (dInt 0))
  (dSeq (dSeq (dSet 2 (dInt 0))
  (dWh (wc1_X10_filled) (wb1_X10_filled)))
  (dRet (dLoc 1)))) [v0, 0, 0] M) := by
  have h : a_X10_filled.1.1 = (dSeq (dSet 1 (dInt 0))
  (dSeq (dSeq (dSet 2 (dInt 0))
  (dWh (wc1_X10_filled) (wb1_X10_filled)))
  (dRet (dLoc 1)))) := by simp only [a_X10_filled, wc1_X10_filled, wb1_X10_filled, p_sSet, p_sInc, p_sPutF, p_sUpdF, p_sPutA, p_sUpdA, sDo, p_sCpy, p_sSeq, p_sIf, p_sIfE, p_sWh, p_sRet, p_sReV, p_sBlk, p_sSw, p_wDf, p_wCs, p_eInt, p_eLng, p_eNll, p_eStr, p_eSta, p_eLoc, p_eBin, p_eDiv, p_eI2L, p_eL2I, p_eFld, p_eAr, p_eRo, p_eLen, eCal, p_eMt, p_eAbs, p_eBo, p_eCon, p_aA0, p_aA1, p_oCmp, p_oCm0, p_oCmpL, p_oNul, p_oAnd, p_oOr, p_oNot]
  exact congrArg (fun z => fin false (z [v0, 0, 0] M)) h
set_option maxRecDepth 100000 in
theorem u_X10_put (v0 v1 v2 : Int) (M : Mem) : ci_X10_put.2.2.2.2 [v0, v1, v2] M = fin false ((dSeq (dIf (dAnd (dCm0 .ge (dLoc 1)) (dCmp .lt (dLoc 1) (dLen wC 0 (dLoc 0)))) (dPutA wC 0 (dLoc 0) (dLoc 1) (dLoc 2)))
  dReV) [v0, v1, v2] M) := by
  have h : a_X10_put.1.1 = (dSeq (dIf (dAnd (dCm0 .ge (dLoc 1)) (dCmp .lt (dLoc 1) (dLen wC 0 (dLoc 0)))) (dPutA wC 0 (dLoc 0) (dLoc 1) (dLoc 2)))
  dReV) := by simp only [a_X10_put, p_sSet, p_sInc, p_sPutF, p_sUpdF, p_sPutA, p_sUpdA, sDo, p_sCpy, p_sSeq, p_sIf, p_sIfE, p_sWh, p_sRet, p_sReV, p_sBlk, p_sSw, p_wDf, p_wCs, p_eInt, p_eLng, p_eNll, p_eStr, p_eSta, p_eLoc, p_eBin, p_eDiv, p_eI2L, p_eL2I, p_eFld, p_eAr, p_eRo, p_eLen, eCal, p_eMt, p_eAbs, p_eBo, p_eCon, p_aA0, p_aA1, p_oCmp, p_oCm0, p_oCmpL, p_oNul, p_oAnd, p_oOr, p_oNot]
  exact congrArg (fun z => fin false (z [v0, v1, v2] M)) h
noncomputable def wc1_X8_addWord : CoD := (dCm0 .ge (dLoc 2))
noncomputable def wb1_X8_addWord : StD := (dSeq (dSeq (dSet 3 (dBin (opF 3) (dBin (opF 8) (dLoc 1) (dLoc 2)) (dInt 255)))
  (dIf (dAnd (dCm0 .ne (dLoc 3)) (dCmp .lt (dFld wC 8 1 (dLoc 0)) (dLen wC 0 (dFld wC 8 0 (dLoc 0))))) (dSeq (dDo wC ci_X10_put (dA1 (dA1 (dA1 dA0 (dFld wC 8 0 (dLoc 0))) (dFld wC 8 1 (dLoc 0))) (dLoc 3)))
  (dUpdF wC 0 8 1 (dLoc 0) (dInt 1)))))
  (dInc 2 (-8)))
set_option maxRecDepth 100000 in
theorem u_X8_addWord (v0 v1 : Int) (M : Mem) : ci_X8_addWord.2.2.2.2 [v0, v1] M = fin false ((dSeq (dSeq (dSet 2 (dInt 24))
  (dWh (wc1_X8_addWord) (wb1_X8_addWord)))
  dReV) [v0, v1, 0, 0] M) := by
  have h : a_X8_addWord.1.1 = (dSeq (dSeq (dSet 2 (dInt 24))
  (dWh (wc1_X8_addWord) (wb1_X8_addWord)))
  dReV) := by simp only [a_X8_addWord, wc1_X8_addWord, wb1_X8_addWord, p_sSet, p_sInc, p_sPutF, p_sUpdF, p_sPutA, p_sUpdA, sDo, p_sCpy, p_sSeq, p_sIf, p_sIfE, p_sWh, p_sRet, p_sReV, p_sBlk, p_sSw, p_wDf, p_wCs, p_eInt, p_eLng, p_eNll, p_eStr, p_eSta, p_eLoc, p_eBin, p_eDiv, p_eI2L, p_eL2I, p_eFld, p_eAr, p_eRo, p_eLen, eCal, p_eMt, p_eAbs, p_eBo, p_eCon, p_aA0, p_aA1, p_oCmp, p_oCm0, p_oCmpL, p_oNul, p_oAnd, p_oOr, p_oNot]
  exact congrArg (fun z => fin false (z [v0, v1, 0, 0] M)) h
set_option maxRecDepth 100000 in
theorem u_X10_feed (v0 v1 v2 v3 v4 v5 : Int) (M : Mem) : ci_X10_feed.2.2.2.2 [v0, v1, v2, v3, v4, v5] M = fin false ((dSeq (dSet 6 (dBin (opF 0) (dBin (opF 0) (dBin (opF 0) (dBin (opF 0) (dCal wC ci_X10_filled (dA1 dA0 (dLoc 1))) (dCal wC ci_X10_filled (dA1 dA0 (dLoc 2)))) (dCal wC ci_X10_filled (dA1 dA0 (dLoc 3)))) (dCal wC ci_X10_filled (dA1 dA0 (dLoc 4)))) (dCal wC ci_X10_filled (dA1 dA0 (dLoc 5)))))
  (dSeq (dIf (dCmp .gt (dBin (opF 0) (dFld wC 8 1 (dFld wC 10 0 (dLoc 0))) (dLoc 6)) (dInt 240)) (dRet (dInt (-1))))
  (dSeq (dDo wC ci_X8_addWord (dA1 (dA1 dA0 (dFld wC 10 0 (dLoc 0))) (dLoc 1)))
  (dSeq (dDo wC ci_X8_addWord (dA1 (dA1 dA0 (dFld wC 10 0 (dLoc 0))) (dLoc 2)))
  (dSeq (dDo wC ci_X8_addWord (dA1 (dA1 dA0 (dFld wC 10 0 (dLoc 0))) (dLoc 3)))
  (dSeq (dDo wC ci_X8_addWord (dA1 (dA1 dA0 (dFld wC 10 0 (dLoc 0))) (dLoc 4)))
  (dSeq (dDo wC ci_X8_addWord (dA1 (dA1 dA0 (dFld wC 10 0 (dLoc 0))) (dLoc 5)))
  (dRet (dFld wC 8 1 (dFld wC 10 0 (dLoc 0))))))))))) [v0, v1, v2, v3, v4, v5, 0] M) := by
  have h : a_X10_feed.1.1 = (dSeq (dSet 6 (dBin (opF 0) (dBin (opF 0) (dBin (opF 0) (dBin (opF 0) (dCal wC ci_X10_filled (dA1 dA0 (dLoc 1))) (dCal wC ci_X10_filled (dA1 dA0 (dLoc 2)))) (dCal wC ci_X10_filled (dA1 dA0 (dLoc 3)))) (dCal wC ci_X10_filled (dA1 dA0 (dLoc 4)))) (dCal wC ci_X10_filled (dA1 dA0 (dLoc 5)))))
  (dSeq (dIf (dCmp .gt (dBin (opF 0) (dFld wC 8 1 (dFld wC 10 0 (dLoc 0))) (dLoc 6)) (dInt 240)) (dRet (dInt (-1))))
  (dSeq (dDo wC ci_X8_addWord (dA1 (dA1 dA0 (dFld wC 10 0 (dLoc 0))) (dLoc 1)))
  (dSeq (dDo wC ci_X8_addWord (dA1 (dA1 dA0 (dFld wC 10 0 (dLoc 0))) (dLoc 2)))
  (dSeq (dDo wC ci_X8_addWord (dA1 (dA1 dA0 (dFld wC 10 0 (dLoc 0))) (dLoc 3)))
  (dSeq (dDo wC ci_X8_addWord (dA1 (dA1 dA0 (dFld wC 10 0 (dLoc 0))) (dLoc 4)))
  (dSeq (dDo wC ci_X8_addWord (dA1 (dA1 dA0 (dFld wC 10 0 (dLoc 0))) (dLoc 5)))
  (dRet (dFld wC 8 1 (dFld wC 10 0 (dLoc 0))))))))))) := by simp only [a_X10_feed, p_sSet, p_sInc, p_sPutF, p_sUpdF, p_sPutA, p_sUpdA, sDo, p_sCpy, p_sSeq, p_sIf, p_sIfE, p_sWh, p_sRet, p_sReV, p_sBlk, p_sSw, p_wDf, p_wCs, p_eInt, p_eLng, p_eNll, p_eStr, p_eSta, p_eLoc, p_eBin, p_eDiv, p_eI2L, p_eL2I, p_eFld, p_eAr, p_eRo, p_eLen, eCal, p_eMt, p_eAbs, p_eBo, p_eCon, p_aA0, p_aA1, p_oCmp, p_oCm0, p_oCmpL, p_oNul, p_oAnd, p_oOr, p_oNot]
  exact congrArg (fun z => fin false (z [v0, v1, v2, v3, v4, v5, 0] M)) h
set_option maxRecDepth 100000 in
theorem u_X10_end (v0 v1 : Int) (M : Mem) : ci_X10_end.2.2.2.2 [v0, v1] M = fin true ((dSeq (dIf (dOr (dCm0 .lt (dLoc 1)) (dCmp .gt (dLoc 1) (dFld wC 8 1 (dFld wC 10 0 (dLoc 0))))) (dRet (dInt 0)))
  (dSeq (dPutF wC 8 1 (dFld wC 10 0 (dLoc 0)) (dLoc 1))
  (dRet (dInt 1)))) [v0, v1] M) := by
  have h : a_X10_end.1.1 = (dSeq (dIf (dOr (dCm0 .lt (dLoc 1)) (dCmp .gt (dLoc 1) (dFld wC 8 1 (dFld wC 10 0 (dLoc 0))))) (dRet (dInt 0)))
  (dSeq (dPutF wC 8 1 (dFld wC 10 0 (dLoc 0)) (dLoc 1))
  (dRet (dInt 1)))) := by simp only [a_X10_end, p_sSet, p_sInc, p_sPutF, p_sUpdF, p_sPutA, p_sUpdA, sDo, p_sCpy, p_sSeq, p_sIf, p_sIfE, p_sWh, p_sRet, p_sReV, p_sBlk, p_sSw, p_wDf, p_wCs, p_eInt, p_eLng, p_eNll, p_eStr, p_eSta, p_eLoc, p_eBin, p_eDiv, p_eI2L, p_eL2I, p_eFld, p_eAr, p_eRo, p_eLen, eCal, p_eMt, p_eAbs, p_eBo, p_eCon, p_aA0, p_aA1, p_oCmp, p_oCm0, p_oCmpL, p_oNul, p_oAnd, p_oOr, p_oNot]
  exact congrArg (fun z => fin true (z [v0, v1] M)) h
set_option maxRecDepth 100000 in
theorem u_X8_begin (v0 : Int) (M : Mem) : ci_X8_begin.2.2.2.2 [v0] M = fin false ((dSeq (dSeq (dPutF wC 8 2 (dLoc 0) (dInt 0))
  (dPutF wC 8 3 (dLoc 0) (dInt (-1))))
  dReV) [v0] M) := by
  have h : a_X8_begin.1.1 = (dSeq (dSeq (dPutF wC 8 2 (dLoc 0) (dInt 0))
  (dPutF wC 8 3 (dLoc 0) (dInt (-1))))
  dReV) := by simp only [a_X8_begin, p_sSet, p_sInc, p_sPutF, p_sUpdF, p_sPutA, p_sUpdA, sDo, p_sCpy, p_sSeq, p_sIf, p_sIfE, p_sWh, p_sRet, p_sReV, p_sBlk, p_sSw, p_wDf, p_wCs, p_eInt, p_eLng, p_eNll, p_eStr, p_eSta, p_eLoc, p_eBin, p_eDiv, p_eI2L, p_eL2I, p_eFld, p_eAr, p_eRo, p_eLen, eCal, p_eMt, p_eAbs, p_eBo, p_eCon, p_aA0, p_aA1, p_oCmp, p_oCm0, p_oCmpL, p_oNul, p_oAnd, p_oOr, p_oNot]
  exact congrArg (fun z => fin false (z [v0] M)) h
set_option maxRecDepth 100000 in
theorem u_X10_move (v0 v1 v2 v3 v4 : Int) (M : Mem) : ci_X10_move.2.2.2.2 [v0, v1, v2, v3, v4] M = fin false ((dSeq (dSeq (dIf (dOr (dOr (dCm0 .lt (dLoc 1)) (dCm0 .lt (dLoc 3))) (dCm0 .lt (dLoc 4))) dReV)
  (dIf (dAnd (dCmp .le (dLoc 4) (dBin (opF 1) (dLen wC 0 (dLoc 0)) (dLoc 1))) (dCmp .le (dLoc 4) (dBin (opF 1) (dLen wC 0 (dLoc 2)) (dLoc 3)))) (dCpy wC (dA1 (dA1 (dA1 (dA1 (dA1 dA0 (dLoc 0)) (dLoc 1)) (dLoc 2)) (dLoc 3)) (dLoc 4)))))
  dReV) [v0, v1, v2, v3, v4] M) := by
  have h : a_X10_move.1.1 = (dSeq (dSeq (dIf (dOr (dOr (dCm0 .lt (dLoc 1)) (dCm0 .lt (dLoc 3))) (dCm0 .lt (dLoc 4))) dReV)
  (dIf (dAnd (dCmp .le (dLoc 4) (dBin (opF 1) (dLen wC 0 (dLoc 0)) (dLoc 1))) (dCmp .le (dLoc 4) (dBin (opF 1) (dLen wC 0 (dLoc 2)) (dLoc 3)))) (dCpy wC (dA1 (dA1 (dA1 (dA1 (dA1 dA0 (dLoc 0)) (dLoc 1)) (dLoc 2)) (dLoc 3)) (dLoc 4)))))
  dReV) := by simp only [a_X10_move, p_sSet, p_sInc, p_sPutF, p_sUpdF, p_sPutA, p_sUpdA, sDo, p_sCpy, p_sSeq, p_sIf, p_sIfE, p_sWh, p_sRet, p_sReV, p_sBlk, p_sSw, p_wDf, p_wCs, p_eInt, p_eLng, p_eNll, p_eStr, p_eSta, p_eLoc, p_eBin, p_eDiv, p_eI2L, p_eL2I, p_eFld, p_eAr, p_eRo, p_eLen, eCal, p_eMt, p_eAbs, p_eBo, p_eCon, p_aA0, p_aA1, p_oCmp, p_oCm0, p_oCmpL, p_oNul, p_oAnd, p_oOr, p_oNot]
  exact congrArg (fun z => fin false (z [v0, v1, v2, v3, v4] M)) h
noncomputable def wc1_X8_sign : CoD := (dAnd (dAnd (dAnd (dCm0 .ge (dFld wC 8 2 (dLoc 0))) (dCmp .lt (dFld wC 8 2 (dLoc 0)) (dFld wC 8 1 (dLoc 0)))) (dCmp .lt (dFld wC 8 2 (dLoc 0)) (dLen wC 0 (dFld wC 8 0 (dLoc 0))))) (dCmp .eq (dAr wC 0 (dFld wC 8 0 (dLoc 0)) (dFld wC 8 2 (dLoc 0))) (dInt 32)))
noncomputable def wb1_X8_sign : StD := (dUpdF wC 0 8 2 (dLoc 0) (dInt 1))
set_option maxRecDepth 100000 in
theorem u_X8_sign (v0 : Int) (M : Mem) : ci_X8_sign.2.2.2.2 [v0] M = fin false ((dSeq (dWh (wc1_X8_sign) (wb1_X8_sign))
  (dSeq (dIf (dOr (dOr (dOr (dCmp .ne (dFld wC 8 3 (dLoc 0)) (dInt (-1))) (dCm0 .lt (dFld wC 8 2 (dLoc 0)))) (dCmp .ge (dFld wC 8 2 (dLoc 0)) (dFld wC 8 1 (dLoc 0)))) (dCmp .ge (dFld wC 8 2 (dLoc 0)) (dLen wC 0 (dFld wC 8 0 (dLoc 0))))) (dRet (dInt (-1))))
  (dRet (dAr wC 0 (dFld wC 8 0 (dLoc 0)) (dFld wC 8 2 (dLoc 0)))))) [v0] M) := by
  have h : a_X8_sign.1.1 = (dSeq (dWh (wc1_X8_sign) (wb1_X8_sign))
  (dSeq (dIf (dOr (dOr (dOr (dCmp .ne (dFld wC 8 3 (dLoc 0)) (dInt (-1))) (dCm0 .lt (dFld wC 8 2 (dLoc 0)))) (dCmp .ge (dFld wC 8 2 (dLoc 0)) (dFld wC 8 1 (dLoc 0)))) (dCmp .ge (dFld wC 8 2 (dLoc 0)) (dLen wC 0 (dFld wC 8 0 (dLoc 0))))) (dRet (dInt (-1))))
  (dRet (dAr wC 0 (dFld wC 8 0 (dLoc 0)) (dFld wC 8 2 (dLoc 0)))))) := by simp only [a_X8_sign, wc1_X8_sign, wb1_X8_sign, p_sSet, p_sInc, p_sPutF, p_sUpdF, p_sPutA, p_sUpdA, sDo, p_sCpy, p_sSeq, p_sIf, p_sIfE, p_sWh, p_sRet, p_sReV, p_sBlk, p_sSw, p_wDf, p_wCs, p_eInt, p_eLng, p_eNll, p_eStr, p_eSta, p_eLoc, p_eBin, p_eDiv, p_eI2L, p_eL2I, p_eFld, p_eAr, p_eRo, p_eLen, eCal, p_eMt, p_eAbs, p_eBo, p_eCon, p_aA0, p_aA1, p_oCmp, p_oCm0, p_oCmpL, p_oNul, p_oAnd, p_oOr, p_oNot]
  exact congrArg (fun z => fin false (z [v0] M)) h
set_option maxRecDepth 100000 in
theorem u_X8_step (v0 : Int) (M : Mem) : ci_X8_step.2.2.2.2 [v0] M = fin false ((dSeq (dUpdF wC 0 8 2 (dLoc 0) (dInt 1))
  dReV) [v0] M) := by
  have h : a_X8_step.1.1 = (dSeq (dUpdF wC 0 8 2 (dLoc 0) (dInt 1))
  dReV) := by simp only [a_X8_step, p_sSet, p_sInc, p_sPutF, p_sUpdF, p_sPutA, p_sUpdA, sDo, p_sCpy, p_sSeq, p_sIf, p_sIfE, p_sWh, p_sRet, p_sReV, p_sBlk, p_sSw, p_wDf, p_wCs, p_eInt, p_eLng, p_eNll, p_eStr, p_eSta, p_eLoc, p_eBin, p_eDiv, p_eI2L, p_eL2I, p_eFld, p_eAr, p_eRo, p_eLen, eCal, p_eMt, p_eAbs, p_eBo, p_eCon, p_aA0, p_aA1, p_oCmp, p_oCm0, p_oCmpL, p_oNul, p_oAnd, p_oOr, p_oNot]
  exact congrArg (fun z => fin false (z [v0] M)) h
noncomputable def wc1_X10_placeIn : CoD := (dCmp .lt (dLoc 2) (dCal wC ci_Slen (dA1 dA0 (dLoc 0))))
noncomputable def wb1_X10_placeIn : StD := (dSeq (dIf (dCmp .eq (dCal wC ci_Schr (dA1 (dA1 dA0 (dLoc 0)) (dLoc 2))) (dLoc 1)) (dRet (dLoc 2)))
  (dInc 2 1))
set_option maxRecDepth 100000 in
theorem u_X10_placeIn (v0 v1 : Int) (M : Mem) : ci_X10_placeIn.2.2.2.2 [v0, v1] M = fin false ((dSeq (dSeq (dSet 2 (dInt 0))
  (dWh (wc1_X10_placeIn) (wb1_X10_placeIn)))
  (dRet (dInt (-1)))) [v0, v1, 0] M) := by
  have h : a_X10_placeIn.1.1 = (dSeq (dSeq (dSet 2 (dInt 0))
  (dWh (wc1_X10_placeIn) (wb1_X10_placeIn)))
  (dRet (dInt (-1)))) := by simp only [a_X10_placeIn, wc1_X10_placeIn, wb1_X10_placeIn, p_sSet, p_sInc, p_sPutF, p_sUpdF, p_sPutA, p_sUpdA, sDo, p_sCpy, p_sSeq, p_sIf, p_sIfE, p_sWh, p_sRet, p_sReV, p_sBlk, p_sSw, p_wDf, p_wCs, p_eInt, p_eLng, p_eNll, p_eStr, p_eSta, p_eLoc, p_eBin, p_eDiv, p_eI2L, p_eL2I, p_eFld, p_eAr, p_eRo, p_eLen, eCal, p_eMt, p_eAbs, p_eBo, p_eCon, p_aA0, p_aA1, p_oCmp, p_oCm0, p_oCmpL, p_oNul, p_oAnd, p_oOr, p_oNot]
  exact congrArg (fun z => fin false (z [v0, v1, 0] M)) h
set_option maxRecDepth 100000 in
theorem u_X10_isDigit (v0 : Int) (M : Mem) : ci_X10_isDigit.2.2.2.2 [v0] M = fin true ((dRet (dBo (dAnd (dCmp .ge (dLoc 0) (dInt 48)) (dCmp .le (dLoc 0) (dInt 57))))) [v0] M) := by
  have h : a_X10_isDigit.1.1 = (dRet (dBo (dAnd (dCmp .ge (dLoc 0) (dInt 48)) (dCmp .le (dLoc 0) (dInt 57))))) := by simp only [a_X10_isDigit, p_sSet, p_sInc, p_sPutF, p_sUpdF, p_sPutA, p_sUpdA, sDo, p_sCpy, p_sSeq, p_sIf, p_sIfE, p_sWh, p_sRet, p_sReV, p_sBlk, p_sSw, p_wDf, p_wCs, p_eInt, p_eLng, p_eNll, p_eStr, p_eSta, p_eLoc, p_eBin, p_eDiv, p_eI2L, p_eL2I, p_eFld, p_eAr, p_eRo, p_eLen, eCal, p_eMt, p_eAbs, p_eBo, p_eCon, p_aA0, p_aA1, p_oCmp, p_oCm0, p_oCmpL, p_oNul, p_oAnd, p_oOr, p_oNot]
  exact congrArg (fun z => fin true (z [v0] M)) h
set_option maxRecDepth 100000 in
theorem u_X8_failAt (v0 v1 : Int) (M : Mem) : ci_X8_failAt.2.2.2.2 [v0, v1] M = fin false ((dSeq (dIf (dCmp .eq (dFld wC 8 3 (dLoc 0)) (dInt (-1))) (dPutF wC 8 3 (dLoc 0) (dLoc 1)))
  dReV) [v0, v1] M) := by
  have h : a_X8_failAt.1.1 = (dSeq (dIf (dCmp .eq (dFld wC 8 3 (dLoc 0)) (dInt (-1))) (dPutF wC 8 3 (dLoc 0) (dLoc 1)))
  dReV) := by simp only [a_X8_failAt, p_sSet, p_sInc, p_sPutF, p_sUpdF, p_sPutA, p_sUpdA, sDo, p_sCpy, p_sSeq, p_sIf, p_sIfE, p_sWh, p_sRet, p_sReV, p_sBlk, p_sSw, p_wDf, p_wCs, p_eInt, p_eLng, p_eNll, p_eStr, p_eSta, p_eLoc, p_eBin, p_eDiv, p_eI2L, p_eL2I, p_eFld, p_eAr, p_eRo, p_eLen, eCal, p_eMt, p_eAbs, p_eBo, p_eCon, p_aA0, p_aA1, p_oCmp, p_oCm0, p_oCmpL, p_oNul, p_oAnd, p_oOr, p_oNot]
  exact congrArg (fun z => fin false (z [v0, v1] M)) h
set_option maxRecDepth 100000 in
theorem u_X8_fail (v0 : Int) (M : Mem) : ci_X8_fail.2.2.2.2 [v0] M = fin false ((dSeq (dDo wC ci_X8_failAt (dA1 (dA1 dA0 (dLoc 0)) (dFld wC 8 2 (dLoc 0))))
  dReV) [v0] M) := by
  have h : a_X8_fail.1.1 = (dSeq (dDo wC ci_X8_failAt (dA1 (dA1 dA0 (dLoc 0)) (dFld wC 8 2 (dLoc 0))))
  dReV) := by simp only [a_X8_fail, p_sSet, p_sInc, p_sPutF, p_sUpdF, p_sPutA, p_sUpdA, sDo, p_sCpy, p_sSeq, p_sIf, p_sIfE, p_sWh, p_sRet, p_sReV, p_sBlk, p_sSw, p_wDf, p_wCs, p_eInt, p_eLng, p_eNll, p_eStr, p_eSta, p_eLoc, p_eBin, p_eDiv, p_eI2L, p_eL2I, p_eFld, p_eAr, p_eRo, p_eLen, eCal, p_eMt, p_eAbs, p_eBo, p_eCon, p_aA0, p_aA1, p_oCmp, p_oCm0, p_oCmpL, p_oNul, p_oAnd, p_oOr, p_oNot]
  exact congrArg (fun z => fin false (z [v0] M)) h
set_option maxRecDepth 100000 in
theorem u_X10_at (v0 v1 : Int) (M : Mem) : ci_X10_at.2.2.2.2 [v0, v1] M = fin false ((dRet (dCon (dAnd (dCm0 .ge (dLoc 1)) (dCmp .lt (dLoc 1) (dLen wC 0 (dLoc 0)))) (dAr wC 0 (dLoc 0) (dLoc 1)) (dInt 0))) [v0, v1] M) := by
  have h : a_X10_at.1.1 = (dRet (dCon (dAnd (dCm0 .ge (dLoc 1)) (dCmp .lt (dLoc 1) (dLen wC 0 (dLoc 0)))) (dAr wC 0 (dLoc 0) (dLoc 1)) (dInt 0))) := by simp only [a_X10_at, p_sSet, p_sInc, p_sPutF, p_sUpdF, p_sPutA, p_sUpdA, sDo, p_sCpy, p_sSeq, p_sIf, p_sIfE, p_sWh, p_sRet, p_sReV, p_sBlk, p_sSw, p_wDf, p_wCs, p_eInt, p_eLng, p_eNll, p_eStr, p_eSta, p_eLoc, p_eBin, p_eDiv, p_eI2L, p_eL2I, p_eFld, p_eAr, p_eRo, p_eLen, eCal, p_eMt, p_eAbs, p_eBo, p_eCon, p_aA0, p_aA1, p_oCmp, p_oCm0, p_oCmpL, p_oNul, p_oAnd, p_oOr, p_oNot]
  exact congrArg (fun z => fin false (z [v0, v1] M)) h
noncomputable def wc1_X8_number : CoD := (dAnd (dCmp .lt (dFld wC 8 2 (dLoc 0)) (dFld wC 8 1 (dLoc 0))) (dCm0 .ne (dCal wC ci_X10_isDigit (dA1 dA0 (dCal wC ci_X10_at (dA1 (dA1 dA0 (dFld wC 8 0 (dLoc 0))) (dFld wC 8 2 (dLoc 0))))))))
noncomputable def wb1_X8_number : StD := (dSeq (dSeq (dIf (dCmp .eq (dBin (opF 1) (dFld wC 8 2 (dLoc 0)) (dLoc 3)) (dLoc 1)) (dSeq (dDo wC ci_X8_fail (dA1 dA0 (dLoc 0)))
  (dRet (dLoc 2))))
  (dSet 2 (dBin (opF 1) (dBin (opF 0) (dBin (opF 2) (dLoc 2) (dInt 10)) (dCal wC ci_X10_at (dA1 (dA1 dA0 (dFld wC 8 0 (dLoc 0))) (dFld wC 8 2 (dLoc 0))))) (dInt 48))))
  (dUpdF wC 0 8 2 (dLoc 0) (dInt 1)))
set_option maxRecDepth 100000 in
theorem u_X8_number (v0 v1 : Int) (M : Mem) : ci_X8_number.2.2.2.2 [v0, v1] M = fin false ((dSeq (dIf (dNot (dCm0 .ne (dCal wC ci_X10_isDigit (dA1 dA0 (dCal wC ci_X8_sign (dA1 dA0 (dLoc 0))))))) (dSeq (dDo wC ci_X8_fail (dA1 dA0 (dLoc 0)))
  (dRet (dInt 0))))
  (dSeq (dSet 2 (dInt 0))
  (dSeq (dSet 3 (dFld wC 8 2 (dLoc 0)))
  (dSeq (dWh (wc1_X8_number) (wb1_X8_number))
  (dRet (dLoc 2)))))) [v0, v1, 0, 0] M) := by
  have h : a_X8_number.1.1 = (dSeq (dIf (dNot (dCm0 .ne (dCal wC ci_X10_isDigit (dA1 dA0 (dCal wC ci_X8_sign (dA1 dA0 (dLoc 0))))))) (dSeq (dDo wC ci_X8_fail (dA1 dA0 (dLoc 0)))
  (dRet (dInt 0))))
  (dSeq (dSet 2 (dInt 0))
  (dSeq (dSet 3 (dFld wC 8 2 (dLoc 0)))
  (dSeq (dWh (wc1_X8_number) (wb1_X8_number))
  (dRet (dLoc 2)))))) := by simp only [a_X8_number, wc1_X8_number, wb1_X8_number, p_sSet, p_sInc, p_sPutF, p_sUpdF, p_sPutA, p_sUpdA, sDo, p_sCpy, p_sSeq, p_sIf, p_sIfE, p_sWh, p_sRet, p_sReV, p_sBlk, p_sSw, p_wDf, p_wCs, p_eInt, p_eLng, p_eNll, p_eStr, p_eSta, p_eLoc, p_eBin, p_eDiv, p_eI2L, p_eL2I, p_eFld, p_eAr, p_eRo, p_eLen, eCal, p_eMt, p_eAbs, p_eBo, p_eCon, p_aA0, p_aA1, p_oCmp, p_oCm0, p_oCmpL, p_oNul, p_oAnd, p_oOr, p_oNot]
  exact congrArg (fun z => fin false (z [v0, v1, 0, 0] M)) h
noncomputable def wc1_X6_items : CoD := (dCmp .lt (dLoc 7) (dCal wC ci_Slen (dA1 dA0 (dLoc 1))))
noncomputable def wb1_X6_items : StD := (dSeq (dSeq (dSet 8 (dCal wC ci_X10_placeIn (dA1 (dA1 dA0 (dLoc 1)) (dCal wC ci_X8_sign (dA1 dA0 (dLoc 0))))))
  (dSeq (dIf (dOr (dCmp .eq (dLoc 8) (dInt (-1))) (dCm0 .ne (dBin (opF 3) (dBin (opF 8) (dLoc 6) (dLoc 8)) (dInt 1)))) dReV)
  (dSeq (dSet 6 (dBin (opF 4) (dLoc 6) (dBin (opF 6) (dInt 1) (dLoc 8))))
  (dSeq (dDo wC ci_X8_step (dA1 dA0 (dLoc 0)))
  (dSeq (dSet 9 (dCal wC ci_X8_number (dA1 (dA1 dA0 (dLoc 0)) (dInt 2))))
  (dSeq (dIf (dOr (dCmp .lt (dLoc 9) (dCal wC ci_X10_at (dA1 (dA1 dA0 (dLoc 2)) (dLoc 8)))) (dCmp .gt (dLoc 9) (dCal wC ci_X10_at (dA1 (dA1 dA0 (dLoc 3)) (dLoc 8))))) (dDo wC ci_X8_failAt (dA1 (dA1 dA0 (dLoc 0)) (dBin (opF 1) (dFld wC 8 2 (dLoc 0)) (dInt 1)))))
  (dDo wC ci_X10_put (dA1 (dA1 (dA1 dA0 (dLoc 4)) (dBin (opF 0) (dLoc 5) (dLoc 8))) (dLoc 9)))))))))
  (dInc 7 1))
set_option maxRecDepth 100000 in
theorem u_X6_items (v0 v1 v2 v3 v4 v5 : Int) (M : Mem) : ci_X6_items.2.2.2.2 [v0, v1, v2, v3, v4, v5] M = fin false ((dSeq (dSeq (dSet 6 (dInt 0))
  (dSeq (dSet 7 (dInt 0))
  (dWh (wc1_X6_items) (wb1_X6_items))))
  dReV) [v0, v1, v2, v3, v4, v5, 0, 0, 0, 0] M) := by
  have h : a_X6_items.1.1 = (dSeq (dSeq (dSet 6 (dInt 0))
  (dSeq (dSet 7 (dInt 0))
  (dWh (wc1_X6_items) (wb1_X6_items))))
  dReV) := by simp only [a_X6_items, wc1_X6_items, wb1_X6_items, p_sSet, p_sInc, p_sPutF, p_sUpdF, p_sPutA, p_sUpdA, sDo, p_sCpy, p_sSeq, p_sIf, p_sIfE, p_sWh, p_sRet, p_sReV, p_sBlk, p_sSw, p_wDf, p_wCs, p_eInt, p_eLng, p_eNll, p_eStr, p_eSta, p_eLoc, p_eBin, p_eDiv, p_eI2L, p_eL2I, p_eFld, p_eAr, p_eRo, p_eLen, eCal, p_eMt, p_eAbs, p_eBo, p_eCon, p_aA0, p_aA1, p_oCmp, p_oCm0, p_oCmpL, p_oNul, p_oAnd, p_oOr, p_oNot]
  exact congrArg (fun z => fin false (z [v0, v1, v2, v3, v4, v5, 0, 0, 0, 0] M)) h
set_option maxRecDepth 100000 in
theorem u_X6_clause (v0 v1 : Int) (M : Mem) : ci_X6_clause.2.2.2.2 [v0, v1] M = fin false ((dSeq (dSeq (dSet 2 (dCal wC ci_X8_sign (dA1 dA0 (dLoc 1))))
  (dIfE (dAnd (dCmp .eq (dLoc 2) (dInt 115)) (dNot (dCm0 .ne (dFld wC 6 3 (dLoc 0))))) (dSeq (dPutF wC 6 3 (dLoc 0) (dInt 1))
  (dSeq (dDo wC ci_X8_step (dA1 dA0 (dLoc 1)))
  (dDo wC ci_X6_items (dA1 (dA1 (dA1 (dA1 (dA1 (dA1 dA0 (dLoc 1)) (dInt ((62 : Nat) : Int))) (dInt ((52 : Nat) : Int))) (dInt ((53 : Nat) : Int))) (dFld wC 6 0 (dLoc 0))) (dInt 0)))))
  (dIfE (dAnd (dCmp .eq (dLoc 2) (dInt 108)) (dCmp .lt (dFld wC 6 4 (dLoc 0)) (dInt 8))) (dSeq (dSet 3 (dBin (opF 2) (dFld wC 6 4 (dLoc 0)) (dInt 5)))
  (dSeq (dUpdF wC 0 6 4 (dLoc 0) (dInt 1))
  (dSeq (dDo wC ci_X8_step (dA1 dA0 (dLoc 1)))
  (dSeq (dDo wC ci_X10_move (dA1 (dA1 (dA1 (dA1 (dA1 dA0 (dInt ((57 : Nat) : Int))) (dInt 0)) (dFld wC 6 1 (dLoc 0))) (dLoc 3)) (dInt 5)))
  (dDo wC ci_X6_items (dA1 (dA1 (dA1 (dA1 (dA1 (dA1 dA0 (dLoc 1)) (dInt ((63 : Nat) : Int))) (dInt ((55 : Nat) : Int))) (dInt ((56 : Nat) : Int))) (dFld wC 6 1 (dLoc 0))) (dLoc 3)))))))
  (dIfE (dAnd (dCmp .eq (dLoc 2) (dInt 119)) (dCmp .lt (dFld wC 6 5 (dLoc 0)) (dInt 9))) (dSeq (dSet 3 (dBin (opF 2) (dFld wC 6 5 (dLoc 0)) (dInt 3)))
  (dSeq (dUpdF wC 0 6 5 (dLoc 0) (dInt 1))
  (dSeq (dDo wC ci_X8_step (dA1 dA0 (dLoc 1)))
  (dSeq (dDo wC ci_X10_move (dA1 (dA1 (dA1 (dA1 (dA1 dA0 (dInt ((60 : Nat) : Int))) (dInt 0)) (dFld wC 6 2 (dLoc 0))) (dLoc 3)) (dInt 3)))
  (dDo wC ci_X6_items (dA1 (dA1 (dA1 (dA1 (dA1 (dA1 dA0 (dLoc 1)) (dInt ((64 : Nat) : Int))) (dInt ((58 : Nat) : Int))) (dInt ((59 : Nat) : Int))) (dFld wC 6 2 (dLoc 0))) (dLoc 3)))))))
  (dDo wC ci_X8_fail (dA1 dA0 (dLoc 1)))))))
  dReV) [v0, v1, 0, 0] M) := by
  have h : a_X6_clause.1.1 = (dSeq (dSeq (dSet 2 (dCal wC ci_X8_sign (dA1 dA0 (dLoc 1))))
  (dIfE (dAnd (dCmp .eq (dLoc 2) (dInt 115)) (dNot (dCm0 .ne (dFld wC 6 3 (dLoc 0))))) (dSeq (dPutF wC 6 3 (dLoc 0) (dInt 1))
  (dSeq (dDo wC ci_X8_step (dA1 dA0 (dLoc 1)))
  (dDo wC ci_X6_items (dA1 (dA1 (dA1 (dA1 (dA1 (dA1 dA0 (dLoc 1)) (dInt ((62 : Nat) : Int))) (dInt ((52 : Nat) : Int))) (dInt ((53 : Nat) : Int))) (dFld wC 6 0 (dLoc 0))) (dInt 0)))))
  (dIfE (dAnd (dCmp .eq (dLoc 2) (dInt 108)) (dCmp .lt (dFld wC 6 4 (dLoc 0)) (dInt 8))) (dSeq (dSet 3 (dBin (opF 2) (dFld wC 6 4 (dLoc 0)) (dInt 5)))
  (dSeq (dUpdF wC 0 6 4 (dLoc 0) (dInt 1))
  (dSeq (dDo wC ci_X8_step (dA1 dA0 (dLoc 1)))
  (dSeq (dDo wC ci_X10_move (dA1 (dA1 (dA1 (dA1 (dA1 dA0 (dInt ((57 : Nat) : Int))) (dInt 0)) (dFld wC 6 1 (dLoc 0))) (dLoc 3)) (dInt 5)))
  (dDo wC ci_X6_items (dA1 (dA1 (dA1 (dA1 (dA1 (dA1 dA0 (dLoc 1)) (dInt ((63 : Nat) : Int))) (dInt ((55 : Nat) : Int))) (dInt ((56 : Nat) : Int))) (dFld wC 6 1 (dLoc 0))) (dLoc 3)))))))
  (dIfE (dAnd (dCmp .eq (dLoc 2) (dInt 119)) (dCmp .lt (dFld wC 6 5 (dLoc 0)) (dInt 9))) (dSeq (dSet 3 (dBin (opF 2) (dFld wC 6 5 (dLoc 0)) (dInt 3)))
  (dSeq (dUpdF wC 0 6 5 (dLoc 0) (dInt 1))
  (dSeq (dDo wC ci_X8_step (dA1 dA0 (dLoc 1)))
  (dSeq (dDo wC ci_X10_move (dA1 (dA1 (dA1 (dA1 (dA1 dA0 (dInt ((60 : Nat) : Int))) (dInt 0)) (dFld wC 6 2 (dLoc 0))) (dLoc 3)) (dInt 3)))
  (dDo wC ci_X6_items (dA1 (dA1 (dA1 (dA1 (dA1 (dA1 dA0 (dLoc 1)) (dInt ((64 : Nat) : Int))) (dInt ((58 : Nat) : Int))) (dInt ((59 : Nat) : Int))) (dFld wC 6 2 (dLoc 0))) (dLoc 3)))))))
  (dDo wC ci_X8_fail (dA1 dA0 (dLoc 1)))))))
  dReV) := by simp only [a_X6_clause, p_sSet, p_sInc, p_sPutF, p_sUpdF, p_sPutA, p_sUpdA, sDo, p_sCpy, p_sSeq, p_sIf, p_sIfE, p_sWh, p_sRet, p_sReV, p_sBlk, p_sSw, p_wDf, p_wCs, p_eInt, p_eLng, p_eNll, p_eStr, p_eSta, p_eLoc, p_eBin, p_eDiv, p_eI2L, p_eL2I, p_eFld, p_eAr, p_eRo, p_eLen, eCal, p_eMt, p_eAbs, p_eBo, p_eCon, p_aA0, p_aA1, p_oCmp, p_oCm0, p_oCmpL, p_oNul, p_oAnd, p_oOr, p_oNot]
  exact congrArg (fun z => fin false (z [v0, v1, 0, 0] M)) h
set_option maxRecDepth 100000 in
theorem u_X8_wantOver (v0 : Int) (M : Mem) : ci_X8_wantOver.2.2.2.2 [v0] M = fin false ((dSeq (dIf (dCmp .ne (dCal wC ci_X8_sign (dA1 dA0 (dLoc 0))) (dInt (-1))) (dDo wC ci_X8_fail (dA1 dA0 (dLoc 0))))
  dReV) [v0] M) := by
  have h : a_X8_wantOver.1.1 = (dSeq (dIf (dCmp .ne (dCal wC ci_X8_sign (dA1 dA0 (dLoc 0))) (dInt (-1))) (dDo wC ci_X8_fail (dA1 dA0 (dLoc 0))))
  dReV) := by simp only [a_X8_wantOver, p_sSet, p_sInc, p_sPutF, p_sUpdF, p_sPutA, p_sUpdA, sDo, p_sCpy, p_sSeq, p_sIf, p_sIfE, p_sWh, p_sRet, p_sReV, p_sBlk, p_sSw, p_wDf, p_wCs, p_eInt, p_eLng, p_eNll, p_eStr, p_eSta, p_eLoc, p_eBin, p_eDiv, p_eI2L, p_eL2I, p_eFld, p_eAr, p_eRo, p_eLen, eCal, p_eMt, p_eAbs, p_eBo, p_eCon, p_aA0, p_aA1, p_oCmp, p_oCm0, p_oCmpL, p_oNul, p_oAnd, p_oOr, p_oNot]
  exact congrArg (fun z => fin false (z [v0] M)) h
set_option maxRecDepth 100000 in
theorem u_X6_item (v0 v1 v2 : Int) (M : Mem) : ci_X6_item.2.2.2.2 [v0, v1, v2] M = fin false ((dRet (dCal wC ci_X10_at (dA1 (dA1 dA0 (dFld wC 6 1 (dLoc 0))) (dBin (opF 0) (dBin (opF 2) (dLoc 1) (dInt 5)) (dLoc 2))))) [v0, v1, v2] M) := by
  have h : a_X6_item.1.1 = (dRet (dCal wC ci_X10_at (dA1 (dA1 dA0 (dFld wC 6 1 (dLoc 0))) (dBin (opF 0) (dBin (opF 2) (dLoc 1) (dInt 5)) (dLoc 2))))) := by simp only [a_X6_item, p_sSet, p_sInc, p_sPutF, p_sUpdF, p_sPutA, p_sUpdA, sDo, p_sCpy, p_sSeq, p_sIf, p_sIfE, p_sWh, p_sRet, p_sReV, p_sBlk, p_sSw, p_wDf, p_wCs, p_eInt, p_eLng, p_eNll, p_eStr, p_eSta, p_eLoc, p_eBin, p_eDiv, p_eI2L, p_eL2I, p_eFld, p_eAr, p_eRo, p_eLen, eCal, p_eMt, p_eAbs, p_eBo, p_eCon, p_aA0, p_aA1, p_oCmp, p_oCm0, p_oCmpL, p_oNul, p_oAnd, p_oOr, p_oNot]
  exact congrArg (fun z => fin false (z [v0, v1, v2] M)) h
noncomputable def wc1_X6_isWhole : CoD := (dCmp .lt (dLoc 2) (dFld wC 6 4 (dLoc 0)))
noncomputable def wb1_X6_isWhole : StD := (dSeq (dSeq (dSet 3 (dCal wC ci_X6_item (dA1 (dA1 (dA1 dA0 (dLoc 0)) (dLoc 2)) (dInt 3))))
  (dSeq (dSet 4 (dBo (dOr (dCmp .eq (dLoc 3) (dInt 8)) (dAnd (dCmp .lt (dLoc 3) (dFld wC 6 4 (dLoc 0))) (dCmp .ne (dLoc 3) (dLoc 2))))))
  (dSet 1 (dBo (dAnd (dAnd (dCm0 .ne (dLoc 1)) (dCm0 .ne (dLoc 4))) (dCmp .le (dCal wC ci_X6_item (dA1 (dA1 (dA1 dA0 (dLoc 0)) (dLoc 2)) (dInt 1))) (dCal wC ci_X6_item (dA1 (dA1 (dA1 dA0 (dLoc 0)) (dLoc 2)) (dInt 0)))))))))
  (dInc 2 1))
noncomputable def wc2_X6_isWhole : CoD := (dCmp .lt (dLoc 2) (dFld wC 6 5 (dLoc 0)))
noncomputable def wb2_X6_isWhole : StD := (dSeq (dSet 1 (dBo (dAnd (dCm0 .ne (dLoc 1)) (dCmp .ne (dCal wC ci_X10_at (dA1 (dA1 dA0 (dFld wC 6 2 (dLoc 0))) (dBin (opF 2) (dLoc 2) (dInt 3)))) (dCal wC ci_X10_at (dA1 (dA1 dA0 (dFld wC 6 2 (dLoc 0))) (dBin (opF 0) (dBin (opF 2) (dLoc 2) (dInt 3)) (dInt 1))))))))
  (dInc 2 1))
set_option maxRecDepth 100000 in
theorem u_X6_isWhole (v0 : Int) (M : Mem) : ci_X6_isWhole.2.2.2.2 [v0] M = fin true ((dSeq (dSet 1 (dBo (dCmp .ge (dFld wC 6 4 (dLoc 0)) (dInt 2))))
  (dSeq (dSeq (dSet 2 (dInt 0))
  (dWh (wc1_X6_isWhole) (wb1_X6_isWhole)))
  (dSeq (dSeq (dSet 2 (dInt 0))
  (dWh (wc2_X6_isWhole) (wb2_X6_isWhole)))
  (dRet (dLoc 1))))) [v0, 0, 0, 0, 0] M) := by
  have h : a_X6_isWhole.1.1 = (dSeq (dSet 1 (dBo (dCmp .ge (dFld wC 6 4 (dLoc 0)) (dInt 2))))
  (dSeq (dSeq (dSet 2 (dInt 0))
  (dWh (wc1_X6_isWhole) (wb1_X6_isWhole)))
  (dSeq (dSeq (dSet 2 (dInt 0))
  (dWh (wc2_X6_isWhole) (wb2_X6_isWhole)))
  (dRet (dLoc 1))))) := by simp only [a_X6_isWhole, wc1_X6_isWhole, wb1_X6_isWhole, wc2_X6_isWhole, wb2_X6_isWhole, p_sSet, p_sInc, p_sPutF, p_sUpdF, p_sPutA, p_sUpdA, sDo, p_sCpy, p_sSeq, p_sIf, p_sIfE, p_sWh, p_sRet, p_sReV, p_sBlk, p_sSw, p_wDf, p_wCs, p_eInt, p_eLng, p_eNll, p_eStr, p_eSta, p_eLoc, p_eBin, p_eDiv, p_eI2L, p_eL2I, p_eFld, p_eAr, p_eRo, p_eLen, eCal, p_eMt, p_eAbs, p_eBo, p_eCon, p_aA0, p_aA1, p_oCmp, p_oCm0, p_oCmpL, p_oNul, p_oAnd, p_oOr, p_oNot]
  exact congrArg (fun z => fin true (z [v0, 0, 0, 0, 0] M)) h
noncomputable def wc1_X6_read : CoD := (dAnd (dCmp .lt (dLoc 2) (dInt 240)) (dCmp .eq (dCal wC ci_X8_sign (dA1 dA0 (dLoc 1))) (dInt 59)))
noncomputable def wb1_X6_read : StD := (dSeq (dSeq (dDo wC ci_X8_step (dA1 dA0 (dLoc 1)))
  (dDo wC ci_X6_clause (dA1 (dA1 dA0 (dLoc 0)) (dLoc 1))))
  (dInc 2 1))
set_option maxRecDepth 100000 in
theorem u_X6_read (v0 v1 : Int) (M : Mem) : ci_X6_read.2.2.2.2 [v0, v1] M = fin false ((dSeq (dDo wC ci_X8_begin (dA1 dA0 (dLoc 1)))
  (dSeq (dPutF wC 6 3 (dLoc 0) (dInt 0))
  (dSeq (dPutF wC 6 4 (dLoc 0) (dInt 0))
  (dSeq (dPutF wC 6 5 (dLoc 0) (dInt 0))
  (dSeq (dDo wC ci_X10_move (dA1 (dA1 (dA1 (dA1 (dA1 dA0 (dInt ((54 : Nat) : Int))) (dInt 0)) (dFld wC 6 0 (dLoc 0))) (dInt 0)) (dLen wC 0 (dInt ((54 : Nat) : Int)))))
  (dSeq (dDo wC ci_X6_clause (dA1 (dA1 dA0 (dLoc 0)) (dLoc 1)))
  (dSeq (dSeq (dSet 2 (dInt 0))
  (dWh (wc1_X6_read) (wb1_X6_read)))
  (dSeq (dDo wC ci_X8_wantOver (dA1 dA0 (dLoc 1)))
  (dSeq (dIf (dNot (dCm0 .ne (dCal wC ci_X6_isWhole (dA1 dA0 (dLoc 0))))) (dDo wC ci_X8_failAt (dA1 (dA1 dA0 (dLoc 1)) (dFld wC 8 1 (dLoc 1)))))
  (dRet (dFld wC 8 3 (dLoc 1)))))))))))) [v0, v1, 0] M) := by
  have h : a_X6_read.1.1 = (dSeq (dDo wC ci_X8_begin (dA1 dA0 (dLoc 1)))
  (dSeq (dPutF wC 6 3 (dLoc 0) (dInt 0))
  (dSeq (dPutF wC 6 4 (dLoc 0) (dInt 0))
  (dSeq (dPutF wC 6 5 (dLoc 0) (dInt 0))
  (dSeq (dDo wC ci_X10_move (dA1 (dA1 (dA1 (dA1 (dA1 dA0 (dInt ((54 : Nat) : Int))) (dInt 0)) (dFld wC 6 0 (dLoc 0))) (dInt 0)) (dLen wC 0 (dInt ((54 : Nat) : Int)))))
  (dSeq (dDo wC ci_X6_clause (dA1 (dA1 dA0 (dLoc 0)) (dLoc 1)))
  (dSeq (dSeq (dSet 2 (dInt 0))
  (dWh (wc1_X6_read) (wb1_X6_read)))
  (dSeq (dDo wC ci_X8_wantOver (dA1 dA0 (dLoc 1)))
  (dSeq (dIf (dNot (dCm0 .ne (dCal wC ci_X6_isWhole (dA1 dA0 (dLoc 0))))) (dDo wC ci_X8_failAt (dA1 (dA1 dA0 (dLoc 1)) (dFld wC 8 1 (dLoc 1)))))
  (dRet (dFld wC 8 3 (dLoc 1)))))))))))) := by simp only [a_X6_read, wc1_X6_read, wb1_X6_read, p_sSet, p_sInc, p_sPutF, p_sUpdF, p_sPutA, p_sUpdA, sDo, p_sCpy, p_sSeq, p_sIf, p_sIfE, p_sWh, p_sRet, p_sReV, p_sBlk, p_sSw, p_wDf, p_wCs, p_eInt, p_eLng, p_eNll, p_eStr, p_eSta, p_eLoc, p_eBin, p_eDiv, p_eI2L, p_eL2I, p_eFld, p_eAr, p_eRo, p_eLen, eCal, p_eMt, p_eAbs, p_eBo, p_eCon, p_aA0, p_aA1, p_oCmp, p_oCm0, p_oCmpL, p_oNul, p_oAnd, p_oOr, p_oNot]
  exact congrArg (fun z => fin false (z [v0, v1, 0] M)) h
set_option maxRecDepth 100000 in
theorem u_X8_want (v0 v1 : Int) (M : Mem) : ci_X8_want.2.2.2.2 [v0, v1] M = fin false ((dSeq (dIfE (dCmp .eq (dCal wC ci_X8_sign (dA1 dA0 (dLoc 0))) (dLoc 1)) (dDo wC ci_X8_step (dA1 dA0 (dLoc 0)))
  (dDo wC ci_X8_fail (dA1 dA0 (dLoc 0))))
  dReV) [v0, v1] M) := by
  have h : a_X8_want.1.1 = (dSeq (dIfE (dCmp .eq (dCal wC ci_X8_sign (dA1 dA0 (dLoc 0))) (dLoc 1)) (dDo wC ci_X8_step (dA1 dA0 (dLoc 0)))
  (dDo wC ci_X8_fail (dA1 dA0 (dLoc 0))))
  dReV) := by simp only [a_X8_want, p_sSet, p_sInc, p_sPutF, p_sUpdF, p_sPutA, p_sUpdA, sDo, p_sCpy, p_sSeq, p_sIf, p_sIfE, p_sWh, p_sRet, p_sReV, p_sBlk, p_sSw, p_wDf, p_wCs, p_eInt, p_eLng, p_eNll, p_eStr, p_eSta, p_eLoc, p_eBin, p_eDiv, p_eI2L, p_eL2I, p_eFld, p_eAr, p_eRo, p_eLen, eCal, p_eMt, p_eAbs, p_eBo, p_eCon, p_aA0, p_aA1, p_oCmp, p_oCm0, p_oCmpL, p_oNul, p_oAnd, p_oOr, p_oNot]
  exact congrArg (fun z => fin false (z [v0, v1] M)) h
set_option maxRecDepth 100000 in
theorem u_X3_write (v0 v1 : Int) (M : Mem) : ci_X3_write.2.2.2.2 [v0, v1] M = fin false ((dSeq (dSeq (dDo wC ci_X10_put (dA1 (dA1 (dA1 dA0 (dFld wC 3 0 (dLoc 0))) (dFld wC 3 1 (dLoc 0))) (dLoc 1)))
  (dUpdF wC 0 3 1 (dLoc 0) (dInt 1)))
  dReV) [v0, v1] M) := by
  have h : a_X3_write.1.1 = (dSeq (dSeq (dDo wC ci_X10_put (dA1 (dA1 (dA1 dA0 (dFld wC 3 0 (dLoc 0))) (dFld wC 3 1 (dLoc 0))) (dLoc 1)))
  (dUpdF wC 0 3 1 (dLoc 0) (dInt 1)))
  dReV) := by simp only [a_X3_write, p_sSet, p_sInc, p_sPutF, p_sUpdF, p_sPutA, p_sUpdA, sDo, p_sCpy, p_sSeq, p_sIf, p_sIfE, p_sWh, p_sRet, p_sReV, p_sBlk, p_sSw, p_wDf, p_wCs, p_eInt, p_eLng, p_eNll, p_eStr, p_eSta, p_eLoc, p_eBin, p_eDiv, p_eI2L, p_eL2I, p_eFld, p_eAr, p_eRo, p_eLen, eCal, p_eMt, p_eAbs, p_eBo, p_eCon, p_aA0, p_aA1, p_oCmp, p_oCm0, p_oCmpL, p_oNul, p_oAnd, p_oOr, p_oNot]
  exact congrArg (fun z => fin false (z [v0, v1] M)) h
set_option maxRecDepth 100000 in
theorem u_X3_mayNest (v0 v1 : Int) (M : Mem) : ci_X3_mayNest.2.2.2.2 [v0, v1] M = fin true ((dSeq (dIf (dCmp .ge (dLoc 1) (dInt 6)) (dSeq (dDo wC ci_X8_fail (dA1 dA0 (dLoc 0)))
  (dRet (dInt 0))))
  (dSeq (dDo wC ci_X8_step (dA1 dA0 (dLoc 0)))
  (dRet (dInt 1)))) [v0, v1] M) := by
  have h : a_X3_mayNest.1.1 = (dSeq (dIf (dCmp .ge (dLoc 1) (dInt 6)) (dSeq (dDo wC ci_X8_fail (dA1 dA0 (dLoc 0)))
  (dRet (dInt 0))))
  (dSeq (dDo wC ci_X8_step (dA1 dA0 (dLoc 0)))
  (dRet (dInt 1)))) := by simp only [a_X3_mayNest, p_sSet, p_sInc, p_sPutF, p_sUpdF, p_sPutA, p_sUpdA, sDo, p_sCpy, p_sSeq, p_sIf, p_sIfE, p_sWh, p_sRet, p_sReV, p_sBlk, p_sSw, p_wDf, p_wCs, p_eInt, p_eLng, p_eNll, p_eStr, p_eSta, p_eLoc, p_eBin, p_eDiv, p_eI2L, p_eL2I, p_eFld, p_eAr, p_eRo, p_eLen, eCal, p_eMt, p_eAbs, p_eBo, p_eCon, p_aA0, p_aA1, p_oCmp, p_oCm0, p_oCmpL, p_oNul, p_oAnd, p_oOr, p_oNot]
  exact congrArg (fun z => fin true (z [v0, v1] M)) h
set_option maxRecDepth 100000 in
theorem u_X3_atom (d : Nat) (v0 v1 v2 : Int) (M : Mem) : grp_X3_sum (d + 1) 0 [v0, v1, v2] M = fin false ((dSeq (dSeq (dSet 3 (dCal wC ci_X8_sign (dA1 dA0 (dLoc 1))))
  (dSeq (dSet 4 (dCal wC ci_X10_placeIn (dA1 (dA1 dA0 (dInt ((65 : Nat) : Int))) (dLoc 3))))
  (dIfE (dCm0 .ne (dCal wC ci_X10_isDigit (dA1 dA0 (dLoc 3)))) (dDo wC ci_X3_write (dA1 (dA1 dA0 (dLoc 0)) (dCal wC ci_X8_number (dA1 (dA1 dA0 (dLoc 1)) (dInt 4)))))
  (dIfE (dCmp .ne (dLoc 4) (dInt (-1))) (dSeq (dDo wC ci_X8_step (dA1 dA0 (dLoc 1)))
  (dDo wC ci_X3_write (dA1 (dA1 dA0 (dLoc 0)) (dBin (opF 0) (dInt 20000) (dLoc 4)))))
  (dIfE (dCmp .ne (dLoc 3) (dInt 91)) (dDo wC ci_X8_fail (dA1 dA0 (dLoc 1)))
  (dIf (dCm0 .ne (dCal wC ci_X3_mayNest (dA1 (dA1 dA0 (dLoc 1)) (dLoc 2)))) (dSeq (dDo wC (ci_X3_sum (grp_X3_sum d)) (dA1 (dA1 (dA1 dA0 (dLoc 0)) (dLoc 1)) (dBin (opF 0) (dLoc 2) (dInt 1))))
  (dDo wC ci_X8_want (dA1 (dA1 dA0 (dLoc 1)) (dInt 93))))))))))
  dReV) [v0, v1, v2, 0, 0] M) := by
  have h : (a_X3_atom (grp_X3_sum d)).1.1 = (dSeq (dSeq (dSet 3 (dCal wC ci_X8_sign (dA1 dA0 (dLoc 1))))
  (dSeq (dSet 4 (dCal wC ci_X10_placeIn (dA1 (dA1 dA0 (dInt ((65 : Nat) : Int))) (dLoc 3))))
  (dIfE (dCm0 .ne (dCal wC ci_X10_isDigit (dA1 dA0 (dLoc 3)))) (dDo wC ci_X3_write (dA1 (dA1 dA0 (dLoc 0)) (dCal wC ci_X8_number (dA1 (dA1 dA0 (dLoc 1)) (dInt 4)))))
  (dIfE (dCmp .ne (dLoc 4) (dInt (-1))) (dSeq (dDo wC ci_X8_step (dA1 dA0 (dLoc 1)))
  (dDo wC ci_X3_write (dA1 (dA1 dA0 (dLoc 0)) (dBin (opF 0) (dInt 20000) (dLoc 4)))))
  (dIfE (dCmp .ne (dLoc 3) (dInt 91)) (dDo wC ci_X8_fail (dA1 dA0 (dLoc 1)))
  (dIf (dCm0 .ne (dCal wC ci_X3_mayNest (dA1 (dA1 dA0 (dLoc 1)) (dLoc 2)))) (dSeq (dDo wC (ci_X3_sum (grp_X3_sum d)) (dA1 (dA1 (dA1 dA0 (dLoc 0)) (dLoc 1)) (dBin (opF 0) (dLoc 2) (dInt 1))))
  (dDo wC ci_X8_want (dA1 (dA1 dA0 (dLoc 1)) (dInt 93))))))))))
  dReV) := by simp only [a_X3_atom, p_sSet, p_sInc, p_sPutF, p_sUpdF, p_sPutA, p_sUpdA, sDo, p_sCpy, p_sSeq, p_sIf, p_sIfE, p_sWh, p_sRet, p_sReV, p_sBlk, p_sSw, p_wDf, p_wCs, p_eInt, p_eLng, p_eNll, p_eStr, p_eSta, p_eLoc, p_eBin, p_eDiv, p_eI2L, p_eL2I, p_eFld, p_eAr, p_eRo, p_eLen, eCal, p_eMt, p_eAbs, p_eBo, p_eCon, p_aA0, p_aA1, p_oCmp, p_oCm0, p_oCmpL, p_oNul, p_oAnd, p_oOr, p_oNot]
  exact congrArg (fun z => fin false (z [v0, v1, v2, 0, 0] M)) h
set_option maxRecDepth 100000 in
theorem g_X3_atom (d : Nat) : (ci_X3_atom (grp_X3_sum d)).2.2.2.2 = grp_X3_sum d 0 := rfl
noncomputable def wc1_X3_sum (D : Nat → Den) : CoD := (dAnd (dCmp .lt (dLoc 4) (dInt 240)) (dOr (dCmp .eq (dLoc 3) (dInt 43)) (dCmp .eq (dLoc 3) (dInt 45))))
noncomputable def wb1_X3_sum (D : Nat → Den) : StD := (dSeq (dSeq (dDo wC ci_X8_step (dA1 dA0 (dLoc 1)))
  (dSeq (dDo wC (ci_X3_term D) (dA1 (dA1 (dA1 dA0 (dLoc 0)) (dLoc 1)) (dLoc 2)))
  (dSeq (dDo wC ci_X3_write (dA1 (dA1 dA0 (dLoc 0)) (dBin (opF 0) (dInt 10000) (dLoc 3))))
  (dSet 3 (dCal wC ci_X8_sign (dA1 dA0 (dLoc 1)))))))
  (dInc 4 1))
set_option maxRecDepth 100000 in
theorem u_X3_sum (d : Nat) (v0 v1 v2 : Int) (M : Mem) : grp_X3_sum (d + 1) 1 [v0, v1, v2] M = fin false ((dSeq (dSeq (dDo wC (ci_X3_term (grp_X3_sum d)) (dA1 (dA1 (dA1 dA0 (dLoc 0)) (dLoc 1)) (dLoc 2)))
  (dSeq (dSet 3 (dCal wC ci_X8_sign (dA1 dA0 (dLoc 1))))
  (dSeq (dSet 4 (dInt 0))
  (dWh (wc1_X3_sum (grp_X3_sum d)) (wb1_X3_sum (grp_X3_sum d))))))
  dReV) [v0, v1, v2, 0, 0] M) := by
  have h : (a_X3_sum (grp_X3_sum d)).1.1 = (dSeq (dSeq (dDo wC (ci_X3_term (grp_X3_sum d)) (dA1 (dA1 (dA1 dA0 (dLoc 0)) (dLoc 1)) (dLoc 2)))
  (dSeq (dSet 3 (dCal wC ci_X8_sign (dA1 dA0 (dLoc 1))))
  (dSeq (dSet 4 (dInt 0))
  (dWh (wc1_X3_sum (grp_X3_sum d)) (wb1_X3_sum (grp_X3_sum d))))))
  dReV) := by simp only [a_X3_sum, wc1_X3_sum, wb1_X3_sum, p_sSet, p_sInc, p_sPutF, p_sUpdF, p_sPutA, p_sUpdA, sDo, p_sCpy, p_sSeq, p_sIf, p_sIfE, p_sWh, p_sRet, p_sReV, p_sBlk, p_sSw, p_wDf, p_wCs, p_eInt, p_eLng, p_eNll, p_eStr, p_eSta, p_eLoc, p_eBin, p_eDiv, p_eI2L, p_eL2I, p_eFld, p_eAr, p_eRo, p_eLen, eCal, p_eMt, p_eAbs, p_eBo, p_eCon, p_aA0, p_aA1, p_oCmp, p_oCm0, p_oCmpL, p_oNul, p_oAnd, p_oOr, p_oNot]
  exact congrArg (fun z => fin false (z [v0, v1, v2, 0, 0] M)) h
set_option maxRecDepth 100000 in
theorem g_X3_sum (d : Nat) : (ci_X3_sum (grp_X3_sum d)).2.2.2.2 = grp_X3_sum d 1 := rfl
noncomputable def wc1_X3_term (D : Nat → Den) : CoD := (dAnd (dCmp .lt (dLoc 4) (dInt 240)) (dOr (dCmp .eq (dLoc 3) (dInt 42)) (dCmp .eq (dLoc 3) (dInt 47))))
noncomputable def wb1_X3_term (D : Nat → Den) : StD := (dSeq (dSeq (dDo wC ci_X8_step (dA1 dA0 (dLoc 1)))
  (dSeq (dDo wC (ci_X3_atom D) (dA1 (dA1 (dA1 dA0 (dLoc 0)) (dLoc 1)) (dLoc 2)))
  (dSeq (dDo wC ci_X3_write (dA1 (dA1 dA0 (dLoc 0)) (dBin (opF 0) (dInt 10000) (dLoc 3))))
  (dSet 3 (dCal wC ci_X8_sign (dA1 dA0 (dLoc 1)))))))
  (dInc 4 1))
set_option maxRecDepth 100000 in
theorem u_X3_term (d : Nat) (v0 v1 v2 : Int) (M : Mem) : grp_X3_sum (d + 1) 2 [v0, v1, v2] M = fin false ((dSeq (dSeq (dDo wC (ci_X3_atom (grp_X3_sum d)) (dA1 (dA1 (dA1 dA0 (dLoc 0)) (dLoc 1)) (dLoc 2)))
  (dSeq (dSet 3 (dCal wC ci_X8_sign (dA1 dA0 (dLoc 1))))
  (dSeq (dSet 4 (dInt 0))
  (dWh (wc1_X3_term (grp_X3_sum d)) (wb1_X3_term (grp_X3_sum d))))))
  dReV) [v0, v1, v2, 0, 0] M) := by
  have h : (a_X3_term (grp_X3_sum d)).1.1 = (dSeq (dSeq (dDo wC (ci_X3_atom (grp_X3_sum d)) (dA1 (dA1 (dA1 dA0 (dLoc 0)) (dLoc 1)) (dLoc 2)))
  (dSeq (dSet 3 (dCal wC ci_X8_sign (dA1 dA0 (dLoc 1))))
  (dSeq (dSet 4 (dInt 0))
  (dWh (wc1_X3_term (grp_X3_sum d)) (wb1_X3_term (grp_X3_sum d))))))
  dReV) := by simp only [a_X3_term, wc1_X3_term, wb1_X3_term, p_sSet, p_sInc, p_sPutF, p_sUpdF, p_sPutA, p_sUpdA, sDo, p_sCpy, p_sSeq, p_sIf, p_sIfE, p_sWh, p_sRet, p_sReV, p_sBlk, p_sSw, p_wDf, p_wCs, p_eInt, p_eLng, p_eNll, p_eStr, p_eSta, p_eLoc, p_eBin, p_eDiv, p_eI2L, p_eL2I, p_eFld, p_eAr, p_eRo, p_eLen, eCal, p_eMt, p_eAbs, p_eBo, p_eCon, p_aA0, p_aA1, p_oCmp, p_oCm0, p_oCmpL, p_oNul, p_oAnd, p_oOr, p_oNot]
  exact congrArg (fun z => fin false (z [v0, v1, v2, 0, 0] M)) h
set_option maxRecDepth 100000 in
theorem g_X3_term (d : Nat) : (ci_X3_term (grp_X3_sum d)).2.2.2.2 = grp_X3_sum d 2 := rfl
set_option maxRecDepth 100000 in
theorem u_X3_isRelation (v0 : Int) (M : Mem) : ci_X3_isRelation.2.2.2.2 [v0] M = fin true ((dRet (dBo (dOr (dOr (dCmp .eq (dLoc 0) (dInt 61)) (dCmp .eq (dLoc 0) (dInt 60))) (dCmp .eq (dLoc 0) (dInt 62))))) [v0] M) := by
  have h : a_X3_isRelation.1.1 = (dRet (dBo (dOr (dOr (dCmp .eq (dLoc 0) (dInt 61)) (dCmp .eq (dLoc 0) (dInt 60))) (dCmp .eq (dLoc 0) (dInt 62))))) := by simp only [a_X3_isRelation, p_sSet, p_sInc, p_sPutF, p_sUpdF, p_sPutA, p_sUpdA, sDo, p_sCpy, p_sSeq, p_sIf, p_sIfE, p_sWh, p_sRet, p_sReV, p_sBlk, p_sSw, p_wDf, p_wCs, p_eInt, p_eLng, p_eNll, p_eStr, p_eSta, p_eLoc, p_eBin, p_eDiv, p_eI2L, p_eL2I, p_eFld, p_eAr, p_eRo, p_eLen, eCal, p_eMt, p_eAbs, p_eBo, p_eCon, p_aA0, p_aA1, p_oCmp, p_oCm0, p_oCmpL, p_oNul, p_oAnd, p_oOr, p_oNot]
  exact congrArg (fun z => fin true (z [v0] M)) h
noncomputable def wc1_X3_condition (D : Nat → Den) : CoD := (dAnd (dCmp .lt (dLoc 4) (dInt 240)) (dCmp .eq (dCal wC ci_X8_sign (dA1 dA0 (dLoc 1))) (dInt 124)))
noncomputable def wb1_X3_condition (D : Nat → Den) : StD := (dSeq (dSeq (dDo wC ci_X8_step (dA1 dA0 (dLoc 1)))
  (dSeq (dDo wC (ci_X3_truth D) (dA1 (dA1 (dA1 (dA1 dA0 (dLoc 0)) (dLoc 1)) (dLoc 2)) (dInt 0)))
  (dDo wC ci_X3_write (dA1 (dA1 dA0 (dLoc 0)) (dInt 10124)))))
  (dInc 4 1))
set_option maxRecDepth 100000 in
theorem u_X3_condition (d : Nat) (v0 v1 v2 v3 : Int) (M : Mem) : grp_X3_condition (d + 1) 0 [v0, v1, v2, v3] M = fin false ((dSeq (dSeq (dDo wC (ci_X3_truth (grp_X3_condition d)) (dA1 (dA1 (dA1 (dA1 dA0 (dLoc 0)) (dLoc 1)) (dLoc 2)) (dLoc 3)))
  (dSeq (dSet 4 (dInt 0))
  (dWh (wc1_X3_condition (grp_X3_condition d)) (wb1_X3_condition (grp_X3_condition d)))))
  dReV) [v0, v1, v2, v3, 0] M) := by
  have h : (a_X3_condition (grp_X3_condition d)).1.1 = (dSeq (dSeq (dDo wC (ci_X3_truth (grp_X3_condition d)) (dA1 (dA1 (dA1 (dA1 dA0 (dLoc 0)) (dLoc 1)) (dLoc 2)) (dLoc 3)))
  (dSeq (dSet 4 (dInt 0))
  (dWh (wc1_X3_condition (grp_X3_condition d)) (wb1_X3_condition (grp_X3_condition d)))))
  dReV) := by simp only [a_X3_condition, wc1_X3_condition, wb1_X3_condition, p_sSet, p_sInc, p_sPutF, p_sUpdF, p_sPutA, p_sUpdA, sDo, p_sCpy, p_sSeq, p_sIf, p_sIfE, p_sWh, p_sRet, p_sReV, p_sBlk, p_sSw, p_wDf, p_wCs, p_eInt, p_eLng, p_eNll, p_eStr, p_eSta, p_eLoc, p_eBin, p_eDiv, p_eI2L, p_eL2I, p_eFld, p_eAr, p_eRo, p_eLen, eCal, p_eMt, p_eAbs, p_eBo, p_eCon, p_aA0, p_aA1, p_oCmp, p_oCm0, p_oCmpL, p_oNul, p_oAnd, p_oOr, p_oNot]
  exact congrArg (fun z => fin false (z [v0, v1, v2, v3, 0] M)) h
set_option maxRecDepth 100000 in
theorem g_X3_condition (d : Nat) : (ci_X3_condition (grp_X3_condition d)).2.2.2.2 = grp_X3_condition d 0 := rfl
set_option maxRecDepth 100000 in
theorem u_X3_nested (d : Nat) (v0 v1 v2 v3 : Int) (M : Mem) : grp_X3_condition (d + 1) 1 [v0, v1, v2, v3] M = fin false ((dSeq (dIfE (dCmp .eq (dLoc 3) (dInt 33)) (dSeq (dDo wC (ci_X3_unit (grp_X3_condition d)) (dA1 (dA1 (dA1 (dA1 dA0 (dLoc 0)) (dLoc 1)) (dLoc 2)) (dInt 0)))
  (dDo wC ci_X3_write (dA1 (dA1 dA0 (dLoc 0)) (dInt 10033))))
  (dSeq (dDo wC (ci_X3_condition (grp_X3_condition d)) (dA1 (dA1 (dA1 (dA1 dA0 (dLoc 0)) (dLoc 1)) (dLoc 2)) (dInt 0)))
  (dDo wC ci_X8_want (dA1 (dA1 dA0 (dLoc 1)) (dInt 41)))))
  dReV) [v0, v1, v2, v3] M) := by
  have h : (a_X3_nested (grp_X3_condition d)).1.1 = (dSeq (dIfE (dCmp .eq (dLoc 3) (dInt 33)) (dSeq (dDo wC (ci_X3_unit (grp_X3_condition d)) (dA1 (dA1 (dA1 (dA1 dA0 (dLoc 0)) (dLoc 1)) (dLoc 2)) (dInt 0)))
  (dDo wC ci_X3_write (dA1 (dA1 dA0 (dLoc 0)) (dInt 10033))))
  (dSeq (dDo wC (ci_X3_condition (grp_X3_condition d)) (dA1 (dA1 (dA1 (dA1 dA0 (dLoc 0)) (dLoc 1)) (dLoc 2)) (dInt 0)))
  (dDo wC ci_X8_want (dA1 (dA1 dA0 (dLoc 1)) (dInt 41)))))
  dReV) := by simp only [a_X3_nested, p_sSet, p_sInc, p_sPutF, p_sUpdF, p_sPutA, p_sUpdA, sDo, p_sCpy, p_sSeq, p_sIf, p_sIfE, p_sWh, p_sRet, p_sReV, p_sBlk, p_sSw, p_wDf, p_wCs, p_eInt, p_eLng, p_eNll, p_eStr, p_eSta, p_eLoc, p_eBin, p_eDiv, p_eI2L, p_eL2I, p_eFld, p_eAr, p_eRo, p_eLen, eCal, p_eMt, p_eAbs, p_eBo, p_eCon, p_aA0, p_aA1, p_oCmp, p_oCm0, p_oCmpL, p_oNul, p_oAnd, p_oOr, p_oNot]
  exact congrArg (fun z => fin false (z [v0, v1, v2, v3] M)) h
set_option maxRecDepth 100000 in
theorem g_X3_nested (d : Nat) : (ci_X3_nested (grp_X3_condition d)).2.2.2.2 = grp_X3_condition d 1 := rfl
noncomputable def wc1_X3_truth (D : Nat → Den) : CoD := (dAnd (dCmp .lt (dLoc 4) (dInt 240)) (dCmp .eq (dCal wC ci_X8_sign (dA1 dA0 (dLoc 1))) (dInt 38)))
noncomputable def wb1_X3_truth (D : Nat → Den) : StD := (dSeq (dSeq (dDo wC ci_X8_step (dA1 dA0 (dLoc 1)))
  (dSeq (dDo wC (ci_X3_unit D) (dA1 (dA1 (dA1 (dA1 dA0 (dLoc 0)) (dLoc 1)) (dLoc 2)) (dInt 0)))
  (dDo wC ci_X3_write (dA1 (dA1 dA0 (dLoc 0)) (dInt 10038)))))
  (dInc 4 1))
set_option maxRecDepth 100000 in
theorem u_X3_truth (d : Nat) (v0 v1 v2 v3 : Int) (M : Mem) : grp_X3_condition (d + 1) 2 [v0, v1, v2, v3] M = fin false ((dSeq (dSeq (dDo wC (ci_X3_unit (grp_X3_condition d)) (dA1 (dA1 (dA1 (dA1 dA0 (dLoc 0)) (dLoc 1)) (dLoc 2)) (dLoc 3)))
  (dSeq (dSet 4 (dInt 0))
  (dWh (wc1_X3_truth (grp_X3_condition d)) (wb1_X3_truth (grp_X3_condition d)))))
  dReV) [v0, v1, v2, v3, 0] M) := by
  have h : (a_X3_truth (grp_X3_condition d)).1.1 = (dSeq (dSeq (dDo wC (ci_X3_unit (grp_X3_condition d)) (dA1 (dA1 (dA1 (dA1 dA0 (dLoc 0)) (dLoc 1)) (dLoc 2)) (dLoc 3)))
  (dSeq (dSet 4 (dInt 0))
  (dWh (wc1_X3_truth (grp_X3_condition d)) (wb1_X3_truth (grp_X3_condition d)))))
  dReV) := by simp only [a_X3_truth, wc1_X3_truth, wb1_X3_truth, p_sSet, p_sInc, p_sPutF, p_sUpdF, p_sPutA, p_sUpdA, sDo, p_sCpy, p_sSeq, p_sIf, p_sIfE, p_sWh, p_sRet, p_sReV, p_sBlk, p_sSw, p_wDf, p_wCs, p_eInt, p_eLng, p_eNll, p_eStr, p_eSta, p_eLoc, p_eBin, p_eDiv, p_eI2L, p_eL2I, p_eFld, p_eAr, p_eRo, p_eLen, eCal, p_eMt, p_eAbs, p_eBo, p_eCon, p_aA0, p_aA1, p_oCmp, p_oCm0, p_oCmpL, p_oNul, p_oAnd, p_oOr, p_oNot]
  exact congrArg (fun z => fin false (z [v0, v1, v2, v3, 0] M)) h
set_option maxRecDepth 100000 in
theorem g_X3_truth (d : Nat) : (ci_X3_truth (grp_X3_condition d)).2.2.2.2 = grp_X3_condition d 2 := rfl
set_option maxRecDepth 100000 in
theorem u_X3_unit (d : Nat) (v0 v1 v2 v3 : Int) (M : Mem) : grp_X3_condition (d + 1) 3 [v0, v1, v2, v3] M = fin false ((dSeq (dSeq (dSet 4 (dCal wC ci_X8_sign (dA1 dA0 (dLoc 1))))
  (dSeq (dIf (dAnd (dNot (dCm0 .ne (dLoc 3))) (dOr (dCmp .eq (dLoc 4) (dInt 33)) (dCmp .eq (dLoc 4) (dInt 40)))) (dSeq (dIf (dCm0 .ne (dCal wC ci_X3_mayNest (dA1 (dA1 dA0 (dLoc 1)) (dLoc 2)))) (dDo wC (ci_X3_nested (grp_X3_condition d)) (dA1 (dA1 (dA1 (dA1 dA0 (dLoc 0)) (dLoc 1)) (dBin (opF 0) (dLoc 2) (dInt 1))) (dLoc 4))))
  dReV))
  (dSeq (dIf (dNot (dCm0 .ne (dLoc 3))) (dDo wC (ci_X3_sum (grp_X3_sum 24)) (dA1 (dA1 (dA1 dA0 (dLoc 0)) (dLoc 1)) (dLoc 2))))
  (dSeq (dSet 5 (dCal wC ci_X8_sign (dA1 dA0 (dLoc 1))))
  (dSeq (dIf (dNot (dCm0 .ne (dCal wC ci_X3_isRelation (dA1 dA0 (dLoc 5))))) (dSeq (dDo wC ci_X8_fail (dA1 dA0 (dLoc 1)))
  dReV))
  (dSeq (dDo wC ci_X8_step (dA1 dA0 (dLoc 1)))
  (dSeq (dDo wC (ci_X3_sum (grp_X3_sum 24)) (dA1 (dA1 (dA1 dA0 (dLoc 0)) (dLoc 1)) (dLoc 2)))
  (dDo wC ci_X3_write (dA1 (dA1 dA0 (dLoc 0)) (dBin (opF 0) (dInt 10000) (dLoc 5)))))))))))
  dReV) [v0, v1, v2, v3, 0, 0] M) := by
  have h : (a_X3_unit (grp_X3_condition d)).1.1 = (dSeq (dSeq (dSet 4 (dCal wC ci_X8_sign (dA1 dA0 (dLoc 1))))
  (dSeq (dIf (dAnd (dNot (dCm0 .ne (dLoc 3))) (dOr (dCmp .eq (dLoc 4) (dInt 33)) (dCmp .eq (dLoc 4) (dInt 40)))) (dSeq (dIf (dCm0 .ne (dCal wC ci_X3_mayNest (dA1 (dA1 dA0 (dLoc 1)) (dLoc 2)))) (dDo wC (ci_X3_nested (grp_X3_condition d)) (dA1 (dA1 (dA1 (dA1 dA0 (dLoc 0)) (dLoc 1)) (dBin (opF 0) (dLoc 2) (dInt 1))) (dLoc 4))))
  dReV))
  (dSeq (dIf (dNot (dCm0 .ne (dLoc 3))) (dDo wC (ci_X3_sum (grp_X3_sum 24)) (dA1 (dA1 (dA1 dA0 (dLoc 0)) (dLoc 1)) (dLoc 2))))
  (dSeq (dSet 5 (dCal wC ci_X8_sign (dA1 dA0 (dLoc 1))))
  (dSeq (dIf (dNot (dCm0 .ne (dCal wC ci_X3_isRelation (dA1 dA0 (dLoc 5))))) (dSeq (dDo wC ci_X8_fail (dA1 dA0 (dLoc 1)))
  dReV))
  (dSeq (dDo wC ci_X8_step (dA1 dA0 (dLoc 1)))
  (dSeq (dDo wC (ci_X3_sum (grp_X3_sum 24)) (dA1 (dA1 (dA1 dA0 (dLoc 0)) (dLoc 1)) (dLoc 2)))
  (dDo wC ci_X3_write (dA1 (dA1 dA0 (dLoc 0)) (dBin (opF 0) (dInt 10000) (dLoc 5)))))))))))
  dReV) := by simp only [a_X3_unit, p_sSet, p_sInc, p_sPutF, p_sUpdF, p_sPutA, p_sUpdA, sDo, p_sCpy, p_sSeq, p_sIf, p_sIfE, p_sWh, p_sRet, p_sReV, p_sBlk, p_sSw, p_wDf, p_wCs, p_eInt, p_eLng, p_eNll, p_eStr, p_eSta, p_eLoc, p_eBin, p_eDiv, p_eI2L, p_eL2I, p_eFld, p_eAr, p_eRo, p_eLen, eCal, p_eMt, p_eAbs, p_eBo, p_eCon, p_aA0, p_aA1, p_oCmp, p_oCm0, p_oCmpL, p_oNul, p_oAnd, p_oOr, p_oNot]
  exact congrArg (fun z => fin false (z [v0, v1, v2, v3, 0, 0] M)) h
set_option maxRecDepth 100000 in
theorem g_X3_unit (d : Nat) : (ci_X3_unit (grp_X3_condition d)).2.2.2.2 = grp_X3_condition d 3 := rfl
set_option maxRecDepth 100000 in
theorem u_X3_clause (v0 v1 : Int) (M : Mem) : ci_X3_clause.2.2.2.2 [v0, v1] M = fin false ((dSeq (dSeq (dDo wC ci_X8_want (dA1 (dA1 dA0 (dLoc 1)) (dInt 121)))
  (dSeq (dDo wC ci_X8_want (dA1 (dA1 dA0 (dLoc 1)) (dInt 58)))
  (dSeq (dSet 2 (dCal wC ci_X8_sign (dA1 dA0 (dLoc 1))))
  (dSeq (dSet 3 (dBo (dAnd (dCmp .ne (dLoc 2) (dInt 33)) (dCmp .ne (dLoc 2) (dInt 40)))))
  (dSeq (dIf (dCm0 .ne (dLoc 3)) (dDo wC (ci_X3_sum (grp_X3_sum 24)) (dA1 (dA1 (dA1 dA0 (dLoc 0)) (dLoc 1)) (dInt 0))))
  (dSeq (dIf (dOr (dNot (dCm0 .ne (dLoc 3))) (dCm0 .ne (dCal wC ci_X3_isRelation (dA1 dA0 (dCal wC ci_X8_sign (dA1 dA0 (dLoc 1))))))) (dSeq (dDo wC (ci_X3_condition (grp_X3_condition 30)) (dA1 (dA1 (dA1 (dA1 dA0 (dLoc 0)) (dLoc 1)) (dInt 0)) (dLoc 3)))
  (dSeq (dDo wC ci_X8_want (dA1 (dA1 dA0 (dLoc 1)) (dInt 63)))
  (dSeq (dDo wC ci_X3_write (dA1 (dA1 dA0 (dLoc 0)) (dInt 10063)))
  (dDo wC (ci_X3_sum (grp_X3_sum 24)) (dA1 (dA1 (dA1 dA0 (dLoc 0)) (dLoc 1)) (dInt 0)))))))
  (dDo wC ci_X3_write (dA1 (dA1 dA0 (dLoc 0)) (dInt 10059)))))))))
  dReV) [v0, v1, 0, 0] M) := by
  have h : a_X3_clause.1.1 = (dSeq (dSeq (dDo wC ci_X8_want (dA1 (dA1 dA0 (dLoc 1)) (dInt 121)))
  (dSeq (dDo wC ci_X8_want (dA1 (dA1 dA0 (dLoc 1)) (dInt 58)))
  (dSeq (dSet 2 (dCal wC ci_X8_sign (dA1 dA0 (dLoc 1))))
  (dSeq (dSet 3 (dBo (dAnd (dCmp .ne (dLoc 2) (dInt 33)) (dCmp .ne (dLoc 2) (dInt 40)))))
  (dSeq (dIf (dCm0 .ne (dLoc 3)) (dDo wC (ci_X3_sum (grp_X3_sum 24)) (dA1 (dA1 (dA1 dA0 (dLoc 0)) (dLoc 1)) (dInt 0))))
  (dSeq (dIf (dOr (dNot (dCm0 .ne (dLoc 3))) (dCm0 .ne (dCal wC ci_X3_isRelation (dA1 dA0 (dCal wC ci_X8_sign (dA1 dA0 (dLoc 1))))))) (dSeq (dDo wC (ci_X3_condition (grp_X3_condition 30)) (dA1 (dA1 (dA1 (dA1 dA0 (dLoc 0)) (dLoc 1)) (dInt 0)) (dLoc 3)))
  (dSeq (dDo wC ci_X8_want (dA1 (dA1 dA0 (dLoc 1)) (dInt 63)))
  (dSeq (dDo wC ci_X3_write (dA1 (dA1 dA0 (dLoc 0)) (dInt 10063)))
  (dDo wC (ci_X3_sum (grp_X3_sum 24)) (dA1 (dA1 (dA1 dA0 (dLoc 0)) (dLoc 1)) (dInt 0)))))))
  (dDo wC ci_X3_write (dA1 (dA1 dA0 (dLoc 0)) (dInt 10059)))))))))
  dReV) := by simp only [a_X3_clause, p_sSet, p_sInc, p_sPutF, p_sUpdF, p_sPutA, p_sUpdA, sDo, p_sCpy, p_sSeq, p_sIf, p_sIfE, p_sWh, p_sRet, p_sReV, p_sBlk, p_sSw, p_wDf, p_wCs, p_eInt, p_eLng, p_eNll, p_eStr, p_eSta, p_eLoc, p_eBin, p_eDiv, p_eI2L, p_eL2I, p_eFld, p_eAr, p_eRo, p_eLen, eCal, p_eMt, p_eAbs, p_eBo, p_eCon, p_aA0, p_aA1, p_oCmp, p_oCm0, p_oCmpL, p_oNul, p_oAnd, p_oOr, p_oNot]
  exact congrArg (fun z => fin false (z [v0, v1, 0, 0] M)) h
noncomputable def wc1_X3_read : CoD := (dAnd (dCmp .lt (dLoc 2) (dInt 240)) (dCmp .eq (dCal wC ci_X8_sign (dA1 dA0 (dLoc 1))) (dInt 59)))
noncomputable def wb1_X3_read : StD := (dSeq (dSeq (dDo wC ci_X8_step (dA1 dA0 (dLoc 1)))
  (dDo wC ci_X3_clause (dA1 (dA1 dA0 (dLoc 0)) (dLoc 1))))
  (dInc 2 1))
set_option maxRecDepth 100000 in
theorem u_X3_read (v0 v1 : Int) (M : Mem) : ci_X3_read.2.2.2.2 [v0, v1] M = fin false ((dSeq (dDo wC ci_X8_begin (dA1 dA0 (dLoc 1)))
  (dSeq (dPutF wC 3 1 (dLoc 0) (dInt 0))
  (dSeq (dDo wC ci_X3_clause (dA1 (dA1 dA0 (dLoc 0)) (dLoc 1)))
  (dSeq (dSeq (dSet 2 (dInt 0))
  (dWh (wc1_X3_read) (wb1_X3_read)))
  (dSeq (dDo wC ci_X8_wantOver (dA1 dA0 (dLoc 1)))
  (dRet (dFld wC 8 3 (dLoc 1)))))))) [v0, v1, 0] M) := by
  have h : a_X3_read.1.1 = (dSeq (dDo wC ci_X8_begin (dA1 dA0 (dLoc 1)))
  (dSeq (dPutF wC 3 1 (dLoc 0) (dInt 0))
  (dSeq (dDo wC ci_X3_clause (dA1 (dA1 dA0 (dLoc 0)) (dLoc 1)))
  (dSeq (dSeq (dSet 2 (dInt 0))
  (dWh (wc1_X3_read) (wb1_X3_read)))
  (dSeq (dDo wC ci_X8_wantOver (dA1 dA0 (dLoc 1)))
  (dRet (dFld wC 8 3 (dLoc 1)))))))) := by simp only [a_X3_read, wc1_X3_read, wb1_X3_read, p_sSet, p_sInc, p_sPutF, p_sUpdF, p_sPutA, p_sUpdA, sDo, p_sCpy, p_sSeq, p_sIf, p_sIfE, p_sWh, p_sRet, p_sReV, p_sBlk, p_sSw, p_wDf, p_wCs, p_eInt, p_eLng, p_eNll, p_eStr, p_eSta, p_eLoc, p_eBin, p_eDiv, p_eI2L, p_eL2I, p_eFld, p_eAr, p_eRo, p_eLen, eCal, p_eMt, p_eAbs, p_eBo, p_eCon, p_aA0, p_aA1, p_oCmp, p_oCm0, p_oCmpL, p_oNul, p_oAnd, p_oOr, p_oNot]
  exact congrArg (fun z => fin false (z [v0, v1, 0] M)) h
set_option maxRecDepth 100000 in
theorem u_X10_fault (v0 v1 : Int) (M : Mem) : ci_X10_fault.2.2.2.2 [v0, v1] M = fin false ((dSeq (dIf (dCm0 .eq (dLoc 1)) (dRet (dCal wC ci_X6_read (dA1 (dA1 dA0 (dFld wC 10 1 (dLoc 0))) (dFld wC 10 0 (dLoc 0))))))
  (dSeq (dIf (dCmp .eq (dLoc 1) (dInt 1)) (dRet (dCal wC ci_X3_read (dA1 (dA1 dA0 (dFld wC 10 2 (dLoc 0))) (dFld wC 10 0 (dLoc 0))))))
  (dRet (dInt (-2))))) [v0, v1] M) := by
  have h : a_X10_fault.1.1 = (dSeq (dIf (dCm0 .eq (dLoc 1)) (dRet (dCal wC ci_X6_read (dA1 (dA1 dA0 (dFld wC 10 1 (dLoc 0))) (dFld wC 10 0 (dLoc 0))))))
  (dSeq (dIf (dCmp .eq (dLoc 1) (dInt 1)) (dRet (dCal wC ci_X3_read (dA1 (dA1 dA0 (dFld wC 10 2 (dLoc 0))) (dFld wC 10 0 (dLoc 0))))))
  (dRet (dInt (-2))))) := by simp only [a_X10_fault, p_sSet, p_sInc, p_sPutF, p_sUpdF, p_sPutA, p_sUpdA, sDo, p_sCpy, p_sSeq, p_sIf, p_sIfE, p_sWh, p_sRet, p_sReV, p_sBlk, p_sSw, p_wDf, p_wCs, p_eInt, p_eLng, p_eNll, p_eStr, p_eSta, p_eLoc, p_eBin, p_eDiv, p_eI2L, p_eL2I, p_eFld, p_eAr, p_eRo, p_eLen, eCal, p_eMt, p_eAbs, p_eBo, p_eCon, p_aA0, p_aA1, p_oCmp, p_oCm0, p_oCmpL, p_oNul, p_oAnd, p_oOr, p_oNot]
  exact congrArg (fun z => fin false (z [v0, v1] M)) h
set_option maxRecDepth 100000 in
theorem u_X2_set (v0 v1 v2 v3 : Int) (M : Mem) : ci_X2_set.2.2.2.2 [v0, v1, v2, v3] M = fin false ((dSeq (dDo wC ci_X10_put (dA1 (dA1 (dA1 dA0 (dFld wC 2 0 (dLoc 0))) (dBin (opF 0) (dBin (opF 2) (dLoc 1) (dInt 7)) (dLoc 2))) (dLoc 3)))
  dReV) [v0, v1, v2, v3] M) := by
  have h : a_X2_set.1.1 = (dSeq (dDo wC ci_X10_put (dA1 (dA1 (dA1 dA0 (dFld wC 2 0 (dLoc 0))) (dBin (opF 0) (dBin (opF 2) (dLoc 1) (dInt 7)) (dLoc 2))) (dLoc 3)))
  dReV) := by simp only [a_X2_set, p_sSet, p_sInc, p_sPutF, p_sUpdF, p_sPutA, p_sUpdA, sDo, p_sCpy, p_sSeq, p_sIf, p_sIfE, p_sWh, p_sRet, p_sReV, p_sBlk, p_sSw, p_wDf, p_wCs, p_eInt, p_eLng, p_eNll, p_eStr, p_eSta, p_eLoc, p_eBin, p_eDiv, p_eI2L, p_eL2I, p_eFld, p_eAr, p_eRo, p_eLen, eCal, p_eMt, p_eAbs, p_eBo, p_eCon, p_aA0, p_aA1, p_oCmp, p_oCm0, p_oCmpL, p_oNul, p_oAnd, p_oOr, p_oNot]
  exact congrArg (fun z => fin false (z [v0, v1, v2, v3] M)) h
noncomputable def wc1_X2_settle : CoD := (dCmp .le (dLoc 3) (dInt 4))
noncomputable def wb1_X2_settle : StD := (dSeq (dDo wC ci_X2_set (dA1 (dA1 (dA1 (dA1 dA0 (dLoc 0)) (dLoc 2)) (dLoc 3)) (dCal wC ci_X6_item (dA1 (dA1 (dA1 dA0 (dLoc 1)) (dLoc 2)) (dLoc 3)))))
  (dInc 3 1))
noncomputable def wc2_X2_settle : CoD := (dCmp .lt (dLoc 2) (dFld wC 2 1 (dLoc 0)))
noncomputable def wb2_X2_settle : StD := (dSeq (dSeq (dSeq (dSet 3 (dInt 0))
  (dWh (wc1_X2_settle) (wb1_X2_settle)))
  (dSeq (dIf (dCmp .eq (dCal wC ci_X6_item (dA1 (dA1 (dA1 dA0 (dLoc 1)) (dLoc 2)) (dInt 3))) (dInt 8)) (dDo wC ci_X2_set (dA1 (dA1 (dA1 (dA1 dA0 (dLoc 0)) (dLoc 2)) (dInt 3)) (dInt (-1)))))
  (dSeq (dDo wC ci_X2_set (dA1 (dA1 (dA1 (dA1 dA0 (dLoc 0)) (dLoc 2)) (dInt 5)) (dInt 0)))
  (dDo wC ci_X2_set (dA1 (dA1 (dA1 (dA1 dA0 (dLoc 0)) (dLoc 2)) (dInt 6)) (dInt 0))))))
  (dInc 2 1))
set_option maxRecDepth 100000 in
theorem u_X2_settle (v0 v1 : Int) (M : Mem) : ci_X2_settle.2.2.2.2 [v0, v1] M = fin false ((dSeq (dSeq (dPutF wC 2 1 (dLoc 0) (dFld wC 6 4 (dLoc 1)))
  (dSeq (dPutF wC 2 2 (dLoc 0) (dInt 0))
  (dSeq (dPutF wC 2 3 (dLoc 0) (dCal wC ci_X10_at (dA1 (dA1 dA0 (dFld wC 6 0 (dLoc 1))) (dInt 1))))
  (dSeq (dPutF wC 2 4 (dLoc 0) (dCal wC ci_X10_at (dA1 (dA1 dA0 (dFld wC 6 0 (dLoc 1))) (dInt 3))))
  (dSeq (dSet 2 (dInt 0))
  (dWh (wc2_X2_settle) (wb2_X2_settle)))))))
  dReV) [v0, v1, 0, 0] M) := by
  have h : a_X2_settle.1.1 = (dSeq (dSeq (dPutF wC 2 1 (dLoc 0) (dFld wC 6 4 (dLoc 1)))
  (dSeq (dPutF wC 2 2 (dLoc 0) (dInt 0))
  (dSeq (dPutF wC 2 3 (dLoc 0) (dCal wC ci_X10_at (dA1 (dA1 dA0 (dFld wC 6 0 (dLoc 1))) (dInt 1))))
  (dSeq (dPutF wC 2 4 (dLoc 0) (dCal wC ci_X10_at (dA1 (dA1 dA0 (dFld wC 6 0 (dLoc 1))) (dInt 3))))
  (dSeq (dSet 2 (dInt 0))
  (dWh (wc2_X2_settle) (wb2_X2_settle)))))))
  dReV) := by simp only [a_X2_settle, wc1_X2_settle, wb1_X2_settle, wc2_X2_settle, wb2_X2_settle, p_sSet, p_sInc, p_sPutF, p_sUpdF, p_sPutA, p_sUpdA, sDo, p_sCpy, p_sSeq, p_sIf, p_sIfE, p_sWh, p_sRet, p_sReV, p_sBlk, p_sSw, p_wDf, p_wCs, p_eInt, p_eLng, p_eNll, p_eStr, p_eSta, p_eLoc, p_eBin, p_eDiv, p_eI2L, p_eL2I, p_eFld, p_eAr, p_eRo, p_eLen, eCal, p_eMt, p_eAbs, p_eBo, p_eCon, p_aA0, p_aA1, p_oCmp, p_oCm0, p_oCmpL, p_oNul, p_oAnd, p_oOr, p_oNot]
  exact congrArg (fun z => fin false (z [v0, v1, 0, 0] M)) h
set_option maxRecDepth 100000 in
theorem u_X7_shorten (v0 v1 v2 v3 : Int) (M : Mem) : ci_X7_shorten.2.2.2.2 [v0, v1, v2, v3] M = fin false ((dSeq (dSeq (dSet 4 (dBin (opF 0) (dCal wC ci_X10_at (dA1 (dA1 dA0 (dFld wC 7 1 (dLoc 0))) (dLoc 1))) (dLoc 3)))
  (dIf (dAnd (dCmp .ne (dCal wC ci_X10_at (dA1 (dA1 dA0 (dFld wC 7 1 (dLoc 0))) (dLoc 1))) (dInt (-1))) (dOr (dCmp .eq (dCal wC ci_X10_at (dA1 (dA1 dA0 (dFld wC 7 1 (dLoc 0))) (dLoc 2))) (dInt (-1))) (dCmp .lt (dLoc 4) (dCal wC ci_X10_at (dA1 (dA1 dA0 (dFld wC 7 1 (dLoc 0))) (dLoc 2)))))) (dDo wC ci_X10_put (dA1 (dA1 (dA1 dA0 (dFld wC 7 1 (dLoc 0))) (dLoc 2)) (dLoc 4)))))
  dReV) [v0, v1, v2, v3, 0] M) := by
  have h : a_X7_shorten.1.1 = (dSeq (dSeq (dSet 4 (dBin (opF 0) (dCal wC ci_X10_at (dA1 (dA1 dA0 (dFld wC 7 1 (dLoc 0))) (dLoc 1))) (dLoc 3)))
  (dIf (dAnd (dCmp .ne (dCal wC ci_X10_at (dA1 (dA1 dA0 (dFld wC 7 1 (dLoc 0))) (dLoc 1))) (dInt (-1))) (dOr (dCmp .eq (dCal wC ci_X10_at (dA1 (dA1 dA0 (dFld wC 7 1 (dLoc 0))) (dLoc 2))) (dInt (-1))) (dCmp .lt (dLoc 4) (dCal wC ci_X10_at (dA1 (dA1 dA0 (dFld wC 7 1 (dLoc 0))) (dLoc 2)))))) (dDo wC ci_X10_put (dA1 (dA1 (dA1 dA0 (dFld wC 7 1 (dLoc 0))) (dLoc 2)) (dLoc 4)))))
  dReV) := by simp only [a_X7_shorten, p_sSet, p_sInc, p_sPutF, p_sUpdF, p_sPutA, p_sUpdA, sDo, p_sCpy, p_sSeq, p_sIf, p_sIfE, p_sWh, p_sRet, p_sReV, p_sBlk, p_sSw, p_wDf, p_wCs, p_eInt, p_eLng, p_eNll, p_eStr, p_eSta, p_eLoc, p_eBin, p_eDiv, p_eI2L, p_eL2I, p_eFld, p_eAr, p_eRo, p_eLen, eCal, p_eMt, p_eAbs, p_eBo, p_eCon, p_aA0, p_aA1, p_oCmp, p_oCm0, p_oCmpL, p_oNul, p_oAnd, p_oOr, p_oNot]
  exact congrArg (fun z => fin false (z [v0, v1, v2, v3, 0] M)) h
noncomputable def wc1_X7_build : CoD := (dCmp .lt (dLoc 2) (dLen wC 0 (dFld wC 7 1 (dLoc 0))))
noncomputable def wb1_X7_build : StD := (dSeq (dPutA wC 0 (dFld wC 7 1 (dLoc 0)) (dLoc 2) (dInt (-1)))
  (dInc 2 1))
noncomputable def wc2_X7_build : CoD := (dCmp .lt (dLoc 3) (dFld wC 7 2 (dLoc 0)))
noncomputable def wb2_X7_build : StD := (dSeq (dSeq (dSet 4 (dCal wC ci_X10_at (dA1 (dA1 dA0 (dFld wC 7 0 (dLoc 0))) (dBin (opF 2) (dLoc 3) (dInt 3)))))
  (dSeq (dSet 5 (dCal wC ci_X10_at (dA1 (dA1 dA0 (dFld wC 7 0 (dLoc 0))) (dBin (opF 0) (dBin (opF 2) (dLoc 3) (dInt 3)) (dInt 1)))))
  (dSeq (dSet 6 (dCal wC ci_X10_at (dA1 (dA1 dA0 (dFld wC 7 0 (dLoc 0))) (dBin (opF 0) (dBin (opF 2) (dLoc 3) (dInt 3)) (dInt 2)))))
  (dSeq (dDo wC ci_X7_shorten (dA1 (dA1 (dA1 (dA1 dA0 (dLoc 0)) (dLoc 4)) (dLoc 5)) (dLoc 6)))
  (dDo wC ci_X7_shorten (dA1 (dA1 (dA1 (dA1 dA0 (dLoc 0)) (dLoc 5)) (dLoc 4)) (dLoc 6)))))))
  (dInc 3 1))
noncomputable def wc3_X7_build : CoD := (dCmp .lt (dLoc 2) (dInt 6))
noncomputable def wb3_X7_build : StD := (dSeq (dSeq (dSet 3 (dInt 0))
  (dWh (wc2_X7_build) (wb2_X7_build)))
  (dInc 2 1))
set_option maxRecDepth 100000 in
theorem u_X7_build (v0 v1 : Int) (M : Mem) : ci_X7_build.2.2.2.2 [v0, v1] M = fin false ((dSeq (dSeq (dPutF wC 7 2 (dLoc 0) (dFld wC 6 5 (dLoc 1)))
  (dSeq (dDo wC ci_X10_move (dA1 (dA1 (dA1 (dA1 (dA1 dA0 (dFld wC 6 2 (dLoc 1))) (dInt 0)) (dFld wC 7 0 (dLoc 0))) (dInt 0)) (dLen wC 0 (dFld wC 7 0 (dLoc 0)))))
  (dSeq (dSeq (dSet 2 (dInt 1))
  (dWh (wc1_X7_build) (wb1_X7_build)))
  (dSeq (dSet 2 (dInt 1))
  (dWh (wc3_X7_build) (wb3_X7_build))))))
  dReV) [v0, v1, 0, 0, 0, 0, 0] M) := by
  have h : a_X7_build.1.1 = (dSeq (dSeq (dPutF wC 7 2 (dLoc 0) (dFld wC 6 5 (dLoc 1)))
  (dSeq (dDo wC ci_X10_move (dA1 (dA1 (dA1 (dA1 (dA1 dA0 (dFld wC 6 2 (dLoc 1))) (dInt 0)) (dFld wC 7 0 (dLoc 0))) (dInt 0)) (dLen wC 0 (dFld wC 7 0 (dLoc 0)))))
  (dSeq (dSeq (dSet 2 (dInt 1))
  (dWh (wc1_X7_build) (wb1_X7_build)))
  (dSeq (dSet 2 (dInt 1))
  (dWh (wc3_X7_build) (wb3_X7_build))))))
  dReV) := by simp only [a_X7_build, wc1_X7_build, wb1_X7_build, wc2_X7_build, wb2_X7_build, wc3_X7_build, wb3_X7_build, p_sSet, p_sInc, p_sPutF, p_sUpdF, p_sPutA, p_sUpdA, sDo, p_sCpy, p_sSeq, p_sIf, p_sIfE, p_sWh, p_sRet, p_sReV, p_sBlk, p_sSw, p_wDf, p_wCs, p_eInt, p_eLng, p_eNll, p_eStr, p_eSta, p_eLoc, p_eBin, p_eDiv, p_eI2L, p_eL2I, p_eFld, p_eAr, p_eRo, p_eLen, eCal, p_eMt, p_eAbs, p_eBo, p_eCon, p_aA0, p_aA1, p_oCmp, p_oCm0, p_oCmpL, p_oNul, p_oAnd, p_oOr, p_oNot]
  exact congrArg (fun z => fin false (z [v0, v1, 0, 0, 0, 0, 0] M)) h
set_option maxRecDepth 100000 in
theorem u_X1_forget (v0 : Int) (M : Mem) : ci_X1_forget.2.2.2.2 [v0] M = fin false ((dSeq (dSeq (dPutF wC 1 5 (dLoc 0) (dInt 0))
  (dPutF wC 1 6 (dLoc 0) (dInt 0)))
  dReV) [v0] M) := by
  have h : a_X1_forget.1.1 = (dSeq (dSeq (dPutF wC 1 5 (dLoc 0) (dInt 0))
  (dPutF wC 1 6 (dLoc 0) (dInt 0)))
  dReV) := by simp only [a_X1_forget, p_sSet, p_sInc, p_sPutF, p_sUpdF, p_sPutA, p_sUpdA, sDo, p_sCpy, p_sSeq, p_sIf, p_sIfE, p_sWh, p_sRet, p_sReV, p_sBlk, p_sSw, p_wDf, p_wCs, p_eInt, p_eLng, p_eNll, p_eStr, p_eSta, p_eLoc, p_eBin, p_eDiv, p_eI2L, p_eL2I, p_eFld, p_eAr, p_eRo, p_eLen, eCal, p_eMt, p_eAbs, p_eBo, p_eCon, p_aA0, p_aA1, p_oCmp, p_oCm0, p_oCmpL, p_oNul, p_oAnd, p_oOr, p_oNot]
  exact congrArg (fun z => fin false (z [v0] M)) h
set_option maxRecDepth 100000 in
theorem u_X0_forget (v0 : Int) (M : Mem) : ci_X0_forget.2.2.2.2 [v0] M = fin false ((dSeq (dPutF wC 0 3 (dLoc 0) (dInt 0))
  dReV) [v0] M) := by
  have h : a_X0_forget.1.1 = (dSeq (dPutF wC 0 3 (dLoc 0) (dInt 0))
  dReV) := by simp only [a_X0_forget, p_sSet, p_sInc, p_sPutF, p_sUpdF, p_sPutA, p_sUpdA, sDo, p_sCpy, p_sSeq, p_sIf, p_sIfE, p_sWh, p_sRet, p_sReV, p_sBlk, p_sSw, p_wDf, p_wCs, p_eInt, p_eLng, p_eNll, p_eStr, p_eSta, p_eLoc, p_eBin, p_eDiv, p_eI2L, p_eL2I, p_eFld, p_eAr, p_eRo, p_eLen, eCal, p_eMt, p_eAbs, p_eBo, p_eCon, p_aA0, p_aA1, p_oCmp, p_oCm0, p_oCmpL, p_oNul, p_oAnd, p_oOr, p_oNot]
  exact congrArg (fun z => fin false (z [v0] M)) h
noncomputable def wc1_X10_found : CoD := (dCmp .lt (dLoc 1) (dLen wC 0 (dFld wC 10 4 (dLoc 0))))
noncomputable def wb1_X10_found : StD := (dSeq (dPutA wC 0 (dFld wC 10 4 (dLoc 0)) (dLoc 1) (dCal wC ci_X10_at (dA1 (dA1 dA0 (dFld wC 6 0 (dFld wC 10 1 (dLoc 0)))) (dLoc 1))))
  (dInc 1 1))
set_option maxRecDepth 100000 in
theorem u_X10_found (v0 : Int) (M : Mem) : ci_X10_found.2.2.2.2 [v0] M = fin false ((dSeq (dSeq (dSeq (dSet 1 (dInt 0))
  (dWh (wc1_X10_found) (wb1_X10_found)))
  (dSeq (dDo wC ci_X2_settle (dA1 (dA1 dA0 (dFld wC 10 5 (dLoc 0))) (dFld wC 10 1 (dLoc 0))))
  (dSeq (dDo wC ci_X7_build (dA1 (dA1 dA0 (dFld wC 10 12 (dLoc 0))) (dFld wC 10 1 (dLoc 0))))
  (dSeq (dDo wC ci_X1_forget (dA1 dA0 (dFld wC 10 13 (dLoc 0))))
  (dSeq (dDo wC ci_X0_forget (dA1 dA0 (dFld wC 10 10 (dLoc 0))))
  (dPutF wC 10 16 (dLoc 0) (dInt 0)))))))
  dReV) [v0, 0] M) := by
  have h : a_X10_found.1.1 = (dSeq (dSeq (dSeq (dSet 1 (dInt 0))
  (dWh (wc1_X10_found) (wb1_X10_found)))
  (dSeq (dDo wC ci_X2_settle (dA1 (dA1 dA0 (dFld wC 10 5 (dLoc 0))) (dFld wC 10 1 (dLoc 0))))
  (dSeq (dDo wC ci_X7_build (dA1 (dA1 dA0 (dFld wC 10 12 (dLoc 0))) (dFld wC 10 1 (dLoc 0))))
  (dSeq (dDo wC ci_X1_forget (dA1 dA0 (dFld wC 10 13 (dLoc 0))))
  (dSeq (dDo wC ci_X0_forget (dA1 dA0 (dFld wC 10 10 (dLoc 0))))
  (dPutF wC 10 16 (dLoc 0) (dInt 0)))))))
  dReV) := by simp only [a_X10_found, wc1_X10_found, wb1_X10_found, p_sSet, p_sInc, p_sPutF, p_sUpdF, p_sPutA, p_sUpdA, sDo, p_sCpy, p_sSeq, p_sIf, p_sIfE, p_sWh, p_sRet, p_sReV, p_sBlk, p_sSw, p_wDf, p_wCs, p_eInt, p_eLng, p_eNll, p_eStr, p_eSta, p_eLoc, p_eBin, p_eDiv, p_eI2L, p_eL2I, p_eFld, p_eAr, p_eRo, p_eLen, eCal, p_eMt, p_eAbs, p_eBo, p_eCon, p_aA0, p_aA1, p_oCmp, p_oCm0, p_oCmpL, p_oNul, p_oAnd, p_oOr, p_oNot]
  exact congrArg (fun z => fin false (z [v0, 0] M)) h
set_option maxRecDepth 100000 in
theorem u_X4_add (v0 v1 v2 : Int) (M : Mem) : ci_X4_add.2.2.2.2 [v0, v1, v2] M = fin false ((dSeq (dSet 3 (dFld wC 4 5 (dLoc 0)))
  (dSeq (dDo wC ci_X10_move (dA1 (dA1 (dA1 (dA1 (dA1 dA0 (dLoc 1)) (dInt 0)) (dFld wC 4 0 (dLoc 0))) (dBin (opF 2) (dLoc 3) (dInt 240))) (dLoc 2)))
  (dSeq (dDo wC ci_X10_put (dA1 (dA1 (dA1 dA0 (dFld wC 4 1 (dLoc 0))) (dLoc 3)) (dLoc 2)))
  (dSeq (dUpdF wC 0 4 5 (dLoc 0) (dInt 1))
  (dRet (dLoc 3)))))) [v0, v1, v2, 0] M) := by
  have h : a_X4_add.1.1 = (dSeq (dSet 3 (dFld wC 4 5 (dLoc 0)))
  (dSeq (dDo wC ci_X10_move (dA1 (dA1 (dA1 (dA1 (dA1 dA0 (dLoc 1)) (dInt 0)) (dFld wC 4 0 (dLoc 0))) (dBin (opF 2) (dLoc 3) (dInt 240))) (dLoc 2)))
  (dSeq (dDo wC ci_X10_put (dA1 (dA1 (dA1 dA0 (dFld wC 4 1 (dLoc 0))) (dLoc 3)) (dLoc 2)))
  (dSeq (dUpdF wC 0 4 5 (dLoc 0) (dInt 1))
  (dRet (dLoc 3)))))) := by simp only [a_X4_add, p_sSet, p_sInc, p_sPutF, p_sUpdF, p_sPutA, p_sUpdA, sDo, p_sCpy, p_sSeq, p_sIf, p_sIfE, p_sWh, p_sRet, p_sReV, p_sBlk, p_sSw, p_wDf, p_wCs, p_eInt, p_eLng, p_eNll, p_eStr, p_eSta, p_eLoc, p_eBin, p_eDiv, p_eI2L, p_eL2I, p_eFld, p_eAr, p_eRo, p_eLen, eCal, p_eMt, p_eAbs, p_eBo, p_eCon, p_aA0, p_aA1, p_oCmp, p_oCm0, p_oCmpL, p_oNul, p_oAnd, p_oOr, p_oNot]
  exact congrArg (fun z => fin false (z [v0, v1, v2, 0] M)) h
set_option maxRecDepth 100000 in
theorem u_X10_text (v0 v1 : Int) (M : Mem) : ci_X10_text.2.2.2.2 [v0, v1] M = fin false ((dSeq (dIf (dAnd (dCm0 .eq (dLoc 1)) (dCmp .eq (dCal wC ci_X6_read (dA1 (dA1 dA0 (dFld wC 10 1 (dLoc 0))) (dFld wC 10 0 (dLoc 0)))) (dInt (-1)))) (dSeq (dDo wC ci_X10_found (dA1 dA0 (dLoc 0)))
  (dSeq (dPutF wC 8 1 (dFld wC 10 0 (dLoc 0)) (dInt 0))
  (dRet (dFld wC 2 1 (dFld wC 10 5 (dLoc 0)))))))
  (dSeq (dIf (dAnd (dAnd (dCmp .eq (dLoc 1) (dInt 1)) (dCmp .lt (dFld wC 4 5 (dFld wC 10 3 (dLoc 0))) (dInt 4))) (dCmp .eq (dCal wC ci_X3_read (dA1 (dA1 dA0 (dFld wC 10 2 (dLoc 0))) (dFld wC 10 0 (dLoc 0)))) (dInt (-1)))) (dSeq (dPutF wC 8 1 (dFld wC 10 0 (dLoc 0)) (dInt 0))
  (dRet (dCal wC ci_X4_add (dA1 (dA1 (dA1 dA0 (dFld wC 10 3 (dLoc 0))) (dFld wC 3 0 (dFld wC 10 2 (dLoc 0)))) (dFld wC 3 1 (dFld wC 10 2 (dLoc 0))))))))
  (dRet (dInt (-1))))) [v0, v1] M) := by
  have h : a_X10_text.1.1 = (dSeq (dIf (dAnd (dCm0 .eq (dLoc 1)) (dCmp .eq (dCal wC ci_X6_read (dA1 (dA1 dA0 (dFld wC 10 1 (dLoc 0))) (dFld wC 10 0 (dLoc 0)))) (dInt (-1)))) (dSeq (dDo wC ci_X10_found (dA1 dA0 (dLoc 0)))
  (dSeq (dPutF wC 8 1 (dFld wC 10 0 (dLoc 0)) (dInt 0))
  (dRet (dFld wC 2 1 (dFld wC 10 5 (dLoc 0)))))))
  (dSeq (dIf (dAnd (dAnd (dCmp .eq (dLoc 1) (dInt 1)) (dCmp .lt (dFld wC 4 5 (dFld wC 10 3 (dLoc 0))) (dInt 4))) (dCmp .eq (dCal wC ci_X3_read (dA1 (dA1 dA0 (dFld wC 10 2 (dLoc 0))) (dFld wC 10 0 (dLoc 0)))) (dInt (-1)))) (dSeq (dPutF wC 8 1 (dFld wC 10 0 (dLoc 0)) (dInt 0))
  (dRet (dCal wC ci_X4_add (dA1 (dA1 (dA1 dA0 (dFld wC 10 3 (dLoc 0))) (dFld wC 3 0 (dFld wC 10 2 (dLoc 0)))) (dFld wC 3 1 (dFld wC 10 2 (dLoc 0))))))))
  (dRet (dInt (-1))))) := by simp only [a_X10_text, p_sSet, p_sInc, p_sPutF, p_sUpdF, p_sPutA, p_sUpdA, sDo, p_sCpy, p_sSeq, p_sIf, p_sIfE, p_sWh, p_sRet, p_sReV, p_sBlk, p_sSw, p_wDf, p_wCs, p_eInt, p_eLng, p_eNll, p_eStr, p_eSta, p_eLoc, p_eBin, p_eDiv, p_eI2L, p_eL2I, p_eFld, p_eAr, p_eRo, p_eLen, eCal, p_eMt, p_eAbs, p_eBo, p_eCon, p_aA0, p_aA1, p_oCmp, p_oCm0, p_oCmpL, p_oNul, p_oAnd, p_oOr, p_oNot]
  exact congrArg (fun z => fin false (z [v0, v1] M)) h
set_option maxRecDepth 100000 in
theorem u_X10_isTold (v0 : Int) (M : Mem) : ci_X10_isTold.2.2.2.2 [v0] M = fin true ((dRet (dBo (dCm0 .gt (dFld wC 2 1 (dFld wC 10 5 (dLoc 0)))))) [v0] M) := by
  have h : a_X10_isTold.1.1 = (dRet (dBo (dCm0 .gt (dFld wC 2 1 (dFld wC 10 5 (dLoc 0)))))) := by simp only [a_X10_isTold, p_sSet, p_sInc, p_sPutF, p_sUpdF, p_sPutA, p_sUpdA, sDo, p_sCpy, p_sSeq, p_sIf, p_sIfE, p_sWh, p_sRet, p_sReV, p_sBlk, p_sSw, p_wDf, p_wCs, p_eInt, p_eLng, p_eNll, p_eStr, p_eSta, p_eLoc, p_eBin, p_eDiv, p_eI2L, p_eL2I, p_eFld, p_eAr, p_eRo, p_eLen, eCal, p_eMt, p_eAbs, p_eBo, p_eCon, p_aA0, p_aA1, p_oCmp, p_oCm0, p_oCmpL, p_oNul, p_oAnd, p_oOr, p_oNot]
  exact congrArg (fun z => fin true (z [v0] M)) h
set_option maxRecDepth 100000 in
theorem u_X10_master (v0 v1 : Int) (M : Mem) : ci_X10_master.2.2.2.2 [v0, v1] M = fin false ((dRet (dCon (dAnd (dAnd (dCm0 .ne (dCal wC ci_X10_isTold (dA1 dA0 (dLoc 0)))) (dCm0 .ge (dLoc 1))) (dCmp .lt (dLoc 1) (dLen wC 0 (dFld wC 10 4 (dLoc 0))))) (dAr wC 0 (dFld wC 10 4 (dLoc 0)) (dLoc 1)) (dInt (-1)))) [v0, v1] M) := by
  have h : a_X10_master.1.1 = (dRet (dCon (dAnd (dAnd (dCm0 .ne (dCal wC ci_X10_isTold (dA1 dA0 (dLoc 0)))) (dCm0 .ge (dLoc 1))) (dCmp .lt (dLoc 1) (dLen wC 0 (dFld wC 10 4 (dLoc 0))))) (dAr wC 0 (dFld wC 10 4 (dLoc 0)) (dLoc 1)) (dInt (-1)))) := by simp only [a_X10_master, p_sSet, p_sInc, p_sPutF, p_sUpdF, p_sPutA, p_sUpdA, sDo, p_sCpy, p_sSeq, p_sIf, p_sIfE, p_sWh, p_sRet, p_sReV, p_sBlk, p_sSw, p_wDf, p_wCs, p_eInt, p_eLng, p_eNll, p_eStr, p_eSta, p_eLoc, p_eBin, p_eDiv, p_eI2L, p_eL2I, p_eFld, p_eAr, p_eRo, p_eLen, eCal, p_eMt, p_eAbs, p_eBo, p_eCon, p_aA0, p_aA1, p_oCmp, p_oCm0, p_oCmpL, p_oNul, p_oAnd, p_oOr, p_oNot]
  exact congrArg (fun z => fin false (z [v0, v1] M)) h
set_option maxRecDepth 100000 in
theorem u_X10_way (v0 v1 v2 : Int) (M : Mem) : ci_X10_way.2.2.2.2 [v0, v1, v2] M = fin false ((dSeq (dSet 3 (dBo (dAnd (dAnd (dAnd (dCm0 .ge (dLoc 1)) (dCmp .lt (dLoc 1) (dFld wC 7 2 (dFld wC 10 12 (dLoc 0))))) (dCm0 .ge (dLoc 2))) (dCmp .lt (dLoc 2) (dInt 3)))))
  (dRet (dCon (dCm0 .ne (dLoc 3)) (dCal wC ci_X10_at (dA1 (dA1 dA0 (dFld wC 7 0 (dFld wC 10 12 (dLoc 0)))) (dBin (opF 0) (dBin (opF 2) (dLoc 1) (dInt 3)) (dLoc 2)))) (dInt (-1))))) [v0, v1, v2, 0] M) := by
  have h : a_X10_way.1.1 = (dSeq (dSet 3 (dBo (dAnd (dAnd (dAnd (dCm0 .ge (dLoc 1)) (dCmp .lt (dLoc 1) (dFld wC 7 2 (dFld wC 10 12 (dLoc 0))))) (dCm0 .ge (dLoc 2))) (dCmp .lt (dLoc 2) (dInt 3)))))
  (dRet (dCon (dCm0 .ne (dLoc 3)) (dCal wC ci_X10_at (dA1 (dA1 dA0 (dFld wC 7 0 (dFld wC 10 12 (dLoc 0)))) (dBin (opF 0) (dBin (opF 2) (dLoc 1) (dInt 3)) (dLoc 2)))) (dInt (-1))))) := by simp only [a_X10_way, p_sSet, p_sInc, p_sPutF, p_sUpdF, p_sPutA, p_sUpdA, sDo, p_sCpy, p_sSeq, p_sIf, p_sIfE, p_sWh, p_sRet, p_sReV, p_sBlk, p_sSw, p_wDf, p_wCs, p_eInt, p_eLng, p_eNll, p_eStr, p_eSta, p_eLoc, p_eBin, p_eDiv, p_eI2L, p_eL2I, p_eFld, p_eAr, p_eRo, p_eLen, eCal, p_eMt, p_eAbs, p_eBo, p_eCon, p_aA0, p_aA1, p_oCmp, p_oCm0, p_oCmpL, p_oNul, p_oAnd, p_oOr, p_oNot]
  exact congrArg (fun z => fin false (z [v0, v1, v2, 0] M)) h
set_option maxRecDepth 100000 in
theorem u_X10_law (v0 v1 : Int) (M : Mem) : ci_X10_law.2.2.2.2 [v0, v1] M = fin true ((dSeq (dIf (dOr (dCmp .lt (dLoc 1) (dInt (-1))) (dCmp .ge (dLoc 1) (dFld wC 4 5 (dFld wC 10 3 (dLoc 0))))) (dRet (dInt 0)))
  (dSeq (dPutF wC 4 6 (dFld wC 10 3 (dLoc 0)) (dLoc 1))
  (dRet (dInt 1)))) [v0, v1] M) := by
  have h : a_X10_law.1.1 = (dSeq (dIf (dOr (dCmp .lt (dLoc 1) (dInt (-1))) (dCmp .ge (dLoc 1) (dFld wC 4 5 (dFld wC 10 3 (dLoc 0))))) (dRet (dInt 0)))
  (dSeq (dPutF wC 4 6 (dFld wC 10 3 (dLoc 0)) (dLoc 1))
  (dRet (dInt 1)))) := by simp only [a_X10_law, p_sSet, p_sInc, p_sPutF, p_sUpdF, p_sPutA, p_sUpdA, sDo, p_sCpy, p_sSeq, p_sIf, p_sIfE, p_sWh, p_sRet, p_sReV, p_sBlk, p_sSw, p_wDf, p_wCs, p_eInt, p_eLng, p_eNll, p_eStr, p_eSta, p_eLoc, p_eBin, p_eDiv, p_eI2L, p_eL2I, p_eFld, p_eAr, p_eRo, p_eLen, eCal, p_eMt, p_eAbs, p_eBo, p_eCon, p_aA0, p_aA1, p_oCmp, p_oCm0, p_oCmpL, p_oNul, p_oAnd, p_oOr, p_oNot]
  exact congrArg (fun z => fin true (z [v0, v1] M)) h
set_option maxRecDepth 100000 in
theorem u_X2_has (v0 v1 : Int) (M : Mem) : ci_X2_has.2.2.2.2 [v0, v1] M = fin true ((dRet (dBo (dAnd (dCm0 .ge (dLoc 1)) (dCmp .lt (dLoc 1) (dFld wC 2 1 (dLoc 0)))))) [v0, v1] M) := by
  have h : a_X2_has.1.1 = (dRet (dBo (dAnd (dCm0 .ge (dLoc 1)) (dCmp .lt (dLoc 1) (dFld wC 2 1 (dLoc 0)))))) := by simp only [a_X2_has, p_sSet, p_sInc, p_sPutF, p_sUpdF, p_sPutA, p_sUpdA, sDo, p_sCpy, p_sSeq, p_sIf, p_sIfE, p_sWh, p_sRet, p_sReV, p_sBlk, p_sSw, p_wDf, p_wCs, p_eInt, p_eLng, p_eNll, p_eStr, p_eSta, p_eLoc, p_eBin, p_eDiv, p_eI2L, p_eL2I, p_eFld, p_eAr, p_eRo, p_eLen, eCal, p_eMt, p_eAbs, p_eBo, p_eCon, p_aA0, p_aA1, p_oCmp, p_oCm0, p_oCmpL, p_oNul, p_oAnd, p_oOr, p_oNot]
  exact congrArg (fun z => fin true (z [v0, v1] M)) h
set_option maxRecDepth 100000 in
theorem u_X2_get (v0 v1 v2 : Int) (M : Mem) : ci_X2_get.2.2.2.2 [v0, v1, v2] M = fin false ((dSeq (dSet 3 (dBin (opF 0) (dBin (opF 2) (dLoc 1) (dInt 7)) (dLoc 2)))
  (dRet (dCon (dAnd (dCm0 .ge (dLoc 3)) (dCmp .lt (dLoc 3) (dLen wC 0 (dFld wC 2 0 (dLoc 0))))) (dAr wC 0 (dFld wC 2 0 (dLoc 0)) (dLoc 3)) (dInt 0)))) [v0, v1, v2, 0] M) := by
  have h : a_X2_get.1.1 = (dSeq (dSet 3 (dBin (opF 0) (dBin (opF 2) (dLoc 1) (dInt 7)) (dLoc 2)))
  (dRet (dCon (dAnd (dCm0 .ge (dLoc 3)) (dCmp .lt (dLoc 3) (dLen wC 0 (dFld wC 2 0 (dLoc 0))))) (dAr wC 0 (dFld wC 2 0 (dLoc 0)) (dLoc 3)) (dInt 0)))) := by simp only [a_X2_get, p_sSet, p_sInc, p_sPutF, p_sUpdF, p_sPutA, p_sUpdA, sDo, p_sCpy, p_sSeq, p_sIf, p_sIfE, p_sWh, p_sRet, p_sReV, p_sBlk, p_sSw, p_wDf, p_wCs, p_eInt, p_eLng, p_eNll, p_eStr, p_eSta, p_eLoc, p_eBin, p_eDiv, p_eI2L, p_eL2I, p_eFld, p_eAr, p_eRo, p_eLen, eCal, p_eMt, p_eAbs, p_eBo, p_eCon, p_aA0, p_aA1, p_oCmp, p_oCm0, p_oCmpL, p_oNul, p_oAnd, p_oOr, p_oNot]
  exact congrArg (fun z => fin false (z [v0, v1, v2, 0] M)) h
set_option maxRecDepth 100000 in
theorem u_X2_lives (v0 v1 : Int) (M : Mem) : ci_X2_lives.2.2.2.2 [v0, v1] M = fin true ((dRet (dBo (dAnd (dCm0 .ne (dCal wC ci_X2_has (dA1 (dA1 dA0 (dLoc 0)) (dLoc 1)))) (dCm0 .eq (dCal wC ci_X2_get (dA1 (dA1 (dA1 dA0 (dLoc 0)) (dLoc 1)) (dInt 5))))))) [v0, v1] M) := by
  have h : a_X2_lives.1.1 = (dRet (dBo (dAnd (dCm0 .ne (dCal wC ci_X2_has (dA1 (dA1 dA0 (dLoc 0)) (dLoc 1)))) (dCm0 .eq (dCal wC ci_X2_get (dA1 (dA1 (dA1 dA0 (dLoc 0)) (dLoc 1)) (dInt 5))))))) := by simp only [a_X2_lives, p_sSet, p_sInc, p_sPutF, p_sUpdF, p_sPutA, p_sUpdA, sDo, p_sCpy, p_sSeq, p_sIf, p_sIfE, p_sWh, p_sRet, p_sReV, p_sBlk, p_sSw, p_wDf, p_wCs, p_eInt, p_eLng, p_eNll, p_eStr, p_eSta, p_eLoc, p_eBin, p_eDiv, p_eI2L, p_eL2I, p_eFld, p_eAr, p_eRo, p_eLen, eCal, p_eMt, p_eAbs, p_eBo, p_eCon, p_aA0, p_aA1, p_oCmp, p_oCm0, p_oCmpL, p_oNul, p_oAnd, p_oOr, p_oNot]
  exact congrArg (fun z => fin true (z [v0, v1] M)) h
set_option maxRecDepth 100000 in
theorem u_X10_refuse (v0 v1 v2 : Int) (M : Mem) : ci_X10_refuse.2.2.2.2 [v0, v1, v2] M = fin false ((dSeq (dDo wC ci_X10_put (dA1 (dA1 (dA1 dA0 (dFld wC 10 14 (dLoc 0))) (dLoc 1)) (dBin (opF 0) (dCal wC ci_X10_at (dA1 (dA1 dA0 (dFld wC 10 14 (dLoc 0))) (dLoc 1))) (dInt 1))))
  (dRet (dLoc 2))) [v0, v1, v2] M) := by
  have h : a_X10_refuse.1.1 = (dSeq (dDo wC ci_X10_put (dA1 (dA1 (dA1 dA0 (dFld wC 10 14 (dLoc 0))) (dLoc 1)) (dBin (opF 0) (dCal wC ci_X10_at (dA1 (dA1 dA0 (dFld wC 10 14 (dLoc 0))) (dLoc 1))) (dInt 1))))
  (dRet (dLoc 2))) := by simp only [a_X10_refuse, p_sSet, p_sInc, p_sPutF, p_sUpdF, p_sPutA, p_sUpdA, sDo, p_sCpy, p_sSeq, p_sIf, p_sIfE, p_sWh, p_sRet, p_sReV, p_sBlk, p_sSw, p_wDf, p_wCs, p_eInt, p_eLng, p_eNll, p_eStr, p_eSta, p_eLoc, p_eBin, p_eDiv, p_eI2L, p_eL2I, p_eFld, p_eAr, p_eRo, p_eLen, eCal, p_eMt, p_eAbs, p_eBo, p_eCon, p_aA0, p_aA1, p_oCmp, p_oCm0, p_oCmpL, p_oNul, p_oAnd, p_oOr, p_oNot]
  exact congrArg (fun z => fin false (z [v0, v1, v2] M)) h
set_option maxRecDepth 100000 in
theorem u_X0_keep (v0 v1 : Int) (M : Mem) : ci_X0_keep.2.2.2.2 [v0, v1] M = fin false ((dSeq (dSeq (dDo wC ci_X10_move (dA1 (dA1 (dA1 (dA1 (dA1 dA0 (dFld wC 2 0 (dLoc 1))) (dInt 0)) (dFld wC 0 0 (dLoc 0))) (dBin (opF 2) (dFld wC 0 2 (dLoc 0)) (dInt 56))) (dInt 56)))
  (dSeq (dDo wC ci_X10_put (dA1 (dA1 (dA1 dA0 (dFld wC 0 1 (dLoc 0))) (dFld wC 0 2 (dLoc 0))) (dFld wC 2 2 (dLoc 1))))
  (dSeq (dPutF wC 0 2 (dLoc 0) (dDiv (dvF 1) (dvW 1) (dBin (opF 0) (dFld wC 0 2 (dLoc 0)) (dInt 1)) (dInt 40)))
  (dPutF wC 0 3 (dLoc 0) (dBin (mtF 1) (dInt 40) (dBin (opF 0) (dFld wC 0 3 (dLoc 0)) (dInt 1)))))))
  dReV) [v0, v1] M) := by
  have h : a_X0_keep.1.1 = (dSeq (dSeq (dDo wC ci_X10_move (dA1 (dA1 (dA1 (dA1 (dA1 dA0 (dFld wC 2 0 (dLoc 1))) (dInt 0)) (dFld wC 0 0 (dLoc 0))) (dBin (opF 2) (dFld wC 0 2 (dLoc 0)) (dInt 56))) (dInt 56)))
  (dSeq (dDo wC ci_X10_put (dA1 (dA1 (dA1 dA0 (dFld wC 0 1 (dLoc 0))) (dFld wC 0 2 (dLoc 0))) (dFld wC 2 2 (dLoc 1))))
  (dSeq (dPutF wC 0 2 (dLoc 0) (dDiv (dvF 1) (dvW 1) (dBin (opF 0) (dFld wC 0 2 (dLoc 0)) (dInt 1)) (dInt 40)))
  (dPutF wC 0 3 (dLoc 0) (dBin (mtF 1) (dInt 40) (dBin (opF 0) (dFld wC 0 3 (dLoc 0)) (dInt 1)))))))
  dReV) := by simp only [a_X0_keep, p_sSet, p_sInc, p_sPutF, p_sUpdF, p_sPutA, p_sUpdA, sDo, p_sCpy, p_sSeq, p_sIf, p_sIfE, p_sWh, p_sRet, p_sReV, p_sBlk, p_sSw, p_wDf, p_wCs, p_eInt, p_eLng, p_eNll, p_eStr, p_eSta, p_eLoc, p_eBin, p_eDiv, p_eI2L, p_eL2I, p_eFld, p_eAr, p_eRo, p_eLen, eCal, p_eMt, p_eAbs, p_eBo, p_eCon, p_aA0, p_aA1, p_oCmp, p_oCm0, p_oCmpL, p_oNul, p_oAnd, p_oOr, p_oNot]
  exact congrArg (fun z => fin false (z [v0, v1] M)) h
set_option maxRecDepth 100000 in
theorem u_X2_fear (v0 v1 : Int) (M : Mem) : ci_X2_fear.2.2.2.2 [v0, v1] M = fin false ((dSeq (dSet 2 (dCal wC ci_X2_get (dA1 (dA1 (dA1 dA0 (dLoc 0)) (dLoc 1)) (dInt 2))))
  (dSeq (dIf (dCmp .eq (dLoc 2) (dInt 3)) (dRet (dInt (-1))))
  (dSeq (dSet 3 (dCal wC ci_X2_get (dA1 (dA1 (dA1 dA0 (dLoc 0)) (dLoc 1)) (dInt 1))))
  (dSeq (dIf (dCmp .eq (dLoc 2) (dInt 1)) (dSet 3 (dDiv (dvF 0) (dvW 0) (dLoc 3) (dInt 2))))
  (dSeq (dIf (dCm0 .ne (dCal wC ci_X2_get (dA1 (dA1 (dA1 dA0 (dLoc 0)) (dLoc 1)) (dInt 6)))) (dSet 3 (dDiv (dvF 0) (dvW 0) (dLoc 3) (dInt 2))))
  (dRet (dCon (dCmp .eq (dLoc 2) (dInt 2)) (dBin (opF 0) (dLoc 3) (dInt 10)) (dLoc 3)))))))) [v0, v1, 0, 0] M) := by
  have h : a_X2_fear.1.1 = (dSeq (dSet 2 (dCal wC ci_X2_get (dA1 (dA1 (dA1 dA0 (dLoc 0)) (dLoc 1)) (dInt 2))))
  (dSeq (dIf (dCmp .eq (dLoc 2) (dInt 3)) (dRet (dInt (-1))))
  (dSeq (dSet 3 (dCal wC ci_X2_get (dA1 (dA1 (dA1 dA0 (dLoc 0)) (dLoc 1)) (dInt 1))))
  (dSeq (dIf (dCmp .eq (dLoc 2) (dInt 1)) (dSet 3 (dDiv (dvF 0) (dvW 0) (dLoc 3) (dInt 2))))
  (dSeq (dIf (dCm0 .ne (dCal wC ci_X2_get (dA1 (dA1 (dA1 dA0 (dLoc 0)) (dLoc 1)) (dInt 6)))) (dSet 3 (dDiv (dvF 0) (dvW 0) (dLoc 3) (dInt 2))))
  (dRet (dCon (dCmp .eq (dLoc 2) (dInt 2)) (dBin (opF 0) (dLoc 3) (dInt 10)) (dLoc 3)))))))) := by simp only [a_X2_fear, p_sSet, p_sInc, p_sPutF, p_sUpdF, p_sPutA, p_sUpdA, sDo, p_sCpy, p_sSeq, p_sIf, p_sIfE, p_sWh, p_sRet, p_sReV, p_sBlk, p_sSw, p_wDf, p_wCs, p_eInt, p_eLng, p_eNll, p_eStr, p_eSta, p_eLoc, p_eBin, p_eDiv, p_eI2L, p_eL2I, p_eFld, p_eAr, p_eRo, p_eLen, eCal, p_eMt, p_eAbs, p_eBo, p_eCon, p_aA0, p_aA1, p_oCmp, p_oCm0, p_oCmpL, p_oNul, p_oAnd, p_oOr, p_oNot]
  exact congrArg (fun z => fin false (z [v0, v1, 0, 0] M)) h
set_option maxRecDepth 100000 in
theorem u_X10_show (v0 v1 v2 : Int) (M : Mem) : ci_X10_show.2.2.2.2 [v0, v1, v2] M = fin false ((dSeq (dIf (dNot (dCm0 .ne (dCal wC ci_X2_lives (dA1 (dA1 dA0 (dFld wC 10 5 (dLoc 0))) (dLoc 1))))) (dRet (dCal wC ci_X10_refuse (dA1 (dA1 (dA1 dA0 (dLoc 0)) (dCon (dCm0 .ne (dCal wC ci_X2_has (dA1 (dA1 dA0 (dFld wC 10 5 (dLoc 0))) (dLoc 1)))) (dInt 1) (dInt 0))) (dInt (-1000000))))))
  (dSeq (dIf (dOr (dCm0 .lt (dLoc 2)) (dCmp .gt (dLoc 2) (dCal wC ci_X2_get (dA1 (dA1 (dA1 dA0 (dFld wC 10 5 (dLoc 0))) (dLoc 1)) (dInt 0))))) (dRet (dCal wC ci_X10_refuse (dA1 (dA1 (dA1 dA0 (dLoc 0)) (dInt 2)) (dInt (-1000000))))))
  (dSeq (dDo wC ci_X0_keep (dA1 (dA1 dA0 (dFld wC 10 10 (dLoc 0))) (dFld wC 10 5 (dLoc 0))))
  (dSeq (dDo wC ci_X2_set (dA1 (dA1 (dA1 (dA1 dA0 (dFld wC 10 5 (dLoc 0))) (dLoc 1)) (dInt 1)) (dLoc 2)))
  (dRet (dCal wC ci_X2_fear (dA1 (dA1 dA0 (dFld wC 10 5 (dLoc 0))) (dLoc 1)))))))) [v0, v1, v2] M) := by
  have h : a_X10_show.1.1 = (dSeq (dIf (dNot (dCm0 .ne (dCal wC ci_X2_lives (dA1 (dA1 dA0 (dFld wC 10 5 (dLoc 0))) (dLoc 1))))) (dRet (dCal wC ci_X10_refuse (dA1 (dA1 (dA1 dA0 (dLoc 0)) (dCon (dCm0 .ne (dCal wC ci_X2_has (dA1 (dA1 dA0 (dFld wC 10 5 (dLoc 0))) (dLoc 1)))) (dInt 1) (dInt 0))) (dInt (-1000000))))))
  (dSeq (dIf (dOr (dCm0 .lt (dLoc 2)) (dCmp .gt (dLoc 2) (dCal wC ci_X2_get (dA1 (dA1 (dA1 dA0 (dFld wC 10 5 (dLoc 0))) (dLoc 1)) (dInt 0))))) (dRet (dCal wC ci_X10_refuse (dA1 (dA1 (dA1 dA0 (dLoc 0)) (dInt 2)) (dInt (-1000000))))))
  (dSeq (dDo wC ci_X0_keep (dA1 (dA1 dA0 (dFld wC 10 10 (dLoc 0))) (dFld wC 10 5 (dLoc 0))))
  (dSeq (dDo wC ci_X2_set (dA1 (dA1 (dA1 (dA1 dA0 (dFld wC 10 5 (dLoc 0))) (dLoc 1)) (dInt 1)) (dLoc 2)))
  (dRet (dCal wC ci_X2_fear (dA1 (dA1 dA0 (dFld wC 10 5 (dLoc 0))) (dLoc 1)))))))) := by simp only [a_X10_show, p_sSet, p_sInc, p_sPutF, p_sUpdF, p_sPutA, p_sUpdA, sDo, p_sCpy, p_sSeq, p_sIf, p_sIfE, p_sWh, p_sRet, p_sReV, p_sBlk, p_sSw, p_wDf, p_wCs, p_eInt, p_eLng, p_eNll, p_eStr, p_eSta, p_eLoc, p_eBin, p_eDiv, p_eI2L, p_eL2I, p_eFld, p_eAr, p_eRo, p_eLen, eCal, p_eMt, p_eAbs, p_eBo, p_eCon, p_aA0, p_aA1, p_oCmp, p_oCm0, p_oCmpL, p_oNul, p_oAnd, p_oOr, p_oNot]
  exact congrArg (fun z => fin false (z [v0, v1, v2] M)) h
set_option maxRecDepth 100000 in
theorem u_X10_warn (v0 v1 : Int) (M : Mem) : ci_X10_warn.2.2.2.2 [v0, v1] M = fin false ((dSeq (dIf (dNot (dCm0 .ne (dCal wC ci_X2_has (dA1 (dA1 dA0 (dFld wC 10 5 (dLoc 0))) (dLoc 1))))) (dRet (dCal wC ci_X10_refuse (dA1 (dA1 (dA1 dA0 (dLoc 0)) (dInt 0)) (dInt (-1))))))
  (dSeq (dSet 2 (dCal wC ci_X2_get (dA1 (dA1 (dA1 dA0 (dFld wC 10 5 (dLoc 0))) (dLoc 1)) (dInt 3))))
  (dSeq (dIf (dOr (dNot (dCm0 .ne (dCal wC ci_X2_lives (dA1 (dA1 dA0 (dFld wC 10 5 (dLoc 0))) (dLoc 1))))) (dAnd (dCm0 .ne (dCal wC ci_X2_has (dA1 (dA1 dA0 (dFld wC 10 5 (dLoc 0))) (dLoc 2)))) (dNot (dCm0 .ne (dCal wC ci_X2_lives (dA1 (dA1 dA0 (dFld wC 10 5 (dLoc 0))) (dLoc 2))))))) (dRet (dCal wC ci_X10_refuse (dA1 (dA1 (dA1 dA0 (dLoc 0)) (dInt 1)) (dInt (-1))))))
  (dSeq (dIf (dOr (dNot (dCm0 .ne (dCal wC ci_X2_has (dA1 (dA1 dA0 (dFld wC 10 5 (dLoc 0))) (dLoc 2))))) (dCm0 .ne (dCal wC ci_X2_get (dA1 (dA1 (dA1 dA0 (dFld wC 10 5 (dLoc 0))) (dLoc 2)) (dInt 6))))) (dRet (dCal wC ci_X10_refuse (dA1 (dA1 (dA1 dA0 (dLoc 0)) (dInt 3)) (dInt (-1))))))
  (dSeq (dDo wC ci_X0_keep (dA1 (dA1 dA0 (dFld wC 10 10 (dLoc 0))) (dFld wC 10 5 (dLoc 0))))
  (dSeq (dDo wC ci_X2_set (dA1 (dA1 (dA1 (dA1 dA0 (dFld wC 10 5 (dLoc 0))) (dLoc 2)) (dInt 6)) (dInt 1)))
  (dRet (dLoc 2)))))))) [v0, v1, 0] M) := by
  have h : a_X10_warn.1.1 = (dSeq (dIf (dNot (dCm0 .ne (dCal wC ci_X2_has (dA1 (dA1 dA0 (dFld wC 10 5 (dLoc 0))) (dLoc 1))))) (dRet (dCal wC ci_X10_refuse (dA1 (dA1 (dA1 dA0 (dLoc 0)) (dInt 0)) (dInt (-1))))))
  (dSeq (dSet 2 (dCal wC ci_X2_get (dA1 (dA1 (dA1 dA0 (dFld wC 10 5 (dLoc 0))) (dLoc 1)) (dInt 3))))
  (dSeq (dIf (dOr (dNot (dCm0 .ne (dCal wC ci_X2_lives (dA1 (dA1 dA0 (dFld wC 10 5 (dLoc 0))) (dLoc 1))))) (dAnd (dCm0 .ne (dCal wC ci_X2_has (dA1 (dA1 dA0 (dFld wC 10 5 (dLoc 0))) (dLoc 2)))) (dNot (dCm0 .ne (dCal wC ci_X2_lives (dA1 (dA1 dA0 (dFld wC 10 5 (dLoc 0))) (dLoc 2))))))) (dRet (dCal wC ci_X10_refuse (dA1 (dA1 (dA1 dA0 (dLoc 0)) (dInt 1)) (dInt (-1))))))
  (dSeq (dIf (dOr (dNot (dCm0 .ne (dCal wC ci_X2_has (dA1 (dA1 dA0 (dFld wC 10 5 (dLoc 0))) (dLoc 2))))) (dCm0 .ne (dCal wC ci_X2_get (dA1 (dA1 (dA1 dA0 (dFld wC 10 5 (dLoc 0))) (dLoc 2)) (dInt 6))))) (dRet (dCal wC ci_X10_refuse (dA1 (dA1 (dA1 dA0 (dLoc 0)) (dInt 3)) (dInt (-1))))))
  (dSeq (dDo wC ci_X0_keep (dA1 (dA1 dA0 (dFld wC 10 10 (dLoc 0))) (dFld wC 10 5 (dLoc 0))))
  (dSeq (dDo wC ci_X2_set (dA1 (dA1 (dA1 (dA1 dA0 (dFld wC 10 5 (dLoc 0))) (dLoc 2)) (dInt 6)) (dInt 1)))
  (dRet (dLoc 2)))))))) := by simp only [a_X10_warn, p_sSet, p_sInc, p_sPutF, p_sUpdF, p_sPutA, p_sUpdA, sDo, p_sCpy, p_sSeq, p_sIf, p_sIfE, p_sWh, p_sRet, p_sReV, p_sBlk, p_sSw, p_wDf, p_wCs, p_eInt, p_eLng, p_eNll, p_eStr, p_eSta, p_eLoc, p_eBin, p_eDiv, p_eI2L, p_eL2I, p_eFld, p_eAr, p_eRo, p_eLen, eCal, p_eMt, p_eAbs, p_eBo, p_eCon, p_aA0, p_aA1, p_oCmp, p_oCm0, p_oCmpL, p_oNul, p_oAnd, p_oOr, p_oNot]
  exact congrArg (fun z => fin false (z [v0, v1, 0] M)) h
noncomputable def wc1_X2_living : CoD := (dCmp .lt (dLoc 2) (dFld wC 2 1 (dLoc 0)))
noncomputable def wb1_X2_living : StD := (dSeq (dIf (dCm0 .ne (dCal wC ci_X2_lives (dA1 (dA1 dA0 (dLoc 0)) (dLoc 2)))) (dSet 1 (dBin (opF 4) (dLoc 1) (dBin (opF 6) (dInt 1) (dLoc 2)))))
  (dInc 2 1))
set_option maxRecDepth 100000 in
theorem u_X2_living (v0 : Int) (M : Mem) : ci_X2_living.2.2.2.2 [v0] M = fin false ((dSeq (dSet 1 (dInt 0))
  (dSeq (dSeq (dSet 2 (dInt 0))
  (dWh (wc1_X2_living) (wb1_X2_living)))
  (dRet (dLoc 1)))) [v0, 0, 0] M) := by
  have h : a_X2_living.1.1 = (dSeq (dSet 1 (dInt 0))
  (dSeq (dSeq (dSet 2 (dInt 0))
  (dWh (wc1_X2_living) (wb1_X2_living)))
  (dRet (dLoc 1)))) := by simp only [a_X2_living, wc1_X2_living, wb1_X2_living, p_sSet, p_sInc, p_sPutF, p_sUpdF, p_sPutA, p_sUpdA, sDo, p_sCpy, p_sSeq, p_sIf, p_sIfE, p_sWh, p_sRet, p_sReV, p_sBlk, p_sSw, p_wDf, p_wCs, p_eInt, p_eLng, p_eNll, p_eStr, p_eSta, p_eLoc, p_eBin, p_eDiv, p_eI2L, p_eL2I, p_eFld, p_eAr, p_eRo, p_eLen, eCal, p_eMt, p_eAbs, p_eBo, p_eCon, p_aA0, p_aA1, p_oCmp, p_oCm0, p_oCmpL, p_oNul, p_oAnd, p_oOr, p_oNot]
  exact congrArg (fun z => fin false (z [v0, 0, 0] M)) h
set_option maxRecDepth 100000 in
theorem u_J6_bitCount_0f7a4C (v0 : Int) (M : Mem) : ci_J6_bitCount_0f7a4C.2.2.2.2 [v0] M = fin false ((dSeq (dSet 0 (dBin (opF 1) (dLoc 0) (dBin (opF 3) (dBin (opF 8) (dLoc 0) (dInt 1)) (dInt 1431655765))))
  (dSeq (dSet 0 (dBin (opF 0) (dBin (opF 3) (dLoc 0) (dInt 858993459)) (dBin (opF 3) (dBin (opF 8) (dLoc 0) (dInt 2)) (dInt 858993459))))
  (dSeq (dSet 0 (dBin (opF 3) (dBin (opF 0) (dLoc 0) (dBin (opF 8) (dLoc 0) (dInt 4))) (dInt 252645135)))
  (dSeq (dSet 0 (dBin (opF 0) (dLoc 0) (dBin (opF 8) (dLoc 0) (dInt 8))))
  (dSeq (dSet 0 (dBin (opF 0) (dLoc 0) (dBin (opF 8) (dLoc 0) (dInt 16))))
  (dRet (dBin (opF 3) (dLoc 0) (dInt 63)))))))) [v0] M) := by
  have h : a_J6_bitCount_0f7a4C.1.1 = (dSeq (dSet 0 (dBin (opF 1) (dLoc 0) (dBin (opF 3) (dBin (opF 8) (dLoc 0) (dInt 1)) (dInt 1431655765))))
  (dSeq (dSet 0 (dBin (opF 0) (dBin (opF 3) (dLoc 0) (dInt 858993459)) (dBin (opF 3) (dBin (opF 8) (dLoc 0) (dInt 2)) (dInt 858993459))))
  (dSeq (dSet 0 (dBin (opF 3) (dBin (opF 0) (dLoc 0) (dBin (opF 8) (dLoc 0) (dInt 4))) (dInt 252645135)))
  (dSeq (dSet 0 (dBin (opF 0) (dLoc 0) (dBin (opF 8) (dLoc 0) (dInt 8))))
  (dSeq (dSet 0 (dBin (opF 0) (dLoc 0) (dBin (opF 8) (dLoc 0) (dInt 16))))
  (dRet (dBin (opF 3) (dLoc 0) (dInt 63)))))))) := by simp only [a_J6_bitCount_0f7a4C, p_sSet, p_sInc, p_sPutF, p_sUpdF, p_sPutA, p_sUpdA, sDo, p_sCpy, p_sSeq, p_sIf, p_sIfE, p_sWh, p_sRet, p_sReV, p_sBlk, p_sSw, p_wDf, p_wCs, p_eInt, p_eLng, p_eNll, p_eStr, p_eSta, p_eLoc, p_eBin, p_eDiv, p_eI2L, p_eL2I, p_eFld, p_eAr, p_eRo, p_eLen, eCal, p_eMt, p_eAbs, p_eBo, p_eCon, p_aA0, p_aA1, p_oCmp, p_oCm0, p_oCmpL, p_oNul, p_oAnd, p_oOr, p_oNot]
  exact congrArg (fun z => fin false (z [v0] M)) h
set_option maxRecDepth 100000 in
theorem u_X2_manyLive (v0 : Int) (M : Mem) : ci_X2_manyLive.2.2.2.2 [v0] M = fin false ((dRet (dCal wC ci_J6_bitCount_0f7a4C (dA1 dA0 (dCal wC ci_X2_living (dA1 dA0 (dLoc 0)))))) [v0] M) := by
  have h : a_X2_manyLive.1.1 = (dRet (dCal wC ci_J6_bitCount_0f7a4C (dA1 dA0 (dCal wC ci_X2_living (dA1 dA0 (dLoc 0)))))) := by simp only [a_X2_manyLive, p_sSet, p_sInc, p_sPutF, p_sUpdF, p_sPutA, p_sUpdA, sDo, p_sCpy, p_sSeq, p_sIf, p_sIfE, p_sWh, p_sRet, p_sReV, p_sBlk, p_sSw, p_wDf, p_wCs, p_eInt, p_eLng, p_eNll, p_eStr, p_eSta, p_eLoc, p_eBin, p_eDiv, p_eI2L, p_eL2I, p_eFld, p_eAr, p_eRo, p_eLen, eCal, p_eMt, p_eAbs, p_eBo, p_eCon, p_aA0, p_aA1, p_oCmp, p_oCm0, p_oCmpL, p_oNul, p_oAnd, p_oOr, p_oNot]
  exact congrArg (fun z => fin false (z [v0] M)) h
set_option maxRecDepth 100000 in
theorem u_X10_leave (v0 v1 : Int) (M : Mem) : ci_X10_leave.2.2.2.2 [v0, v1] M = fin false ((dSeq (dIf (dNot (dCm0 .ne (dCal wC ci_X2_lives (dA1 (dA1 dA0 (dFld wC 10 5 (dLoc 0))) (dLoc 1))))) (dRet (dCal wC ci_X10_refuse (dA1 (dA1 (dA1 dA0 (dLoc 0)) (dCon (dCm0 .ne (dCal wC ci_X2_has (dA1 (dA1 dA0 (dFld wC 10 5 (dLoc 0))) (dLoc 1)))) (dInt 1) (dInt 0))) (dInt (-1))))))
  (dSeq (dIf (dCmp .lt (dCal wC ci_X2_manyLive (dA1 dA0 (dFld wC 10 5 (dLoc 0)))) (dInt 2)) (dRet (dCal wC ci_X10_refuse (dA1 (dA1 (dA1 dA0 (dLoc 0)) (dInt 3)) (dInt (-1))))))
  (dSeq (dDo wC ci_X0_keep (dA1 (dA1 dA0 (dFld wC 10 10 (dLoc 0))) (dFld wC 10 5 (dLoc 0))))
  (dSeq (dDo wC ci_X2_set (dA1 (dA1 (dA1 (dA1 dA0 (dFld wC 10 5 (dLoc 0))) (dLoc 1)) (dInt 5)) (dInt 2)))
  (dRet (dCal wC ci_X2_manyLive (dA1 dA0 (dFld wC 10 5 (dLoc 0))))))))) [v0, v1] M) := by
  have h : a_X10_leave.1.1 = (dSeq (dIf (dNot (dCm0 .ne (dCal wC ci_X2_lives (dA1 (dA1 dA0 (dFld wC 10 5 (dLoc 0))) (dLoc 1))))) (dRet (dCal wC ci_X10_refuse (dA1 (dA1 (dA1 dA0 (dLoc 0)) (dCon (dCm0 .ne (dCal wC ci_X2_has (dA1 (dA1 dA0 (dFld wC 10 5 (dLoc 0))) (dLoc 1)))) (dInt 1) (dInt 0))) (dInt (-1))))))
  (dSeq (dIf (dCmp .lt (dCal wC ci_X2_manyLive (dA1 dA0 (dFld wC 10 5 (dLoc 0)))) (dInt 2)) (dRet (dCal wC ci_X10_refuse (dA1 (dA1 (dA1 dA0 (dLoc 0)) (dInt 3)) (dInt (-1))))))
  (dSeq (dDo wC ci_X0_keep (dA1 (dA1 dA0 (dFld wC 10 10 (dLoc 0))) (dFld wC 10 5 (dLoc 0))))
  (dSeq (dDo wC ci_X2_set (dA1 (dA1 (dA1 (dA1 dA0 (dFld wC 10 5 (dLoc 0))) (dLoc 1)) (dInt 5)) (dInt 2)))
  (dRet (dCal wC ci_X2_manyLive (dA1 dA0 (dFld wC 10 5 (dLoc 0))))))))) := by simp only [a_X10_leave, p_sSet, p_sInc, p_sPutF, p_sUpdF, p_sPutA, p_sUpdA, sDo, p_sCpy, p_sSeq, p_sIf, p_sIfE, p_sWh, p_sRet, p_sReV, p_sBlk, p_sSw, p_wDf, p_wCs, p_eInt, p_eLng, p_eNll, p_eStr, p_eSta, p_eLoc, p_eBin, p_eDiv, p_eI2L, p_eL2I, p_eFld, p_eAr, p_eRo, p_eLen, eCal, p_eMt, p_eAbs, p_eBo, p_eCon, p_aA0, p_aA1, p_oCmp, p_oCm0, p_oCmpL, p_oNul, p_oAnd, p_oOr, p_oNot]
  exact congrArg (fun z => fin false (z [v0, v1] M)) h
set_option maxRecDepth 100000 in
theorem u_X2_welcome (v0 v1 : Int) (M : Mem) : ci_X2_welcome.2.2.2.2 [v0, v1] M = fin false ((dSeq (dSeq (dDo wC ci_X2_set (dA1 (dA1 (dA1 (dA1 dA0 (dLoc 0)) (dLoc 1)) (dInt 0)) (dInt 0)))
  (dSeq (dDo wC ci_X2_set (dA1 (dA1 (dA1 (dA1 dA0 (dLoc 0)) (dLoc 1)) (dInt 1)) (dInt 0)))
  (dSeq (dDo wC ci_X2_set (dA1 (dA1 (dA1 (dA1 dA0 (dLoc 0)) (dLoc 1)) (dInt 2)) (dInt 0)))
  (dSeq (dDo wC ci_X2_set (dA1 (dA1 (dA1 (dA1 dA0 (dLoc 0)) (dLoc 1)) (dInt 3)) (dInt (-1))))
  (dSeq (dDo wC ci_X2_set (dA1 (dA1 (dA1 (dA1 dA0 (dLoc 0)) (dLoc 1)) (dInt 4)) (dInt 14)))
  (dSeq (dDo wC ci_X2_set (dA1 (dA1 (dA1 (dA1 dA0 (dLoc 0)) (dLoc 1)) (dInt 5)) (dInt 0)))
  (dDo wC ci_X2_set (dA1 (dA1 (dA1 (dA1 dA0 (dLoc 0)) (dLoc 1)) (dInt 6)) (dInt 0)))))))))
  dReV) [v0, v1] M) := by
  have h : a_X2_welcome.1.1 = (dSeq (dSeq (dDo wC ci_X2_set (dA1 (dA1 (dA1 (dA1 dA0 (dLoc 0)) (dLoc 1)) (dInt 0)) (dInt 0)))
  (dSeq (dDo wC ci_X2_set (dA1 (dA1 (dA1 (dA1 dA0 (dLoc 0)) (dLoc 1)) (dInt 1)) (dInt 0)))
  (dSeq (dDo wC ci_X2_set (dA1 (dA1 (dA1 (dA1 dA0 (dLoc 0)) (dLoc 1)) (dInt 2)) (dInt 0)))
  (dSeq (dDo wC ci_X2_set (dA1 (dA1 (dA1 (dA1 dA0 (dLoc 0)) (dLoc 1)) (dInt 3)) (dInt (-1))))
  (dSeq (dDo wC ci_X2_set (dA1 (dA1 (dA1 (dA1 dA0 (dLoc 0)) (dLoc 1)) (dInt 4)) (dInt 14)))
  (dSeq (dDo wC ci_X2_set (dA1 (dA1 (dA1 (dA1 dA0 (dLoc 0)) (dLoc 1)) (dInt 5)) (dInt 0)))
  (dDo wC ci_X2_set (dA1 (dA1 (dA1 (dA1 dA0 (dLoc 0)) (dLoc 1)) (dInt 6)) (dInt 0)))))))))
  dReV) := by simp only [a_X2_welcome, p_sSet, p_sInc, p_sPutF, p_sUpdF, p_sPutA, p_sUpdA, sDo, p_sCpy, p_sSeq, p_sIf, p_sIfE, p_sWh, p_sRet, p_sReV, p_sBlk, p_sSw, p_wDf, p_wCs, p_eInt, p_eLng, p_eNll, p_eStr, p_eSta, p_eLoc, p_eBin, p_eDiv, p_eI2L, p_eL2I, p_eFld, p_eAr, p_eRo, p_eLen, eCal, p_eMt, p_eAbs, p_eBo, p_eCon, p_aA0, p_aA1, p_oCmp, p_oCm0, p_oCmpL, p_oNul, p_oAnd, p_oOr, p_oNot]
  exact congrArg (fun z => fin false (z [v0, v1] M)) h
set_option maxRecDepth 100000 in
theorem u_X10_come (v0 v1 : Int) (M : Mem) : ci_X10_come.2.2.2.2 [v0, v1] M = fin false ((dSeq (dIf (dOr (dNot (dCm0 .ne (dCal wC ci_X2_has (dA1 (dA1 dA0 (dFld wC 10 5 (dLoc 0))) (dLoc 1))))) (dCm0 .ne (dCal wC ci_X2_lives (dA1 (dA1 dA0 (dFld wC 10 5 (dLoc 0))) (dLoc 1))))) (dRet (dCal wC ci_X10_refuse (dA1 (dA1 (dA1 dA0 (dLoc 0)) (dCon (dCm0 .ne (dCal wC ci_X2_has (dA1 (dA1 dA0 (dFld wC 10 5 (dLoc 0))) (dLoc 1)))) (dInt 1) (dInt 0))) (dInt (-1))))))
  (dSeq (dDo wC ci_X0_keep (dA1 (dA1 dA0 (dFld wC 10 10 (dLoc 0))) (dFld wC 10 5 (dLoc 0))))
  (dSeq (dDo wC ci_X2_welcome (dA1 (dA1 dA0 (dFld wC 10 5 (dLoc 0))) (dLoc 1)))
  (dRet (dCal wC ci_X2_manyLive (dA1 dA0 (dFld wC 10 5 (dLoc 0)))))))) [v0, v1] M) := by
  have h : a_X10_come.1.1 = (dSeq (dIf (dOr (dNot (dCm0 .ne (dCal wC ci_X2_has (dA1 (dA1 dA0 (dFld wC 10 5 (dLoc 0))) (dLoc 1))))) (dCm0 .ne (dCal wC ci_X2_lives (dA1 (dA1 dA0 (dFld wC 10 5 (dLoc 0))) (dLoc 1))))) (dRet (dCal wC ci_X10_refuse (dA1 (dA1 (dA1 dA0 (dLoc 0)) (dCon (dCm0 .ne (dCal wC ci_X2_has (dA1 (dA1 dA0 (dFld wC 10 5 (dLoc 0))) (dLoc 1)))) (dInt 1) (dInt 0))) (dInt (-1))))))
  (dSeq (dDo wC ci_X0_keep (dA1 (dA1 dA0 (dFld wC 10 10 (dLoc 0))) (dFld wC 10 5 (dLoc 0))))
  (dSeq (dDo wC ci_X2_welcome (dA1 (dA1 dA0 (dFld wC 10 5 (dLoc 0))) (dLoc 1)))
  (dRet (dCal wC ci_X2_manyLive (dA1 dA0 (dFld wC 10 5 (dLoc 0)))))))) := by simp only [a_X10_come, p_sSet, p_sInc, p_sPutF, p_sUpdF, p_sPutA, p_sUpdA, sDo, p_sCpy, p_sSeq, p_sIf, p_sIfE, p_sWh, p_sRet, p_sReV, p_sBlk, p_sSw, p_wDf, p_wCs, p_eInt, p_eLng, p_eNll, p_eStr, p_eSta, p_eLoc, p_eBin, p_eDiv, p_eI2L, p_eL2I, p_eFld, p_eAr, p_eRo, p_eLen, eCal, p_eMt, p_eAbs, p_eBo, p_eCon, p_aA0, p_aA1, p_oCmp, p_oCm0, p_oCmpL, p_oNul, p_oAnd, p_oOr, p_oNot]
  exact congrArg (fun z => fin false (z [v0, v1] M)) h
set_option maxRecDepth 100000 in
theorem u_X10_within (v0 v1 v2 : Int) (M : Mem) : ci_X10_within.2.2.2.2 [v0, v1, v2] M = fin false ((dRet (dBin (mtF 0) (dLoc 0) (dBin (mtF 1) (dLoc 1) (dLoc 2)))) [v0, v1, v2] M) := by
  have h : a_X10_within.1.1 = (dRet (dBin (mtF 0) (dLoc 0) (dBin (mtF 1) (dLoc 1) (dLoc 2)))) := by simp only [a_X10_within, p_sSet, p_sInc, p_sPutF, p_sUpdF, p_sPutA, p_sUpdA, sDo, p_sCpy, p_sSeq, p_sIf, p_sIfE, p_sWh, p_sRet, p_sReV, p_sBlk, p_sSw, p_wDf, p_wCs, p_eInt, p_eLng, p_eNll, p_eStr, p_eSta, p_eLoc, p_eBin, p_eDiv, p_eI2L, p_eL2I, p_eFld, p_eAr, p_eRo, p_eLen, eCal, p_eMt, p_eAbs, p_eBo, p_eCon, p_aA0, p_aA1, p_oCmp, p_oCm0, p_oCmpL, p_oNul, p_oAnd, p_oOr, p_oNot]
  exact congrArg (fun z => fin false (z [v0, v1, v2] M)) h
set_option maxRecDepth 100000 in
theorem u_X4_pop (v0 : Int) (M : Mem) : ci_X4_pop.2.2.2.2 [v0] M = fin false ((dSeq (dIf (dOr (dCm0 .le (dFld wC 4 4 (dLoc 0))) (dCmp .gt (dFld wC 4 4 (dLoc 0)) (dLen wC 0 (dFld wC 4 3 (dLoc 0))))) (dRet (dInt 0)))
  (dSeq (dUpdF wC 1 4 4 (dLoc 0) (dInt 1))
  (dRet (dAr wC 0 (dFld wC 4 3 (dLoc 0)) (dFld wC 4 4 (dLoc 0)))))) [v0] M) := by
  have h : a_X4_pop.1.1 = (dSeq (dIf (dOr (dCm0 .le (dFld wC 4 4 (dLoc 0))) (dCmp .gt (dFld wC 4 4 (dLoc 0)) (dLen wC 0 (dFld wC 4 3 (dLoc 0))))) (dRet (dInt 0)))
  (dSeq (dUpdF wC 1 4 4 (dLoc 0) (dInt 1))
  (dRet (dAr wC 0 (dFld wC 4 3 (dLoc 0)) (dFld wC 4 4 (dLoc 0)))))) := by simp only [a_X4_pop, p_sSet, p_sInc, p_sPutF, p_sUpdF, p_sPutA, p_sUpdA, sDo, p_sCpy, p_sSeq, p_sIf, p_sIfE, p_sWh, p_sRet, p_sReV, p_sBlk, p_sSw, p_wDf, p_wCs, p_eInt, p_eLng, p_eNll, p_eStr, p_eSta, p_eLoc, p_eBin, p_eDiv, p_eI2L, p_eL2I, p_eFld, p_eAr, p_eRo, p_eLen, eCal, p_eMt, p_eAbs, p_eBo, p_eCon, p_aA0, p_aA1, p_oCmp, p_oCm0, p_oCmpL, p_oNul, p_oAnd, p_oOr, p_oNot]
  exact congrArg (fun z => fin false (z [v0] M)) h
set_option maxRecDepth 100000 in
theorem u_X4_push (v0 v1 : Int) (M : Mem) : ci_X4_push.2.2.2.2 [v0, v1] M = fin false ((dSeq (dIf (dAnd (dCm0 .ge (dFld wC 4 4 (dLoc 0))) (dCmp .lt (dFld wC 4 4 (dLoc 0)) (dLen wC 0 (dFld wC 4 3 (dLoc 0))))) (dSeq (dPutA wC 0 (dFld wC 4 3 (dLoc 0)) (dFld wC 4 4 (dLoc 0)) (dLoc 1))
  (dUpdF wC 0 4 4 (dLoc 0) (dInt 1))))
  dReV) [v0, v1] M) := by
  have h : a_X4_push.1.1 = (dSeq (dIf (dAnd (dCm0 .ge (dFld wC 4 4 (dLoc 0))) (dCmp .lt (dFld wC 4 4 (dLoc 0)) (dLen wC 0 (dFld wC 4 3 (dLoc 0))))) (dSeq (dPutA wC 0 (dFld wC 4 3 (dLoc 0)) (dFld wC 4 4 (dLoc 0)) (dLoc 1))
  (dUpdF wC 0 4 4 (dLoc 0) (dInt 1))))
  dReV) := by simp only [a_X4_push, p_sSet, p_sInc, p_sPutF, p_sUpdF, p_sPutA, p_sUpdA, sDo, p_sCpy, p_sSeq, p_sIf, p_sIfE, p_sWh, p_sRet, p_sReV, p_sBlk, p_sSw, p_wDf, p_wCs, p_eInt, p_eLng, p_eNll, p_eStr, p_eSta, p_eLoc, p_eBin, p_eDiv, p_eI2L, p_eL2I, p_eFld, p_eAr, p_eRo, p_eLen, eCal, p_eMt, p_eAbs, p_eBo, p_eCon, p_aA0, p_aA1, p_oCmp, p_oCm0, p_oCmpL, p_oNul, p_oAnd, p_oOr, p_oNot]
  exact congrArg (fun z => fin false (z [v0, v1] M)) h
set_option maxRecDepth 100000 in
theorem u_X4_result (v0 v1 v2 : Int) (M : Mem) : ci_X4_result.2.2.2.2 [v0, v1, v2] M = fin false ((dSw (dLoc 0) (dCs 43 (dRet (dBin (opF 9) (dLoc 1) (dLoc 3)))
  (dCs 45 (dRet (dBin (opF 10) (dLoc 1) (dLoc 3)))
  (dCs 42 (dRet (dBin (opF 11) (dLoc 1) (dLoc 3)))
  (dCs 47 (dRet (dCon (dCmpL .eq (dLoc 3) (dInt 0)) (dInt 0) (dDiv (dvF 2) (dvW 2) (dLoc 1) (dLoc 3))))
  (dCs 61 (dRet (dCon (dCmpL .eq (dLoc 1) (dLoc 3)) (dInt 1) (dInt 0)))
  (dCs 60 (dRet (dCon (dCmpL .lt (dLoc 1) (dLoc 3)) (dInt 1) (dInt 0)))
  (dCs 62 (dRet (dCon (dCmpL .gt (dLoc 1) (dLoc 3)) (dInt 1) (dInt 0)))
  (dCs 38 (dRet (dBin (opF 12) (dLoc 1) (dLoc 3)))
  (dCs 124 (dRet (dBin (opF 13) (dLoc 1) (dLoc 3)))
  (fun _ => (dRet (dInt 0))))))))))))) [v0, v1, 0, v2, 0] M) := by
  have h : a_X4_result.1.1 = (dSw (dLoc 0) (dCs 43 (dRet (dBin (opF 9) (dLoc 1) (dLoc 3)))
  (dCs 45 (dRet (dBin (opF 10) (dLoc 1) (dLoc 3)))
  (dCs 42 (dRet (dBin (opF 11) (dLoc 1) (dLoc 3)))
  (dCs 47 (dRet (dCon (dCmpL .eq (dLoc 3) (dInt 0)) (dInt 0) (dDiv (dvF 2) (dvW 2) (dLoc 1) (dLoc 3))))
  (dCs 61 (dRet (dCon (dCmpL .eq (dLoc 1) (dLoc 3)) (dInt 1) (dInt 0)))
  (dCs 60 (dRet (dCon (dCmpL .lt (dLoc 1) (dLoc 3)) (dInt 1) (dInt 0)))
  (dCs 62 (dRet (dCon (dCmpL .gt (dLoc 1) (dLoc 3)) (dInt 1) (dInt 0)))
  (dCs 38 (dRet (dBin (opF 12) (dLoc 1) (dLoc 3)))
  (dCs 124 (dRet (dBin (opF 13) (dLoc 1) (dLoc 3)))
  (fun _ => (dRet (dInt 0))))))))))))) := by simp only [a_X4_result, p_sSet, p_sInc, p_sPutF, p_sUpdF, p_sPutA, p_sUpdA, sDo, p_sCpy, p_sSeq, p_sIf, p_sIfE, p_sWh, p_sRet, p_sReV, p_sBlk, p_sSw, p_wDf, p_wCs, p_eInt, p_eLng, p_eNll, p_eStr, p_eSta, p_eLoc, p_eBin, p_eDiv, p_eI2L, p_eL2I, p_eFld, p_eAr, p_eRo, p_eLen, eCal, p_eMt, p_eAbs, p_eBo, p_eCon, p_aA0, p_aA1, p_oCmp, p_oCm0, p_oCmpL, p_oNul, p_oAnd, p_oOr, p_oNot]
  exact congrArg (fun z => fin false (z [v0, v1, 0, v2, 0] M)) h
set_option maxRecDepth 100000 in
theorem u_X4_held (v0 : Int) (M : Mem) : ci_X4_held.2.2.2.2 [v0] M = fin false ((dRet (dUn id (dBin (mtF 3) (dInt (-1000000)) (dBin (mtF 4) (dInt 1000000) (dLoc 0))))) [v0, 0] M) := by
  have h : a_X4_held.1.1 = (dRet (dUn id (dBin (mtF 3) (dInt (-1000000)) (dBin (mtF 4) (dInt 1000000) (dLoc 0))))) := by simp only [a_X4_held, p_sSet, p_sInc, p_sPutF, p_sUpdF, p_sPutA, p_sUpdA, sDo, p_sCpy, p_sSeq, p_sIf, p_sIfE, p_sWh, p_sRet, p_sReV, p_sBlk, p_sSw, p_wDf, p_wCs, p_eInt, p_eLng, p_eNll, p_eStr, p_eSta, p_eLoc, p_eBin, p_eDiv, p_eI2L, p_eL2I, p_eFld, p_eAr, p_eRo, p_eLen, eCal, p_eMt, p_eAbs, p_eBo, p_eCon, p_aA0, p_aA1, p_oCmp, p_oCm0, p_oCmpL, p_oNul, p_oAnd, p_oOr, p_oNot]
  exact congrArg (fun z => fin false (z [v0, 0] M)) h
set_option maxRecDepth 100000 in
theorem u_X4_work (v0 v1 : Int) (M : Mem) : ci_X4_work.2.2.2.2 [v0, v1] M = fin false ((dSeq (dIfE (dCmp .lt (dLoc 1) (dInt 10000)) (dDo wC ci_X4_push (dA1 (dA1 dA0 (dLoc 0)) (dLoc 1)))
  (dIfE (dCmp .ge (dLoc 1) (dInt 20000)) (dDo wC ci_X4_push (dA1 (dA1 dA0 (dLoc 0)) (dCal wC ci_X10_at (dA1 (dA1 dA0 (dFld wC 4 2 (dLoc 0))) (dBin (opF 1) (dLoc 1) (dInt 20000))))))
  (dIfE (dCmp .eq (dLoc 1) (dInt 10033)) (dDo wC ci_X4_push (dA1 (dA1 dA0 (dLoc 0)) (dBin (opF 1) (dInt 1) (dCal wC ci_X4_pop (dA1 dA0 (dLoc 0))))))
  (dSeq (dSet 2 (dCal wC ci_X4_pop (dA1 dA0 (dLoc 0))))
  (dSeq (dSet 3 (dCal wC ci_X4_pop (dA1 dA0 (dLoc 0))))
  (dDo wC ci_X4_push (dA1 (dA1 dA0 (dLoc 0)) (dCal wC ci_X4_held (dA1 dA0 (dCal wC ci_X4_result (dA1 (dA1 (dA1 dA0 (dBin (opF 1) (dLoc 1) (dInt 10000))) (dUn wr (dLoc 3))) (dUn wr (dLoc 2)))))))))))))
  dReV) [v0, v1, 0, 0] M) := by
  have h : a_X4_work.1.1 = (dSeq (dIfE (dCmp .lt (dLoc 1) (dInt 10000)) (dDo wC ci_X4_push (dA1 (dA1 dA0 (dLoc 0)) (dLoc 1)))
  (dIfE (dCmp .ge (dLoc 1) (dInt 20000)) (dDo wC ci_X4_push (dA1 (dA1 dA0 (dLoc 0)) (dCal wC ci_X10_at (dA1 (dA1 dA0 (dFld wC 4 2 (dLoc 0))) (dBin (opF 1) (dLoc 1) (dInt 20000))))))
  (dIfE (dCmp .eq (dLoc 1) (dInt 10033)) (dDo wC ci_X4_push (dA1 (dA1 dA0 (dLoc 0)) (dBin (opF 1) (dInt 1) (dCal wC ci_X4_pop (dA1 dA0 (dLoc 0))))))
  (dSeq (dSet 2 (dCal wC ci_X4_pop (dA1 dA0 (dLoc 0))))
  (dSeq (dSet 3 (dCal wC ci_X4_pop (dA1 dA0 (dLoc 0))))
  (dDo wC ci_X4_push (dA1 (dA1 dA0 (dLoc 0)) (dCal wC ci_X4_held (dA1 dA0 (dCal wC ci_X4_result (dA1 (dA1 (dA1 dA0 (dBin (opF 1) (dLoc 1) (dInt 10000))) (dUn wr (dLoc 3))) (dUn wr (dLoc 2)))))))))))))
  dReV) := by simp only [a_X4_work, p_sSet, p_sInc, p_sPutF, p_sUpdF, p_sPutA, p_sUpdA, sDo, p_sCpy, p_sSeq, p_sIf, p_sIfE, p_sWh, p_sRet, p_sReV, p_sBlk, p_sSw, p_wDf, p_wCs, p_eInt, p_eLng, p_eNll, p_eStr, p_eSta, p_eLoc, p_eBin, p_eDiv, p_eI2L, p_eL2I, p_eFld, p_eAr, p_eRo, p_eLen, eCal, p_eMt, p_eAbs, p_eBo, p_eCon, p_aA0, p_aA1, p_oCmp, p_oCm0, p_oCmpL, p_oNul, p_oAnd, p_oOr, p_oNot]
  exact congrArg (fun z => fin false (z [v0, v1, 0, 0] M)) h
noncomputable def wc1_X4_worth : CoD := (dCmp .lt (dLoc 4) (dLoc 2))
noncomputable def wb1_X4_worth : StD := (dSeq (dSeq (dSet 5 (dCal wC ci_X10_at (dA1 (dA1 dA0 (dFld wC 4 0 (dLoc 0))) (dLoc 4))))
  (dIfE (dCmp .eq (dLoc 5) (dInt 10059)) (dSeq (dIf (dNot (dCm0 .ne (dLoc 3))) (dRet (dCal wC ci_X4_pop (dA1 dA0 (dLoc 0)))))
  (dSet 3 (dInt 0)))
  (dIf (dNot (dCm0 .ne (dLoc 3))) (dIfE (dCmp .eq (dLoc 5) (dInt 10063)) (dSet 3 (dBo (dCm0 .eq (dCal wC ci_X4_pop (dA1 dA0 (dLoc 0))))))
  (dDo wC ci_X4_work (dA1 (dA1 dA0 (dLoc 0)) (dLoc 5)))))))
  (dInc 4 1))
set_option maxRecDepth 100000 in
theorem u_X4_worth (v0 : Int) (M : Mem) : ci_X4_worth.2.2.2.2 [v0] M = fin false ((dSeq (dSet 1 (dBin (opF 2) (dFld wC 4 6 (dLoc 0)) (dInt 240)))
  (dSeq (dSet 2 (dBin (opF 0) (dLoc 1) (dCal wC ci_X10_at (dA1 (dA1 dA0 (dFld wC 4 1 (dLoc 0))) (dFld wC 4 6 (dLoc 0))))))
  (dSeq (dSet 3 (dInt 0))
  (dSeq (dPutF wC 4 4 (dLoc 0) (dInt 0))
  (dSeq (dSeq (dSet 4 (dLoc 1))
  (dWh (wc1_X4_worth) (wb1_X4_worth)))
  (dRet (dInt 0))))))) [v0, 0, 0, 0, 0, 0] M) := by
  have h : a_X4_worth.1.1 = (dSeq (dSet 1 (dBin (opF 2) (dFld wC 4 6 (dLoc 0)) (dInt 240)))
  (dSeq (dSet 2 (dBin (opF 0) (dLoc 1) (dCal wC ci_X10_at (dA1 (dA1 dA0 (dFld wC 4 1 (dLoc 0))) (dFld wC 4 6 (dLoc 0))))))
  (dSeq (dSet 3 (dInt 0))
  (dSeq (dPutF wC 4 4 (dLoc 0) (dInt 0))
  (dSeq (dSeq (dSet 4 (dLoc 1))
  (dWh (wc1_X4_worth) (wb1_X4_worth)))
  (dRet (dInt 0))))))) := by simp only [a_X4_worth, wc1_X4_worth, wb1_X4_worth, p_sSet, p_sInc, p_sPutF, p_sUpdF, p_sPutA, p_sUpdA, sDo, p_sCpy, p_sSeq, p_sIf, p_sIfE, p_sWh, p_sRet, p_sReV, p_sBlk, p_sSw, p_wDf, p_wCs, p_eInt, p_eLng, p_eNll, p_eStr, p_eSta, p_eLoc, p_eBin, p_eDiv, p_eI2L, p_eL2I, p_eFld, p_eAr, p_eRo, p_eLen, eCal, p_eMt, p_eAbs, p_eBo, p_eCon, p_aA0, p_aA1, p_oCmp, p_oCm0, p_oCmpL, p_oNul, p_oAnd, p_oOr, p_oNot]
  exact congrArg (fun z => fin false (z [v0, 0, 0, 0, 0, 0] M)) h
set_option maxRecDepth 100000 in
theorem u_X4_lessonOf (v0 v1 v2 v3 : Int) (M : Mem) : ci_X4_lessonOf.2.2.2.2 [v0, v1, v2, v3] M = fin false ((dSeq (dIf (dCmp .eq (dFld wC 4 6 (dLoc 0)) (dInt (-1))) (dRet (dCal wC ci_X10_within (dA1 (dA1 (dA1 dA0 (dInt 0)) (dInt 9)) (dBin (opF 0) (dFld wC 2 3 (dLoc 1)) (dDiv (dvF 0) (dvW 0) (dCal wC ci_X2_get (dA1 (dA1 (dA1 dA0 (dLoc 1)) (dLoc 2)) (dInt 1))) (dInt 10)))))))
  (dSeq (dDo wC ci_X10_put (dA1 (dA1 (dA1 dA0 (dFld wC 4 2 (dLoc 0))) (dInt 0)) (dCal wC ci_X2_get (dA1 (dA1 (dA1 dA0 (dLoc 1)) (dLoc 2)) (dInt 0)))))
  (dSeq (dDo wC ci_X10_put (dA1 (dA1 (dA1 dA0 (dFld wC 4 2 (dLoc 0))) (dInt 1)) (dCal wC ci_X2_get (dA1 (dA1 (dA1 dA0 (dLoc 1)) (dLoc 2)) (dInt 1)))))
  (dSeq (dDo wC ci_X10_put (dA1 (dA1 (dA1 dA0 (dFld wC 4 2 (dLoc 0))) (dInt 2)) (dCal wC ci_X2_get (dA1 (dA1 (dA1 dA0 (dLoc 1)) (dLoc 2)) (dInt 2)))))
  (dSeq (dDo wC ci_X10_put (dA1 (dA1 (dA1 dA0 (dFld wC 4 2 (dLoc 0))) (dInt 3)) (dCal wC ci_X2_get (dA1 (dA1 (dA1 dA0 (dLoc 1)) (dLoc 2)) (dInt 4)))))
  (dSeq (dDo wC ci_X10_put (dA1 (dA1 (dA1 dA0 (dFld wC 4 2 (dLoc 0))) (dInt 4)) (dFld wC 2 2 (dLoc 1))))
  (dSeq (dDo wC ci_X10_put (dA1 (dA1 (dA1 dA0 (dFld wC 4 2 (dLoc 0))) (dInt 5)) (dLoc 3)))
  (dRet (dCal wC ci_X10_within (dA1 (dA1 (dA1 dA0 (dInt 0)) (dInt 9)) (dCal wC ci_X4_worth (dA1 dA0 (dLoc 0))))))))))))) [v0, v1, v2, v3] M) := by
  have h : a_X4_lessonOf.1.1 = (dSeq (dIf (dCmp .eq (dFld wC 4 6 (dLoc 0)) (dInt (-1))) (dRet (dCal wC ci_X10_within (dA1 (dA1 (dA1 dA0 (dInt 0)) (dInt 9)) (dBin (opF 0) (dFld wC 2 3 (dLoc 1)) (dDiv (dvF 0) (dvW 0) (dCal wC ci_X2_get (dA1 (dA1 (dA1 dA0 (dLoc 1)) (dLoc 2)) (dInt 1))) (dInt 10)))))))
  (dSeq (dDo wC ci_X10_put (dA1 (dA1 (dA1 dA0 (dFld wC 4 2 (dLoc 0))) (dInt 0)) (dCal wC ci_X2_get (dA1 (dA1 (dA1 dA0 (dLoc 1)) (dLoc 2)) (dInt 0)))))
  (dSeq (dDo wC ci_X10_put (dA1 (dA1 (dA1 dA0 (dFld wC 4 2 (dLoc 0))) (dInt 1)) (dCal wC ci_X2_get (dA1 (dA1 (dA1 dA0 (dLoc 1)) (dLoc 2)) (dInt 1)))))
  (dSeq (dDo wC ci_X10_put (dA1 (dA1 (dA1 dA0 (dFld wC 4 2 (dLoc 0))) (dInt 2)) (dCal wC ci_X2_get (dA1 (dA1 (dA1 dA0 (dLoc 1)) (dLoc 2)) (dInt 2)))))
  (dSeq (dDo wC ci_X10_put (dA1 (dA1 (dA1 dA0 (dFld wC 4 2 (dLoc 0))) (dInt 3)) (dCal wC ci_X2_get (dA1 (dA1 (dA1 dA0 (dLoc 1)) (dLoc 2)) (dInt 4)))))
  (dSeq (dDo wC ci_X10_put (dA1 (dA1 (dA1 dA0 (dFld wC 4 2 (dLoc 0))) (dInt 4)) (dFld wC 2 2 (dLoc 1))))
  (dSeq (dDo wC ci_X10_put (dA1 (dA1 (dA1 dA0 (dFld wC 4 2 (dLoc 0))) (dInt 5)) (dLoc 3)))
  (dRet (dCal wC ci_X10_within (dA1 (dA1 (dA1 dA0 (dInt 0)) (dInt 9)) (dCal wC ci_X4_worth (dA1 dA0 (dLoc 0))))))))))))) := by simp only [a_X4_lessonOf, p_sSet, p_sInc, p_sPutF, p_sUpdF, p_sPutA, p_sUpdA, sDo, p_sCpy, p_sSeq, p_sIf, p_sIfE, p_sWh, p_sRet, p_sReV, p_sBlk, p_sSw, p_wDf, p_wCs, p_eInt, p_eLng, p_eNll, p_eStr, p_eSta, p_eLoc, p_eBin, p_eDiv, p_eI2L, p_eL2I, p_eFld, p_eAr, p_eRo, p_eLen, eCal, p_eMt, p_eAbs, p_eBo, p_eCon, p_aA0, p_aA1, p_oCmp, p_oCm0, p_oCmpL, p_oNul, p_oAnd, p_oOr, p_oNot]
  exact congrArg (fun z => fin false (z [v0, v1, v2, v3] M)) h
set_option maxRecDepth 100000 in
theorem u_X2_grow (v0 v1 v2 : Int) (M : Mem) : ci_X2_grow.2.2.2.2 [v0, v1, v2] M = fin false ((dSeq (dSeq (dSet 3 (dCon (dCmp .eq (dCal wC ci_X2_get (dA1 (dA1 (dA1 dA0 (dLoc 0)) (dLoc 1)) (dInt 2))) (dInt 2)) (dBin (opF 2) (dInt 2) (dFld wC 2 4 (dLoc 0))) (dFld wC 2 4 (dLoc 0))))
  (dSeq (dDo wC ci_X2_set (dA1 (dA1 (dA1 (dA1 dA0 (dLoc 0)) (dLoc 1)) (dInt 0)) (dBin (mtF 1) (dInt 99) (dBin (opF 0) (dCal wC ci_X2_get (dA1 (dA1 (dA1 dA0 (dLoc 0)) (dLoc 1)) (dInt 0))) (dLoc 2)))))
  (dDo wC ci_X2_set (dA1 (dA1 (dA1 (dA1 dA0 (dLoc 0)) (dLoc 1)) (dInt 4)) (dBin (mtF 1) (dInt 99) (dBin (opF 0) (dCal wC ci_X2_get (dA1 (dA1 (dA1 dA0 (dLoc 0)) (dLoc 1)) (dInt 4))) (dLoc 3)))))))
  dReV) [v0, v1, v2, 0] M) := by
  have h : a_X2_grow.1.1 = (dSeq (dSeq (dSet 3 (dCon (dCmp .eq (dCal wC ci_X2_get (dA1 (dA1 (dA1 dA0 (dLoc 0)) (dLoc 1)) (dInt 2))) (dInt 2)) (dBin (opF 2) (dInt 2) (dFld wC 2 4 (dLoc 0))) (dFld wC 2 4 (dLoc 0))))
  (dSeq (dDo wC ci_X2_set (dA1 (dA1 (dA1 (dA1 dA0 (dLoc 0)) (dLoc 1)) (dInt 0)) (dBin (mtF 1) (dInt 99) (dBin (opF 0) (dCal wC ci_X2_get (dA1 (dA1 (dA1 dA0 (dLoc 0)) (dLoc 1)) (dInt 0))) (dLoc 2)))))
  (dDo wC ci_X2_set (dA1 (dA1 (dA1 (dA1 dA0 (dLoc 0)) (dLoc 1)) (dInt 4)) (dBin (mtF 1) (dInt 99) (dBin (opF 0) (dCal wC ci_X2_get (dA1 (dA1 (dA1 dA0 (dLoc 0)) (dLoc 1)) (dInt 4))) (dLoc 3)))))))
  dReV) := by simp only [a_X2_grow, p_sSet, p_sInc, p_sPutF, p_sUpdF, p_sPutA, p_sUpdA, sDo, p_sCpy, p_sSeq, p_sIf, p_sIfE, p_sWh, p_sRet, p_sReV, p_sBlk, p_sSw, p_wDf, p_wCs, p_eInt, p_eLng, p_eNll, p_eStr, p_eSta, p_eLoc, p_eBin, p_eDiv, p_eI2L, p_eL2I, p_eFld, p_eAr, p_eRo, p_eLen, eCal, p_eMt, p_eAbs, p_eBo, p_eCon, p_aA0, p_aA1, p_oCmp, p_oCm0, p_oCmpL, p_oNul, p_oAnd, p_oOr, p_oNot]
  exact congrArg (fun z => fin false (z [v0, v1, v2, 0] M)) h
noncomputable def wc1_X2_mostFeared : CoD := (dCmp .lt (dLoc 3) (dFld wC 2 1 (dLoc 0)))
noncomputable def wb1_X2_mostFeared : StD := (dSeq (dIf (dAnd (dCm0 .ne (dBin (opF 3) (dBin (opF 8) (dLoc 1) (dLoc 3)) (dInt 1))) (dOr (dCmp .eq (dLoc 2) (dInt (-1))) (dCmp .gt (dCal wC ci_X2_fear (dA1 (dA1 dA0 (dLoc 0)) (dLoc 3))) (dCal wC ci_X2_fear (dA1 (dA1 dA0 (dLoc 0)) (dLoc 2)))))) (dSet 2 (dLoc 3)))
  (dInc 3 1))
set_option maxRecDepth 100000 in
theorem u_X2_mostFeared (v0 v1 : Int) (M : Mem) : ci_X2_mostFeared.2.2.2.2 [v0, v1] M = fin false ((dSeq (dSet 2 (dInt (-1)))
  (dSeq (dSeq (dSet 3 (dInt 0))
  (dWh (wc1_X2_mostFeared) (wb1_X2_mostFeared)))
  (dRet (dLoc 2)))) [v0, v1, 0, 0] M) := by
  have h : a_X2_mostFeared.1.1 = (dSeq (dSet 2 (dInt (-1)))
  (dSeq (dSeq (dSet 3 (dInt 0))
  (dWh (wc1_X2_mostFeared) (wb1_X2_mostFeared)))
  (dRet (dLoc 2)))) := by simp only [a_X2_mostFeared, wc1_X2_mostFeared, wb1_X2_mostFeared, p_sSet, p_sInc, p_sPutF, p_sUpdF, p_sPutA, p_sUpdA, sDo, p_sCpy, p_sSeq, p_sIf, p_sIfE, p_sWh, p_sRet, p_sReV, p_sBlk, p_sSw, p_wDf, p_wCs, p_eInt, p_eLng, p_eNll, p_eStr, p_eSta, p_eLoc, p_eBin, p_eDiv, p_eI2L, p_eL2I, p_eFld, p_eAr, p_eRo, p_eLen, eCal, p_eMt, p_eAbs, p_eBo, p_eCon, p_aA0, p_aA1, p_oCmp, p_oCm0, p_oCmpL, p_oNul, p_oAnd, p_oOr, p_oNot]
  exact congrArg (fun z => fin false (z [v0, v1, 0, 0] M)) h
noncomputable def wc1_X2_pass : CoD := (dCmp .lt (dLoc 3) (dFld wC 2 1 (dLoc 0)))
noncomputable def wb1_X2_pass : StD := (dSeq (dIf (dCm0 .ne (dCal wC ci_X2_lives (dA1 (dA1 dA0 (dLoc 0)) (dLoc 3)))) (dDo wC ci_X2_grow (dA1 (dA1 (dA1 dA0 (dLoc 0)) (dLoc 3)) (dCal wC ci_X4_lessonOf (dA1 (dA1 (dA1 (dA1 dA0 (dLoc 1)) (dLoc 0)) (dLoc 3)) (dLoc 2))))))
  (dInc 3 1))
noncomputable def wc2_X2_pass : CoD := (dCmp .lt (dLoc 4) (dFld wC 2 1 (dLoc 0)))
noncomputable def wb2_X2_pass : StD := (dSeq (dDo wC ci_X2_set (dA1 (dA1 (dA1 (dA1 dA0 (dLoc 0)) (dLoc 4)) (dInt 6)) (dInt 0)))
  (dInc 4 1))
set_option maxRecDepth 100000 in
theorem u_X2_pass (v0 v1 : Int) (M : Mem) : ci_X2_pass.2.2.2.2 [v0, v1] M = fin false ((dSeq (dSet 2 (dCal wC ci_X2_manyLive (dA1 dA0 (dLoc 0))))
  (dSeq (dSeq (dSet 3 (dInt 0))
  (dWh (wc1_X2_pass) (wb1_X2_pass)))
  (dSeq (dSet 3 (dCon (dCmp .gt (dLoc 2) (dInt 1)) (dCal wC ci_X2_mostFeared (dA1 (dA1 dA0 (dLoc 0)) (dCal wC ci_X2_living (dA1 dA0 (dLoc 0))))) (dInt (-1))))
  (dSeq (dIf (dCm0 .ne (dCal wC ci_X2_has (dA1 (dA1 dA0 (dLoc 0)) (dLoc 3)))) (dDo wC ci_X2_set (dA1 (dA1 (dA1 (dA1 dA0 (dLoc 0)) (dLoc 3)) (dInt 5)) (dInt 1))))
  (dSeq (dSeq (dSet 4 (dInt 0))
  (dWh (wc2_X2_pass) (wb2_X2_pass)))
  (dSeq (dUpdF wC 0 2 2 (dLoc 0) (dInt 1))
  (dRet (dLoc 3)))))))) [v0, v1, 0, 0, 0] M) := by
  have h : a_X2_pass.1.1 = (dSeq (dSet 2 (dCal wC ci_X2_manyLive (dA1 dA0 (dLoc 0))))
  (dSeq (dSeq (dSet 3 (dInt 0))
  (dWh (wc1_X2_pass) (wb1_X2_pass)))
  (dSeq (dSet 3 (dCon (dCmp .gt (dLoc 2) (dInt 1)) (dCal wC ci_X2_mostFeared (dA1 (dA1 dA0 (dLoc 0)) (dCal wC ci_X2_living (dA1 dA0 (dLoc 0))))) (dInt (-1))))
  (dSeq (dIf (dCm0 .ne (dCal wC ci_X2_has (dA1 (dA1 dA0 (dLoc 0)) (dLoc 3)))) (dDo wC ci_X2_set (dA1 (dA1 (dA1 (dA1 dA0 (dLoc 0)) (dLoc 3)) (dInt 5)) (dInt 1))))
  (dSeq (dSeq (dSet 4 (dInt 0))
  (dWh (wc2_X2_pass) (wb2_X2_pass)))
  (dSeq (dUpdF wC 0 2 2 (dLoc 0) (dInt 1))
  (dRet (dLoc 3)))))))) := by simp only [a_X2_pass, wc1_X2_pass, wb1_X2_pass, wc2_X2_pass, wb2_X2_pass, p_sSet, p_sInc, p_sPutF, p_sUpdF, p_sPutA, p_sUpdA, sDo, p_sCpy, p_sSeq, p_sIf, p_sIfE, p_sWh, p_sRet, p_sReV, p_sBlk, p_sSw, p_wDf, p_wCs, p_eInt, p_eLng, p_eNll, p_eStr, p_eSta, p_eLoc, p_eBin, p_eDiv, p_eI2L, p_eL2I, p_eFld, p_eAr, p_eRo, p_eLen, eCal, p_eMt, p_eAbs, p_eBo, p_eCon, p_aA0, p_aA1, p_oCmp, p_oCm0, p_oCmpL, p_oNul, p_oAnd, p_oOr, p_oNot]
  exact congrArg (fun z => fin false (z [v0, v1, 0, 0, 0] M)) h
noncomputable def wc1_X2_artOf : CoD := (dCmp .lt (dLoc 3) (dFld wC 2 1 (dLoc 0)))
noncomputable def wb1_X2_artOf : StD := (dSeq (dIf (dCm0 .ne (dBin (opF 3) (dBin (opF 8) (dLoc 1) (dLoc 3)) (dInt 1))) (dSet 2 (dBin (opF 0) (dLoc 2) (dCal wC ci_X2_get (dA1 (dA1 (dA1 dA0 (dLoc 0)) (dLoc 3)) (dInt 0))))))
  (dInc 3 1))
set_option maxRecDepth 100000 in
theorem u_X2_artOf (v0 v1 : Int) (M : Mem) : ci_X2_artOf.2.2.2.2 [v0, v1] M = fin false ((dSeq (dSet 2 (dInt 0))
  (dSeq (dSeq (dSet 3 (dInt 0))
  (dWh (wc1_X2_artOf) (wb1_X2_artOf)))
  (dRet (dLoc 2)))) [v0, v1, 0, 0] M) := by
  have h : a_X2_artOf.1.1 = (dSeq (dSet 2 (dInt 0))
  (dSeq (dSeq (dSet 3 (dInt 0))
  (dWh (wc1_X2_artOf) (wb1_X2_artOf)))
  (dRet (dLoc 2)))) := by simp only [a_X2_artOf, wc1_X2_artOf, wb1_X2_artOf, p_sSet, p_sInc, p_sPutF, p_sUpdF, p_sPutA, p_sUpdA, sDo, p_sCpy, p_sSeq, p_sIf, p_sIfE, p_sWh, p_sRet, p_sReV, p_sBlk, p_sSw, p_wDf, p_wCs, p_eInt, p_eLng, p_eNll, p_eStr, p_eSta, p_eLoc, p_eBin, p_eDiv, p_eI2L, p_eL2I, p_eFld, p_eAr, p_eRo, p_eLen, eCal, p_eMt, p_eAbs, p_eBo, p_eCon, p_aA0, p_aA1, p_oCmp, p_oCm0, p_oCmpL, p_oNul, p_oAnd, p_oOr, p_oNot]
  exact congrArg (fun z => fin false (z [v0, v1, 0, 0] M)) h
set_option maxRecDepth 100000 in
theorem u_X2_artOfAll (v0 : Int) (M : Mem) : ci_X2_artOfAll.2.2.2.2 [v0] M = fin false ((dRet (dCal wC ci_X2_artOf (dA1 (dA1 dA0 (dLoc 0)) (dCal wC ci_X2_living (dA1 dA0 (dLoc 0)))))) [v0] M) := by
  have h : a_X2_artOfAll.1.1 = (dRet (dCal wC ci_X2_artOf (dA1 (dA1 dA0 (dLoc 0)) (dCal wC ci_X2_living (dA1 dA0 (dLoc 0)))))) := by simp only [a_X2_artOfAll, p_sSet, p_sInc, p_sPutF, p_sUpdF, p_sPutA, p_sUpdA, sDo, p_sCpy, p_sSeq, p_sIf, p_sIfE, p_sWh, p_sRet, p_sReV, p_sBlk, p_sSw, p_wDf, p_wCs, p_eInt, p_eLng, p_eNll, p_eStr, p_eSta, p_eLoc, p_eBin, p_eDiv, p_eI2L, p_eL2I, p_eFld, p_eAr, p_eRo, p_eLen, eCal, p_eMt, p_eAbs, p_eBo, p_eCon, p_aA0, p_aA1, p_oCmp, p_oCm0, p_oCmpL, p_oNul, p_oAnd, p_oOr, p_oNot]
  exact congrArg (fun z => fin false (z [v0] M)) h
set_option maxRecDepth 100000 in
theorem u_X5_write (v0 v1 v2 v3 v4 : Int) (M : Mem) : ci_X5_write.2.2.2.2 [v0, v1, v2, v3, v4] M = fin false ((dSeq (dSeq (dSet 5 (dBin (opF 2) (dDiv (dvF 1) (dvW 1) (dLoc 1) (dInt 100)) (dInt 3)))
  (dSeq (dDo wC ci_X10_put (dA1 (dA1 (dA1 dA0 (dFld wC 5 0 (dLoc 0))) (dLoc 5)) (dLoc 2)))
  (dSeq (dDo wC ci_X10_put (dA1 (dA1 (dA1 dA0 (dFld wC 5 0 (dLoc 0))) (dBin (opF 0) (dLoc 5) (dInt 1))) (dLoc 3)))
  (dDo wC ci_X10_put (dA1 (dA1 (dA1 dA0 (dFld wC 5 0 (dLoc 0))) (dBin (opF 0) (dLoc 5) (dInt 2))) (dLoc 4))))))
  dReV) [v0, v1, v2, v3, v4, 0] M) := by
  have h : a_X5_write.1.1 = (dSeq (dSeq (dSet 5 (dBin (opF 2) (dDiv (dvF 1) (dvW 1) (dLoc 1) (dInt 100)) (dInt 3)))
  (dSeq (dDo wC ci_X10_put (dA1 (dA1 (dA1 dA0 (dFld wC 5 0 (dLoc 0))) (dLoc 5)) (dLoc 2)))
  (dSeq (dDo wC ci_X10_put (dA1 (dA1 (dA1 dA0 (dFld wC 5 0 (dLoc 0))) (dBin (opF 0) (dLoc 5) (dInt 1))) (dLoc 3)))
  (dDo wC ci_X10_put (dA1 (dA1 (dA1 dA0 (dFld wC 5 0 (dLoc 0))) (dBin (opF 0) (dLoc 5) (dInt 2))) (dLoc 4))))))
  dReV) := by simp only [a_X5_write, p_sSet, p_sInc, p_sPutF, p_sUpdF, p_sPutA, p_sUpdA, sDo, p_sCpy, p_sSeq, p_sIf, p_sIfE, p_sWh, p_sRet, p_sReV, p_sBlk, p_sSw, p_wDf, p_wCs, p_eInt, p_eLng, p_eNll, p_eStr, p_eSta, p_eLoc, p_eBin, p_eDiv, p_eI2L, p_eL2I, p_eFld, p_eAr, p_eRo, p_eLen, eCal, p_eMt, p_eAbs, p_eBo, p_eCon, p_aA0, p_aA1, p_oCmp, p_oCm0, p_oCmpL, p_oNul, p_oAnd, p_oOr, p_oNot]
  exact congrArg (fun z => fin false (z [v0, v1, v2, v3, v4, 0] M)) h
set_option maxRecDepth 100000 in
theorem u_X10_passYear (v0 : Int) (M : Mem) : ci_X10_passYear.2.2.2.2 [v0] M = fin false ((dSeq (dSeq (dSet 1 (dCal wC ci_X2_pass (dA1 (dA1 dA0 (dFld wC 10 5 (dLoc 0))) (dFld wC 10 3 (dLoc 0)))))
  (dDo wC ci_X5_write (dA1 (dA1 (dA1 (dA1 (dA1 dA0 (dFld wC 10 8 (dLoc 0))) (dBin (opF 1) (dFld wC 2 2 (dFld wC 10 5 (dLoc 0))) (dInt 1))) (dLoc 1)) (dCal wC ci_X2_manyLive (dA1 dA0 (dFld wC 10 5 (dLoc 0))))) (dCal wC ci_X2_artOfAll (dA1 dA0 (dFld wC 10 5 (dLoc 0)))))))
  dReV) [v0, 0] M) := by
  have h : a_X10_passYear.1.1 = (dSeq (dSeq (dSet 1 (dCal wC ci_X2_pass (dA1 (dA1 dA0 (dFld wC 10 5 (dLoc 0))) (dFld wC 10 3 (dLoc 0)))))
  (dDo wC ci_X5_write (dA1 (dA1 (dA1 (dA1 (dA1 dA0 (dFld wC 10 8 (dLoc 0))) (dBin (opF 1) (dFld wC 2 2 (dFld wC 10 5 (dLoc 0))) (dInt 1))) (dLoc 1)) (dCal wC ci_X2_manyLive (dA1 dA0 (dFld wC 10 5 (dLoc 0))))) (dCal wC ci_X2_artOfAll (dA1 dA0 (dFld wC 10 5 (dLoc 0)))))))
  dReV) := by simp only [a_X10_passYear, p_sSet, p_sInc, p_sPutF, p_sUpdF, p_sPutA, p_sUpdA, sDo, p_sCpy, p_sSeq, p_sIf, p_sIfE, p_sWh, p_sRet, p_sReV, p_sBlk, p_sSw, p_wDf, p_wCs, p_eInt, p_eLng, p_eNll, p_eStr, p_eSta, p_eLoc, p_eBin, p_eDiv, p_eI2L, p_eL2I, p_eFld, p_eAr, p_eRo, p_eLen, eCal, p_eMt, p_eAbs, p_eBo, p_eCon, p_aA0, p_aA1, p_oCmp, p_oCm0, p_oCmpL, p_oNul, p_oAnd, p_oOr, p_oNot]
  exact congrArg (fun z => fin false (z [v0, 0] M)) h
noncomputable def wc1_X10_years : CoD := (dCmp .lt (dLoc 2) (dLoc 1))
noncomputable def wb1_X10_years : StD := (dSeq (dSeq (dDo wC ci_X0_keep (dA1 (dA1 dA0 (dFld wC 10 10 (dLoc 0))) (dFld wC 10 5 (dLoc 0))))
  (dDo wC ci_X10_passYear (dA1 dA0 (dLoc 0))))
  (dInc 2 1))
set_option maxRecDepth 100000 in
theorem u_X10_years (v0 v1 : Int) (M : Mem) : ci_X10_years.2.2.2.2 [v0, v1] M = fin false ((dSeq (dIf (dNot (dCm0 .ne (dCal wC ci_X10_isTold (dA1 dA0 (dLoc 0))))) (dRet (dCal wC ci_X10_refuse (dA1 (dA1 (dA1 dA0 (dLoc 0)) (dInt 0)) (dInt (-1))))))
  (dSeq (dIf (dOr (dCmp .lt (dLoc 1) (dInt 1)) (dCmp .gt (dLoc 1) (dInt 60))) (dRet (dCal wC ci_X10_refuse (dA1 (dA1 (dA1 dA0 (dLoc 0)) (dInt 2)) (dInt (-1))))))
  (dSeq (dIf (dCmp .gt (dBin (opF 0) (dFld wC 2 2 (dFld wC 10 5 (dLoc 0))) (dLoc 1)) (dInt 999)) (dRet (dCal wC ci_X10_refuse (dA1 (dA1 (dA1 dA0 (dLoc 0)) (dInt 4)) (dInt (-1))))))
  (dSeq (dSeq (dSet 2 (dInt 0))
  (dWh (wc1_X10_years) (wb1_X10_years)))
  (dRet (dFld wC 2 2 (dFld wC 10 5 (dLoc 0)))))))) [v0, v1, 0] M) := by
  have h : a_X10_years.1.1 = (dSeq (dIf (dNot (dCm0 .ne (dCal wC ci_X10_isTold (dA1 dA0 (dLoc 0))))) (dRet (dCal wC ci_X10_refuse (dA1 (dA1 (dA1 dA0 (dLoc 0)) (dInt 0)) (dInt (-1))))))
  (dSeq (dIf (dOr (dCmp .lt (dLoc 1) (dInt 1)) (dCmp .gt (dLoc 1) (dInt 60))) (dRet (dCal wC ci_X10_refuse (dA1 (dA1 (dA1 dA0 (dLoc 0)) (dInt 2)) (dInt (-1))))))
  (dSeq (dIf (dCmp .gt (dBin (opF 0) (dFld wC 2 2 (dFld wC 10 5 (dLoc 0))) (dLoc 1)) (dInt 999)) (dRet (dCal wC ci_X10_refuse (dA1 (dA1 (dA1 dA0 (dLoc 0)) (dInt 4)) (dInt (-1))))))
  (dSeq (dSeq (dSet 2 (dInt 0))
  (dWh (wc1_X10_years) (wb1_X10_years)))
  (dRet (dFld wC 2 2 (dFld wC 10 5 (dLoc 0)))))))) := by simp only [a_X10_years, wc1_X10_years, wb1_X10_years, p_sSet, p_sInc, p_sPutF, p_sUpdF, p_sPutA, p_sUpdA, sDo, p_sCpy, p_sSeq, p_sIf, p_sIfE, p_sWh, p_sRet, p_sReV, p_sBlk, p_sSw, p_wDf, p_wCs, p_eInt, p_eLng, p_eNll, p_eStr, p_eSta, p_eLoc, p_eBin, p_eDiv, p_eI2L, p_eL2I, p_eFld, p_eAr, p_eRo, p_eLen, eCal, p_eMt, p_eAbs, p_eBo, p_eCon, p_aA0, p_aA1, p_oCmp, p_oCm0, p_oCmpL, p_oNul, p_oAnd, p_oOr, p_oNot]
  exact congrArg (fun z => fin false (z [v0, v1, 0] M)) h
set_option maxRecDepth 100000 in
theorem u_X10_bold (v0 v1 : Int) (M : Mem) : ci_X10_bold.2.2.2.2 [v0, v1] M = fin true ((dSeq (dIf (dOr (dOr (dCm0 .lt (dLoc 1)) (dCmp .gt (dLoc 1) (dInt 9))) (dCmp .eq (dLoc 1) (dFld wC 10 15 (dLoc 0)))) (dRet (dInt 0)))
  (dSeq (dPutF wC 10 15 (dLoc 0) (dLoc 1))
  (dRet (dInt 1)))) [v0, v1] M) := by
  have h : a_X10_bold.1.1 = (dSeq (dIf (dOr (dOr (dCm0 .lt (dLoc 1)) (dCmp .gt (dLoc 1) (dInt 9))) (dCmp .eq (dLoc 1) (dFld wC 10 15 (dLoc 0)))) (dRet (dInt 0)))
  (dSeq (dPutF wC 10 15 (dLoc 0) (dLoc 1))
  (dRet (dInt 1)))) := by simp only [a_X10_bold, p_sSet, p_sInc, p_sPutF, p_sUpdF, p_sPutA, p_sUpdA, sDo, p_sCpy, p_sSeq, p_sIf, p_sIfE, p_sWh, p_sRet, p_sReV, p_sBlk, p_sSw, p_wDf, p_wCs, p_eInt, p_eLng, p_eNll, p_eStr, p_eSta, p_eLoc, p_eBin, p_eDiv, p_eI2L, p_eL2I, p_eFld, p_eAr, p_eRo, p_eLen, eCal, p_eMt, p_eAbs, p_eBo, p_eCon, p_aA0, p_aA1, p_oCmp, p_oCm0, p_oCmpL, p_oNul, p_oAnd, p_oOr, p_oNot]
  exact congrArg (fun z => fin true (z [v0, v1] M)) h
set_option maxRecDepth 100000 in
theorem u_X10_stepped (v0 : Int) (M : Mem) : ci_X10_stepped.2.2.2.2 [v0] M = fin false ((dRet (dBin (opF 9) (dBin (opF 11) (dLoc 0) (dInt 6364136223846793005)) (dInt 1442695040888963407))) [v0, 0] M) := by
  have h : a_X10_stepped.1.1 = (dRet (dBin (opF 9) (dBin (opF 11) (dLoc 0) (dInt 6364136223846793005)) (dInt 1442695040888963407))) := by simp only [a_X10_stepped, p_sSet, p_sInc, p_sPutF, p_sUpdF, p_sPutA, p_sUpdA, sDo, p_sCpy, p_sSeq, p_sIf, p_sIfE, p_sWh, p_sRet, p_sReV, p_sBlk, p_sSw, p_wDf, p_wCs, p_eInt, p_eLng, p_eNll, p_eStr, p_eSta, p_eLoc, p_eBin, p_eDiv, p_eI2L, p_eL2I, p_eFld, p_eAr, p_eRo, p_eLen, eCal, p_eMt, p_eAbs, p_eBo, p_eCon, p_aA0, p_aA1, p_oCmp, p_oCm0, p_oCmpL, p_oNul, p_oAnd, p_oOr, p_oNot]
  exact congrArg (fun z => fin false (z [v0, 0] M)) h
set_option maxRecDepth 100000 in
theorem u_X10_drawn (v0 v1 : Int) (M : Mem) : ci_X10_drawn.2.2.2.2 [v0, v1] M = fin false ((dRet (dCon (dCm0 .gt (dLoc 2)) (dUn id (dDiv (dvF 3) (dvW 3) (dBin (opF 15) (dLoc 0) (dInt 33)) (dUn wr (dLoc 2)))) (dInt 0))) [v0, 0, v1] M) := by
  have h : a_X10_drawn.1.1 = (dRet (dCon (dCm0 .gt (dLoc 2)) (dUn id (dDiv (dvF 3) (dvW 3) (dBin (opF 15) (dLoc 0) (dInt 33)) (dUn wr (dLoc 2)))) (dInt 0))) := by simp only [a_X10_drawn, p_sSet, p_sInc, p_sPutF, p_sUpdF, p_sPutA, p_sUpdA, sDo, p_sCpy, p_sSeq, p_sIf, p_sIfE, p_sWh, p_sRet, p_sReV, p_sBlk, p_sSw, p_wDf, p_wCs, p_eInt, p_eLng, p_eNll, p_eStr, p_eSta, p_eLoc, p_eBin, p_eDiv, p_eI2L, p_eL2I, p_eFld, p_eAr, p_eRo, p_eLen, eCal, p_eMt, p_eAbs, p_eBo, p_eCon, p_aA0, p_aA1, p_oCmp, p_oCm0, p_oCmpL, p_oNul, p_oAnd, p_oOr, p_oNot]
  exact congrArg (fun z => fin false (z [v0, 0, v1] M)) h
noncomputable def wc1_X10_showByDraws : CoD := (dCmp .lt (dLoc 5) (dFld wC 2 1 (dFld wC 10 5 (dLoc 0))))
noncomputable def wb1_X10_showByDraws : StD := (dSeq (dIf (dCm0 .ne (dCal wC ci_X2_lives (dA1 (dA1 dA0 (dFld wC 10 5 (dLoc 0))) (dLoc 5)))) (dSeq (dSet 3 (dCal wC ci_X10_stepped (dA1 dA0 (dLoc 3))))
  (dDo wC ci_X2_set (dA1 (dA1 (dA1 (dA1 dA0 (dFld wC 10 5 (dLoc 0))) (dLoc 5)) (dInt 1)) (dCon (dCmp .lt (dCal wC ci_X10_drawn (dA1 (dA1 dA0 (dLoc 3)) (dInt 10))) (dFld wC 10 15 (dLoc 0))) (dDiv (dvF 0) (dvW 0) (dCal wC ci_X2_get (dA1 (dA1 (dA1 dA0 (dFld wC 10 5 (dLoc 0))) (dLoc 5)) (dInt 0))) (dInt 2)) (dInt 0))))))
  (dInc 5 1))
set_option maxRecDepth 100000 in
theorem u_X10_showByDraws (v0 v1 : Int) (M : Mem) : ci_X10_showByDraws.2.2.2.2 [v0, v1] M = fin false ((dSeq (dSet 3 (dLoc 1))
  (dSeq (dSeq (dSet 5 (dInt 0))
  (dWh (wc1_X10_showByDraws) (wb1_X10_showByDraws)))
  (dRet (dLoc 3)))) [v0, v1, 0, 0, 0, 0] M) := by
  have h : a_X10_showByDraws.1.1 = (dSeq (dSet 3 (dLoc 1))
  (dSeq (dSeq (dSet 5 (dInt 0))
  (dWh (wc1_X10_showByDraws) (wb1_X10_showByDraws)))
  (dRet (dLoc 3)))) := by simp only [a_X10_showByDraws, wc1_X10_showByDraws, wb1_X10_showByDraws, p_sSet, p_sInc, p_sPutF, p_sUpdF, p_sPutA, p_sUpdA, sDo, p_sCpy, p_sSeq, p_sIf, p_sIfE, p_sWh, p_sRet, p_sReV, p_sBlk, p_sSw, p_wDf, p_wCs, p_eInt, p_eLng, p_eNll, p_eStr, p_eSta, p_eLoc, p_eBin, p_eDiv, p_eI2L, p_eL2I, p_eFld, p_eAr, p_eRo, p_eLen, eCal, p_eMt, p_eAbs, p_eBo, p_eCon, p_aA0, p_aA1, p_oCmp, p_oCm0, p_oCmpL, p_oNul, p_oAnd, p_oOr, p_oNot]
  exact congrArg (fun z => fin false (z [v0, v1, 0, 0, 0, 0] M)) h
noncomputable def wc1_X10_comeByDraws : CoD := (dCmp .lt (dLoc 5) (dFld wC 2 1 (dFld wC 10 5 (dLoc 0))))
noncomputable def wb1_X10_comeByDraws : StD := (dSeq (dIf (dNot (dCm0 .ne (dCal wC ci_X2_lives (dA1 (dA1 dA0 (dFld wC 10 5 (dLoc 0))) (dLoc 5))))) (dSeq (dSet 3 (dCal wC ci_X10_stepped (dA1 dA0 (dLoc 3))))
  (dIf (dCmp .eq (dCal wC ci_X10_drawn (dA1 (dA1 dA0 (dLoc 3)) (dInt 2))) (dInt 1)) (dDo wC ci_X2_welcome (dA1 (dA1 dA0 (dFld wC 10 5 (dLoc 0))) (dLoc 5))))))
  (dInc 5 1))
set_option maxRecDepth 100000 in
theorem u_X10_comeByDraws (v0 v1 : Int) (M : Mem) : ci_X10_comeByDraws.2.2.2.2 [v0, v1] M = fin false ((dSeq (dSet 3 (dLoc 1))
  (dSeq (dSeq (dSet 5 (dInt 0))
  (dWh (wc1_X10_comeByDraws) (wb1_X10_comeByDraws)))
  (dRet (dLoc 3)))) [v0, v1, 0, 0, 0, 0] M) := by
  have h : a_X10_comeByDraws.1.1 = (dSeq (dSet 3 (dLoc 1))
  (dSeq (dSeq (dSet 5 (dInt 0))
  (dWh (wc1_X10_comeByDraws) (wb1_X10_comeByDraws)))
  (dRet (dLoc 3)))) := by simp only [a_X10_comeByDraws, wc1_X10_comeByDraws, wb1_X10_comeByDraws, p_sSet, p_sInc, p_sPutF, p_sUpdF, p_sPutA, p_sUpdA, sDo, p_sCpy, p_sSeq, p_sIf, p_sIfE, p_sWh, p_sRet, p_sReV, p_sBlk, p_sSw, p_wDf, p_wCs, p_eInt, p_eLng, p_eNll, p_eStr, p_eSta, p_eLoc, p_eBin, p_eDiv, p_eI2L, p_eL2I, p_eFld, p_eAr, p_eRo, p_eLen, eCal, p_eMt, p_eAbs, p_eBo, p_eCon, p_aA0, p_aA1, p_oCmp, p_oCm0, p_oCmpL, p_oNul, p_oAnd, p_oOr, p_oNot]
  exact congrArg (fun z => fin false (z [v0, v1, 0, 0, 0, 0] M)) h
noncomputable def wc1_X10_winters : CoD := (dCmp .lt (dLoc 6) (dLoc 1))
noncomputable def wb1_X10_winters : StD := (dSeq (dSeq (dDo wC ci_X0_keep (dA1 (dA1 dA0 (dFld wC 10 10 (dLoc 0))) (dFld wC 10 5 (dLoc 0))))
  (dSeq (dSet 4 (dCal wC ci_X10_showByDraws (dA1 (dA1 dA0 (dLoc 0)) (dLoc 4))))
  (dSeq (dSet 4 (dCal wC ci_X10_comeByDraws (dA1 (dA1 dA0 (dLoc 0)) (dLoc 4))))
  (dDo wC ci_X10_passYear (dA1 dA0 (dLoc 0))))))
  (dInc 6 1))
set_option maxRecDepth 100000 in
theorem u_X10_winters (v0 v1 v2 : Int) (M : Mem) : ci_X10_winters.2.2.2.2 [v0, v1, v2] M = fin false ((dSeq (dIf (dOr (dOr (dOr (dNot (dCm0 .ne (dCal wC ci_X10_isTold (dA1 dA0 (dLoc 0))))) (dCmp .lt (dLoc 1) (dInt 1))) (dCmp .gt (dLoc 1) (dInt 60))) (dCmp .gt (dBin (opF 0) (dFld wC 2 2 (dFld wC 10 5 (dLoc 0))) (dLoc 1)) (dInt 999))) (dRet (dInt (-1))))
  (dSeq (dSet 4 (dLoc 2))
  (dSeq (dSeq (dSet 6 (dInt 0))
  (dWh (wc1_X10_winters) (wb1_X10_winters)))
  (dRet (dFld wC 2 2 (dFld wC 10 5 (dLoc 0))))))) [v0, v1, v2, 0, 0, 0, 0] M) := by
  have h : a_X10_winters.1.1 = (dSeq (dIf (dOr (dOr (dOr (dNot (dCm0 .ne (dCal wC ci_X10_isTold (dA1 dA0 (dLoc 0))))) (dCmp .lt (dLoc 1) (dInt 1))) (dCmp .gt (dLoc 1) (dInt 60))) (dCmp .gt (dBin (opF 0) (dFld wC 2 2 (dFld wC 10 5 (dLoc 0))) (dLoc 1)) (dInt 999))) (dRet (dInt (-1))))
  (dSeq (dSet 4 (dLoc 2))
  (dSeq (dSeq (dSet 6 (dInt 0))
  (dWh (wc1_X10_winters) (wb1_X10_winters)))
  (dRet (dFld wC 2 2 (dFld wC 10 5 (dLoc 0))))))) := by simp only [a_X10_winters, wc1_X10_winters, wb1_X10_winters, p_sSet, p_sInc, p_sPutF, p_sUpdF, p_sPutA, p_sUpdA, sDo, p_sCpy, p_sSeq, p_sIf, p_sIfE, p_sWh, p_sRet, p_sReV, p_sBlk, p_sSw, p_wDf, p_wCs, p_eInt, p_eLng, p_eNll, p_eStr, p_eSta, p_eLoc, p_eBin, p_eDiv, p_eI2L, p_eL2I, p_eFld, p_eAr, p_eRo, p_eLen, eCal, p_eMt, p_eAbs, p_eBo, p_eCon, p_aA0, p_aA1, p_oCmp, p_oCm0, p_oCmpL, p_oNul, p_oAnd, p_oOr, p_oNot]
  exact congrArg (fun z => fin false (z [v0, v1, v2, 0, 0, 0, 0] M)) h
set_option maxRecDepth 100000 in
theorem u_X10_status (v0 v1 : Int) (M : Mem) : ci_X10_status.2.2.2.2 [v0, v1] M = fin false ((dRet (dCon (dAnd (dCm0 .ge (dLoc 1)) (dCmp .lt (dLoc 1) (dLen wC 0 (dFld wC 10 14 (dLoc 0))))) (dAr wC 0 (dFld wC 10 14 (dLoc 0)) (dLoc 1)) (dInt (-1)))) [v0, v1] M) := by
  have h : a_X10_status.1.1 = (dRet (dCon (dAnd (dCm0 .ge (dLoc 1)) (dCmp .lt (dLoc 1) (dLen wC 0 (dFld wC 10 14 (dLoc 0))))) (dAr wC 0 (dFld wC 10 14 (dLoc 0)) (dLoc 1)) (dInt (-1)))) := by simp only [a_X10_status, p_sSet, p_sInc, p_sPutF, p_sUpdF, p_sPutA, p_sUpdA, sDo, p_sCpy, p_sSeq, p_sIf, p_sIfE, p_sWh, p_sRet, p_sReV, p_sBlk, p_sSw, p_wDf, p_wCs, p_eInt, p_eLng, p_eNll, p_eStr, p_eSta, p_eLoc, p_eBin, p_eDiv, p_eI2L, p_eL2I, p_eFld, p_eAr, p_eRo, p_eLen, eCal, p_eMt, p_eAbs, p_eBo, p_eCon, p_aA0, p_aA1, p_oCmp, p_oCm0, p_oCmpL, p_oNul, p_oAnd, p_oOr, p_oNot]
  exact congrArg (fun z => fin false (z [v0, v1] M)) h
set_option maxRecDepth 100000 in
theorem u_X0_takeBack (v0 v1 : Int) (M : Mem) : ci_X0_takeBack.2.2.2.2 [v0, v1] M = fin false ((dSeq (dSeq (dPutF wC 0 2 (dLoc 0) (dDiv (dvF 1) (dvW 1) (dBin (opF 1) (dBin (opF 0) (dFld wC 0 2 (dLoc 0)) (dInt 40)) (dInt 1)) (dInt 40)))
  (dSeq (dDo wC ci_X10_move (dA1 (dA1 (dA1 (dA1 (dA1 dA0 (dFld wC 0 0 (dLoc 0))) (dBin (opF 2) (dFld wC 0 2 (dLoc 0)) (dInt 56))) (dFld wC 2 0 (dLoc 1))) (dInt 0)) (dInt 56)))
  (dSeq (dPutF wC 2 2 (dLoc 1) (dCal wC ci_X10_at (dA1 (dA1 dA0 (dFld wC 0 1 (dLoc 0))) (dFld wC 0 2 (dLoc 0)))))
  (dUpdF wC 1 0 3 (dLoc 0) (dInt 1)))))
  dReV) [v0, v1] M) := by
  have h : a_X0_takeBack.1.1 = (dSeq (dSeq (dPutF wC 0 2 (dLoc 0) (dDiv (dvF 1) (dvW 1) (dBin (opF 1) (dBin (opF 0) (dFld wC 0 2 (dLoc 0)) (dInt 40)) (dInt 1)) (dInt 40)))
  (dSeq (dDo wC ci_X10_move (dA1 (dA1 (dA1 (dA1 (dA1 dA0 (dFld wC 0 0 (dLoc 0))) (dBin (opF 2) (dFld wC 0 2 (dLoc 0)) (dInt 56))) (dFld wC 2 0 (dLoc 1))) (dInt 0)) (dInt 56)))
  (dSeq (dPutF wC 2 2 (dLoc 1) (dCal wC ci_X10_at (dA1 (dA1 dA0 (dFld wC 0 1 (dLoc 0))) (dFld wC 0 2 (dLoc 0)))))
  (dUpdF wC 1 0 3 (dLoc 0) (dInt 1)))))
  dReV) := by simp only [a_X0_takeBack, p_sSet, p_sInc, p_sPutF, p_sUpdF, p_sPutA, p_sUpdA, sDo, p_sCpy, p_sSeq, p_sIf, p_sIfE, p_sWh, p_sRet, p_sReV, p_sBlk, p_sSw, p_wDf, p_wCs, p_eInt, p_eLng, p_eNll, p_eStr, p_eSta, p_eLoc, p_eBin, p_eDiv, p_eI2L, p_eL2I, p_eFld, p_eAr, p_eRo, p_eLen, eCal, p_eMt, p_eAbs, p_eBo, p_eCon, p_aA0, p_aA1, p_oCmp, p_oCm0, p_oCmpL, p_oNul, p_oAnd, p_oOr, p_oNot]
  exact congrArg (fun z => fin false (z [v0, v1] M)) h
set_option maxRecDepth 100000 in
theorem u_X10_undo (v0 : Int) (M : Mem) : ci_X10_undo.2.2.2.2 [v0] M = fin false ((dSeq (dIf (dCm0 .eq (dFld wC 0 3 (dFld wC 10 10 (dLoc 0)))) (dRet (dInt (-1))))
  (dSeq (dDo wC ci_X0_takeBack (dA1 (dA1 dA0 (dFld wC 10 10 (dLoc 0))) (dFld wC 10 5 (dLoc 0))))
  (dRet (dFld wC 0 3 (dFld wC 10 10 (dLoc 0)))))) [v0] M) := by
  have h : a_X10_undo.1.1 = (dSeq (dIf (dCm0 .eq (dFld wC 0 3 (dFld wC 10 10 (dLoc 0)))) (dRet (dInt (-1))))
  (dSeq (dDo wC ci_X0_takeBack (dA1 (dA1 dA0 (dFld wC 10 10 (dLoc 0))) (dFld wC 10 5 (dLoc 0))))
  (dRet (dFld wC 0 3 (dFld wC 10 10 (dLoc 0)))))) := by simp only [a_X10_undo, p_sSet, p_sInc, p_sPutF, p_sUpdF, p_sPutA, p_sUpdA, sDo, p_sCpy, p_sSeq, p_sIf, p_sIfE, p_sWh, p_sRet, p_sReV, p_sBlk, p_sSw, p_wDf, p_wCs, p_eInt, p_eLng, p_eNll, p_eStr, p_eSta, p_eLoc, p_eBin, p_eDiv, p_eI2L, p_eL2I, p_eFld, p_eAr, p_eRo, p_eLen, eCal, p_eMt, p_eAbs, p_eBo, p_eCon, p_aA0, p_aA1, p_oCmp, p_oCm0, p_oCmpL, p_oNul, p_oAnd, p_oOr, p_oNot]
  exact congrArg (fun z => fin false (z [v0] M)) h
set_option maxRecDepth 100000 in
theorem u_X10_logLength (v0 : Int) (M : Mem) : ci_X10_logLength.2.2.2.2 [v0] M = fin false ((dRet (dBin (mtF 1) (dFld wC 2 2 (dFld wC 10 5 (dLoc 0))) (dInt 60))) [v0] M) := by
  have h : a_X10_logLength.1.1 = (dRet (dBin (mtF 1) (dFld wC 2 2 (dFld wC 10 5 (dLoc 0))) (dInt 60))) := by simp only [a_X10_logLength, p_sSet, p_sInc, p_sPutF, p_sUpdF, p_sPutA, p_sUpdA, sDo, p_sCpy, p_sSeq, p_sIf, p_sIfE, p_sWh, p_sRet, p_sReV, p_sBlk, p_sSw, p_wDf, p_wCs, p_eInt, p_eLng, p_eNll, p_eStr, p_eSta, p_eLoc, p_eBin, p_eDiv, p_eI2L, p_eL2I, p_eFld, p_eAr, p_eRo, p_eLen, eCal, p_eMt, p_eAbs, p_eBo, p_eCon, p_aA0, p_aA1, p_oCmp, p_oCm0, p_oCmpL, p_oNul, p_oAnd, p_oOr, p_oNot]
  exact congrArg (fun z => fin false (z [v0] M)) h
set_option maxRecDepth 100000 in
theorem u_X5_read (v0 v1 v2 : Int) (M : Mem) : ci_X5_read.2.2.2.2 [v0, v1, v2] M = fin false ((dRet (dCal wC ci_X10_at (dA1 (dA1 dA0 (dFld wC 5 0 (dLoc 0))) (dBin (opF 0) (dBin (opF 2) (dDiv (dvF 1) (dvW 1) (dLoc 1) (dInt 100)) (dInt 3)) (dLoc 2))))) [v0, v1, v2] M) := by
  have h : a_X5_read.1.1 = (dRet (dCal wC ci_X10_at (dA1 (dA1 dA0 (dFld wC 5 0 (dLoc 0))) (dBin (opF 0) (dBin (opF 2) (dDiv (dvF 1) (dvW 1) (dLoc 1) (dInt 100)) (dInt 3)) (dLoc 2))))) := by simp only [a_X5_read, p_sSet, p_sInc, p_sPutF, p_sUpdF, p_sPutA, p_sUpdA, sDo, p_sCpy, p_sSeq, p_sIf, p_sIfE, p_sWh, p_sRet, p_sReV, p_sBlk, p_sSw, p_wDf, p_wCs, p_eInt, p_eLng, p_eNll, p_eStr, p_eSta, p_eLoc, p_eBin, p_eDiv, p_eI2L, p_eL2I, p_eFld, p_eAr, p_eRo, p_eLen, eCal, p_eMt, p_eAbs, p_eBo, p_eCon, p_aA0, p_aA1, p_oCmp, p_oCm0, p_oCmpL, p_oNul, p_oAnd, p_oOr, p_oNot]
  exact congrArg (fun z => fin false (z [v0, v1, v2] M)) h
set_option maxRecDepth 100000 in
theorem u_X10_log (v0 v1 v2 : Int) (M : Mem) : ci_X10_log.2.2.2.2 [v0, v1, v2] M = fin false ((dSeq (dIf (dOr (dOr (dOr (dCm0 .lt (dLoc 1)) (dCmp .ge (dLoc 1) (dCal wC ci_X10_logLength (dA1 dA0 (dLoc 0))))) (dCm0 .lt (dLoc 2))) (dCmp .ge (dLoc 2) (dInt 3))) (dRet (dInt (-1000000))))
  (dRet (dCal wC ci_X5_read (dA1 (dA1 (dA1 dA0 (dFld wC 10 8 (dLoc 0))) (dBin (opF 1) (dBin (opF 1) (dFld wC 2 2 (dFld wC 10 5 (dLoc 0))) (dInt 1)) (dLoc 1))) (dLoc 2))))) [v0, v1, v2] M) := by
  have h : a_X10_log.1.1 = (dSeq (dIf (dOr (dOr (dOr (dCm0 .lt (dLoc 1)) (dCmp .ge (dLoc 1) (dCal wC ci_X10_logLength (dA1 dA0 (dLoc 0))))) (dCm0 .lt (dLoc 2))) (dCmp .ge (dLoc 2) (dInt 3))) (dRet (dInt (-1000000))))
  (dRet (dCal wC ci_X5_read (dA1 (dA1 (dA1 dA0 (dFld wC 10 8 (dLoc 0))) (dBin (opF 1) (dBin (opF 1) (dFld wC 2 2 (dFld wC 10 5 (dLoc 0))) (dInt 1)) (dLoc 1))) (dLoc 2))))) := by simp only [a_X10_log, p_sSet, p_sInc, p_sPutF, p_sUpdF, p_sPutA, p_sUpdA, sDo, p_sCpy, p_sSeq, p_sIf, p_sIfE, p_sWh, p_sRet, p_sReV, p_sBlk, p_sSw, p_wDf, p_wCs, p_eInt, p_eLng, p_eNll, p_eStr, p_eSta, p_eLoc, p_eBin, p_eDiv, p_eI2L, p_eL2I, p_eFld, p_eAr, p_eRo, p_eLen, eCal, p_eMt, p_eAbs, p_eBo, p_eCon, p_aA0, p_aA1, p_oCmp, p_oCm0, p_oCmpL, p_oNul, p_oAnd, p_oOr, p_oNot]
  exact congrArg (fun z => fin false (z [v0, v1, v2] M)) h
set_option maxRecDepth 100000 in
theorem u_X2_copy (v0 v1 : Int) (M : Mem) : ci_X2_copy.2.2.2.2 [v0, v1] M = fin false ((dSeq (dSeq (dDo wC ci_X10_move (dA1 (dA1 (dA1 (dA1 (dA1 dA0 (dFld wC 2 0 (dLoc 1))) (dInt 0)) (dFld wC 2 0 (dLoc 0))) (dInt 0)) (dLen wC 0 (dFld wC 2 0 (dLoc 0)))))
  (dSeq (dPutF wC 2 1 (dLoc 0) (dFld wC 2 1 (dLoc 1)))
  (dSeq (dPutF wC 2 2 (dLoc 0) (dFld wC 2 2 (dLoc 1)))
  (dSeq (dPutF wC 2 3 (dLoc 0) (dFld wC 2 3 (dLoc 1)))
  (dPutF wC 2 4 (dLoc 0) (dFld wC 2 4 (dLoc 1)))))))
  dReV) [v0, v1] M) := by
  have h : a_X2_copy.1.1 = (dSeq (dSeq (dDo wC ci_X10_move (dA1 (dA1 (dA1 (dA1 (dA1 dA0 (dFld wC 2 0 (dLoc 1))) (dInt 0)) (dFld wC 2 0 (dLoc 0))) (dInt 0)) (dLen wC 0 (dFld wC 2 0 (dLoc 0)))))
  (dSeq (dPutF wC 2 1 (dLoc 0) (dFld wC 2 1 (dLoc 1)))
  (dSeq (dPutF wC 2 2 (dLoc 0) (dFld wC 2 2 (dLoc 1)))
  (dSeq (dPutF wC 2 3 (dLoc 0) (dFld wC 2 3 (dLoc 1)))
  (dPutF wC 2 4 (dLoc 0) (dFld wC 2 4 (dLoc 1)))))))
  dReV) := by simp only [a_X2_copy, p_sSet, p_sInc, p_sPutF, p_sUpdF, p_sPutA, p_sUpdA, sDo, p_sCpy, p_sSeq, p_sIf, p_sIfE, p_sWh, p_sRet, p_sReV, p_sBlk, p_sSw, p_wDf, p_wCs, p_eInt, p_eLng, p_eNll, p_eStr, p_eSta, p_eLoc, p_eBin, p_eDiv, p_eI2L, p_eL2I, p_eFld, p_eAr, p_eRo, p_eLen, eCal, p_eMt, p_eAbs, p_eBo, p_eCon, p_aA0, p_aA1, p_oCmp, p_oCm0, p_oCmpL, p_oNul, p_oAnd, p_oOr, p_oNot]
  exact congrArg (fun z => fin false (z [v0, v1] M)) h
set_option maxRecDepth 100000 in
theorem u_X5_copy (v0 v1 : Int) (M : Mem) : ci_X5_copy.2.2.2.2 [v0, v1] M = fin false ((dSeq (dDo wC ci_X10_move (dA1 (dA1 (dA1 (dA1 (dA1 dA0 (dFld wC 5 0 (dLoc 1))) (dInt 0)) (dFld wC 5 0 (dLoc 0))) (dInt 0)) (dLen wC 0 (dFld wC 5 0 (dLoc 0)))))
  dReV) [v0, v1] M) := by
  have h : a_X5_copy.1.1 = (dSeq (dDo wC ci_X10_move (dA1 (dA1 (dA1 (dA1 (dA1 dA0 (dFld wC 5 0 (dLoc 1))) (dInt 0)) (dFld wC 5 0 (dLoc 0))) (dInt 0)) (dLen wC 0 (dFld wC 5 0 (dLoc 0)))))
  dReV) := by simp only [a_X5_copy, p_sSet, p_sInc, p_sPutF, p_sUpdF, p_sPutA, p_sUpdA, sDo, p_sCpy, p_sSeq, p_sIf, p_sIfE, p_sWh, p_sRet, p_sReV, p_sBlk, p_sSw, p_wDf, p_wCs, p_eInt, p_eLng, p_eNll, p_eStr, p_eSta, p_eLoc, p_eBin, p_eDiv, p_eI2L, p_eL2I, p_eFld, p_eAr, p_eRo, p_eLen, eCal, p_eMt, p_eAbs, p_eBo, p_eCon, p_aA0, p_aA1, p_oCmp, p_oCm0, p_oCmpL, p_oNul, p_oAnd, p_oOr, p_oNot]
  exact congrArg (fun z => fin false (z [v0, v1] M)) h
set_option maxRecDepth 100000 in
theorem u_X10_image (v0 : Int) (M : Mem) : ci_X10_image.2.2.2.2 [v0] M = fin false ((dSeq (dIf (dNot (dCm0 .ne (dCal wC ci_X10_isTold (dA1 dA0 (dLoc 0))))) (dRet (dInt (-1))))
  (dSeq (dDo wC ci_X2_copy (dA1 (dA1 dA0 (dFld wC 10 7 (dLoc 0))) (dFld wC 10 5 (dLoc 0))))
  (dSeq (dDo wC ci_X5_copy (dA1 (dA1 dA0 (dFld wC 10 9 (dLoc 0))) (dFld wC 10 8 (dLoc 0))))
  (dSeq (dPutF wC 10 16 (dLoc 0) (dInt 1))
  (dRet (dFld wC 2 2 (dFld wC 10 5 (dLoc 0)))))))) [v0] M) := by
  have h : a_X10_image.1.1 = (dSeq (dIf (dNot (dCm0 .ne (dCal wC ci_X10_isTold (dA1 dA0 (dLoc 0))))) (dRet (dInt (-1))))
  (dSeq (dDo wC ci_X2_copy (dA1 (dA1 dA0 (dFld wC 10 7 (dLoc 0))) (dFld wC 10 5 (dLoc 0))))
  (dSeq (dDo wC ci_X5_copy (dA1 (dA1 dA0 (dFld wC 10 9 (dLoc 0))) (dFld wC 10 8 (dLoc 0))))
  (dSeq (dPutF wC 10 16 (dLoc 0) (dInt 1))
  (dRet (dFld wC 2 2 (dFld wC 10 5 (dLoc 0)))))))) := by simp only [a_X10_image, p_sSet, p_sInc, p_sPutF, p_sUpdF, p_sPutA, p_sUpdA, sDo, p_sCpy, p_sSeq, p_sIf, p_sIfE, p_sWh, p_sRet, p_sReV, p_sBlk, p_sSw, p_wDf, p_wCs, p_eInt, p_eLng, p_eNll, p_eStr, p_eSta, p_eLoc, p_eBin, p_eDiv, p_eI2L, p_eL2I, p_eFld, p_eAr, p_eRo, p_eLen, eCal, p_eMt, p_eAbs, p_eBo, p_eCon, p_aA0, p_aA1, p_oCmp, p_oCm0, p_oCmpL, p_oNul, p_oAnd, p_oOr, p_oNot]
  exact congrArg (fun z => fin false (z [v0] M)) h
set_option maxRecDepth 100000 in
theorem u_X10_back (v0 : Int) (M : Mem) : ci_X10_back.2.2.2.2 [v0] M = fin false ((dSeq (dIf (dNot (dCm0 .ne (dFld wC 10 16 (dLoc 0)))) (dRet (dInt (-1))))
  (dSeq (dDo wC ci_X2_copy (dA1 (dA1 dA0 (dFld wC 10 5 (dLoc 0))) (dFld wC 10 7 (dLoc 0))))
  (dSeq (dDo wC ci_X5_copy (dA1 (dA1 dA0 (dFld wC 10 8 (dLoc 0))) (dFld wC 10 9 (dLoc 0))))
  (dSeq (dDo wC ci_X0_forget (dA1 dA0 (dFld wC 10 10 (dLoc 0))))
  (dRet (dFld wC 2 2 (dFld wC 10 5 (dLoc 0)))))))) [v0] M) := by
  have h : a_X10_back.1.1 = (dSeq (dIf (dNot (dCm0 .ne (dFld wC 10 16 (dLoc 0)))) (dRet (dInt (-1))))
  (dSeq (dDo wC ci_X2_copy (dA1 (dA1 dA0 (dFld wC 10 5 (dLoc 0))) (dFld wC 10 7 (dLoc 0))))
  (dSeq (dDo wC ci_X5_copy (dA1 (dA1 dA0 (dFld wC 10 8 (dLoc 0))) (dFld wC 10 9 (dLoc 0))))
  (dSeq (dDo wC ci_X0_forget (dA1 dA0 (dFld wC 10 10 (dLoc 0))))
  (dRet (dFld wC 2 2 (dFld wC 10 5 (dLoc 0)))))))) := by simp only [a_X10_back, p_sSet, p_sInc, p_sPutF, p_sUpdF, p_sPutA, p_sUpdA, sDo, p_sCpy, p_sSeq, p_sIf, p_sIfE, p_sWh, p_sRet, p_sReV, p_sBlk, p_sSw, p_wDf, p_wCs, p_eInt, p_eLng, p_eNll, p_eStr, p_eSta, p_eLoc, p_eBin, p_eDiv, p_eI2L, p_eL2I, p_eFld, p_eAr, p_eRo, p_eLen, eCal, p_eMt, p_eAbs, p_eBo, p_eCon, p_aA0, p_aA1, p_oCmp, p_oCm0, p_oCmpL, p_oNul, p_oAnd, p_oOr, p_oNot]
  exact congrArg (fun z => fin false (z [v0] M)) h
set_option maxRecDepth 100000 in
theorem u_X10_chosen (v0 : Int) (M : Mem) : ci_X10_chosen.2.2.2.2 [v0] M = fin false ((dRet (dCal wC ci_X2_mostFeared (dA1 (dA1 dA0 (dFld wC 10 5 (dLoc 0))) (dCal wC ci_X2_living (dA1 dA0 (dFld wC 10 5 (dLoc 0))))))) [v0] M) := by
  have h : a_X10_chosen.1.1 = (dRet (dCal wC ci_X2_mostFeared (dA1 (dA1 dA0 (dFld wC 10 5 (dLoc 0))) (dCal wC ci_X2_living (dA1 dA0 (dFld wC 10 5 (dLoc 0))))))) := by simp only [a_X10_chosen, p_sSet, p_sInc, p_sPutF, p_sUpdF, p_sPutA, p_sUpdA, sDo, p_sCpy, p_sSeq, p_sIf, p_sIfE, p_sWh, p_sRet, p_sReV, p_sBlk, p_sSw, p_wDf, p_wCs, p_eInt, p_eLng, p_eNll, p_eStr, p_eSta, p_eLoc, p_eBin, p_eDiv, p_eI2L, p_eL2I, p_eFld, p_eAr, p_eRo, p_eLen, eCal, p_eMt, p_eAbs, p_eBo, p_eCon, p_aA0, p_aA1, p_oCmp, p_oCm0, p_oCmpL, p_oNul, p_oAnd, p_oOr, p_oNot]
  exact congrArg (fun z => fin false (z [v0] M)) h
noncomputable def wc1_X2_rankedByFear : CoD := (dCm0 .gt (dLoc 3))
noncomputable def wb1_X2_rankedByFear : StD := (dSeq (dSeq (dSet 4 (dCal wC ci_X2_mostFeared (dA1 (dA1 dA0 (dLoc 0)) (dLoc 1))))
  (dSeq (dSet 2 (dBin (opF 0) (dBin (opF 2) (dLoc 2) (dInt 10)) (dLoc 4)))
  (dSet 1 (dBin (opF 3) (dLoc 1) (dBin (opF 5) (dBin (opF 6) (dInt 1) (dLoc 4)) (dInt (-1)))))))
  (dInc 3 (-1)))
set_option maxRecDepth 100000 in
theorem u_X2_rankedByFear (v0 : Int) (M : Mem) : ci_X2_rankedByFear.2.2.2.2 [v0] M = fin false ((dSeq (dSet 1 (dCal wC ci_X2_living (dA1 dA0 (dLoc 0))))
  (dSeq (dSet 2 (dInt 0))
  (dSeq (dSeq (dSet 3 (dCal wC ci_J6_bitCount_0f7a4C (dA1 dA0 (dLoc 1))))
  (dWh (wc1_X2_rankedByFear) (wb1_X2_rankedByFear)))
  (dRet (dLoc 2))))) [v0, 0, 0, 0, 0] M) := by
  have h : a_X2_rankedByFear.1.1 = (dSeq (dSet 1 (dCal wC ci_X2_living (dA1 dA0 (dLoc 0))))
  (dSeq (dSet 2 (dInt 0))
  (dSeq (dSeq (dSet 3 (dCal wC ci_J6_bitCount_0f7a4C (dA1 dA0 (dLoc 1))))
  (dWh (wc1_X2_rankedByFear) (wb1_X2_rankedByFear)))
  (dRet (dLoc 2))))) := by simp only [a_X2_rankedByFear, wc1_X2_rankedByFear, wb1_X2_rankedByFear, p_sSet, p_sInc, p_sPutF, p_sUpdF, p_sPutA, p_sUpdA, sDo, p_sCpy, p_sSeq, p_sIf, p_sIfE, p_sWh, p_sRet, p_sReV, p_sBlk, p_sSw, p_wDf, p_wCs, p_eInt, p_eLng, p_eNll, p_eStr, p_eSta, p_eLoc, p_eBin, p_eDiv, p_eI2L, p_eL2I, p_eFld, p_eAr, p_eRo, p_eLen, eCal, p_eMt, p_eAbs, p_eBo, p_eCon, p_aA0, p_aA1, p_oCmp, p_oCm0, p_oCmpL, p_oNul, p_oAnd, p_oOr, p_oNot]
  exact congrArg (fun z => fin false (z [v0, 0, 0, 0, 0] M)) h
set_option maxRecDepth 100000 in
theorem u_X10_order (v0 : Int) (M : Mem) : ci_X10_order.2.2.2.2 [v0] M = fin false ((dRet (dCon (dCm0 .ne (dCal wC ci_X10_isTold (dA1 dA0 (dLoc 0)))) (dCal wC ci_X2_rankedByFear (dA1 dA0 (dFld wC 10 5 (dLoc 0)))) (dInt (-1)))) [v0] M) := by
  have h : a_X10_order.1.1 = (dRet (dCon (dCm0 .ne (dCal wC ci_X10_isTold (dA1 dA0 (dLoc 0)))) (dCal wC ci_X2_rankedByFear (dA1 dA0 (dFld wC 10 5 (dLoc 0)))) (dInt (-1)))) := by simp only [a_X10_order, p_sSet, p_sInc, p_sPutF, p_sUpdF, p_sPutA, p_sUpdA, sDo, p_sCpy, p_sSeq, p_sIf, p_sIfE, p_sWh, p_sRet, p_sReV, p_sBlk, p_sSw, p_wDf, p_wCs, p_eInt, p_eLng, p_eNll, p_eStr, p_eSta, p_eLoc, p_eBin, p_eDiv, p_eI2L, p_eL2I, p_eFld, p_eAr, p_eRo, p_eLen, eCal, p_eMt, p_eAbs, p_eBo, p_eCon, p_aA0, p_aA1, p_oCmp, p_oCm0, p_oCmpL, p_oNul, p_oAnd, p_oOr, p_oNot]
  exact congrArg (fun z => fin false (z [v0] M)) h
noncomputable def wc1_X10_safe : CoD := (dCm0 .ge (dLoc 2))
noncomputable def wb1_X10_safe : StD := (dSeq (dSeq (dDo wC ci_X2_set (dA1 (dA1 (dA1 (dA1 dA0 (dFld wC 10 6 (dLoc 0))) (dLoc 1)) (dInt 1)) (dLoc 2)))
  (dIf (dCmp .ne (dCal wC ci_X2_mostFeared (dA1 (dA1 dA0 (dFld wC 10 6 (dLoc 0))) (dCal wC ci_X2_living (dA1 dA0 (dFld wC 10 6 (dLoc 0)))))) (dLoc 1)) (dRet (dLoc 2))))
  (dInc 2 (-1)))
set_option maxRecDepth 100000 in
theorem u_X10_safe (v0 v1 : Int) (M : Mem) : ci_X10_safe.2.2.2.2 [v0, v1] M = fin false ((dSeq (dIf (dNot (dCm0 .ne (dCal wC ci_X2_lives (dA1 (dA1 dA0 (dFld wC 10 5 (dLoc 0))) (dLoc 1))))) (dRet (dInt (-1))))
  (dSeq (dDo wC ci_X2_copy (dA1 (dA1 dA0 (dFld wC 10 6 (dLoc 0))) (dFld wC 10 5 (dLoc 0))))
  (dSeq (dSeq (dSet 2 (dCal wC ci_X2_get (dA1 (dA1 (dA1 dA0 (dFld wC 10 5 (dLoc 0))) (dLoc 1)) (dInt 0))))
  (dWh (wc1_X10_safe) (wb1_X10_safe)))
  (dRet (dInt (-1)))))) [v0, v1, 0] M) := by
  have h : a_X10_safe.1.1 = (dSeq (dIf (dNot (dCm0 .ne (dCal wC ci_X2_lives (dA1 (dA1 dA0 (dFld wC 10 5 (dLoc 0))) (dLoc 1))))) (dRet (dInt (-1))))
  (dSeq (dDo wC ci_X2_copy (dA1 (dA1 dA0 (dFld wC 10 6 (dLoc 0))) (dFld wC 10 5 (dLoc 0))))
  (dSeq (dSeq (dSet 2 (dCal wC ci_X2_get (dA1 (dA1 (dA1 dA0 (dFld wC 10 5 (dLoc 0))) (dLoc 1)) (dInt 0))))
  (dWh (wc1_X10_safe) (wb1_X10_safe)))
  (dRet (dInt (-1)))))) := by simp only [a_X10_safe, wc1_X10_safe, wb1_X10_safe, p_sSet, p_sInc, p_sPutF, p_sUpdF, p_sPutA, p_sUpdA, sDo, p_sCpy, p_sSeq, p_sIf, p_sIfE, p_sWh, p_sRet, p_sReV, p_sBlk, p_sSw, p_wDf, p_wCs, p_eInt, p_eLng, p_eNll, p_eStr, p_eSta, p_eLoc, p_eBin, p_eDiv, p_eI2L, p_eL2I, p_eFld, p_eAr, p_eRo, p_eLen, eCal, p_eMt, p_eAbs, p_eBo, p_eCon, p_aA0, p_aA1, p_oCmp, p_oCm0, p_oCmpL, p_oNul, p_oAnd, p_oOr, p_oNot]
  exact congrArg (fun z => fin false (z [v0, v1, 0] M)) h
set_option maxRecDepth 100000 in
theorem u_X9_stepAt (v0 v1 : Int) (M : Mem) : ci_X9_stepAt.2.2.2.2 [v0, v1] M = fin false ((dRet (dCon (dAnd (dCm0 .ge (dLoc 1)) (dCmp .lt (dLoc 1) (dLen wC 2 (dFld wC 9 0 (dLoc 0))))) (dRo wC (dFld wC 9 0 (dLoc 0)) (dLoc 1)) (dInt (-1)))) [v0, v1] M) := by
  have h : a_X9_stepAt.1.1 = (dRet (dCon (dAnd (dCm0 .ge (dLoc 1)) (dCmp .lt (dLoc 1) (dLen wC 2 (dFld wC 9 0 (dLoc 0))))) (dRo wC (dFld wC 9 0 (dLoc 0)) (dLoc 1)) (dInt (-1)))) := by simp only [a_X9_stepAt, p_sSet, p_sInc, p_sPutF, p_sUpdF, p_sPutA, p_sUpdA, sDo, p_sCpy, p_sSeq, p_sIf, p_sIfE, p_sWh, p_sRet, p_sReV, p_sBlk, p_sSw, p_wDf, p_wCs, p_eInt, p_eLng, p_eNll, p_eStr, p_eSta, p_eLoc, p_eBin, p_eDiv, p_eI2L, p_eL2I, p_eFld, p_eAr, p_eRo, p_eLen, eCal, p_eMt, p_eAbs, p_eBo, p_eCon, p_aA0, p_aA1, p_oCmp, p_oCm0, p_oCmpL, p_oNul, p_oAnd, p_oOr, p_oNot]
  exact congrArg (fun z => fin false (z [v0, v1] M)) h
noncomputable def wc1_X9_tread (D : Nat → Den) : CoD := (dAnd (dCmp .le (dLoc 8) (dInt 2)) (dNot (dNul (dLoc 7))))
noncomputable def wb1_X9_tread (D : Nat → Den) : StD := (dSeq (dSeq (dDo wC ci_X2_copy (dA1 (dA1 dA0 (dLoc 7)) (dLoc 6)))
  (dSeq (dDo wC ci_X2_set (dA1 (dA1 (dA1 (dA1 dA0 (dLoc 7)) (dLoc 1)) (dInt 1)) (dDiv (dvF 0) (dvW 0) (dBin (opF 2) (dCal wC ci_X2_get (dA1 (dA1 (dA1 dA0 (dLoc 7)) (dLoc 1)) (dInt 0))) (dLoc 8)) (dInt 2))))
  (dSeq (dDo wC ci_X2_pass (dA1 (dA1 dA0 (dLoc 7)) (dLoc 5)))
  (dIf (dCm0 .ne (dCal wC ci_X2_lives (dA1 (dA1 dA0 (dLoc 7)) (dLoc 1)))) (dDo wC (ci_X9_tread D) (dA1 (dA1 (dA1 (dA1 (dA1 (dA1 dA0 (dLoc 0)) (dLoc 1)) (dBin (opF 0) (dLoc 2) (dInt 1))) (dLoc 3)) (dBin (opF 0) (dBin (opF 2) (dLoc 4) (dInt 10)) (dLoc 8))) (dLoc 5)))))))
  (dInc 8 1))
set_option maxRecDepth 100000 in
theorem u_X9_tread (d : Nat) (v0 v1 v2 v3 v4 v5 : Int) (M : Mem) : grp_X9_tread (d + 1) 0 [v0, v1, v2, v3, v4, v5] M = fin false ((dSeq (dSeq (dSet 6 (dCal wC ci_X9_stepAt (dA1 (dA1 dA0 (dLoc 0)) (dLoc 2))))
  (dSeq (dSet 7 (dCal wC ci_X9_stepAt (dA1 (dA1 dA0 (dLoc 0)) (dBin (opF 0) (dLoc 2) (dInt 1)))))
  (dSeq (dIf (dNul (dLoc 6)) dReV)
  (dSeq (dIf (dCmp .eq (dLoc 2) (dLoc 3)) (dSeq (dIf (dCmp .gt (dCal wC ci_X2_get (dA1 (dA1 (dA1 dA0 (dLoc 6)) (dLoc 1)) (dInt 0))) (dFld wC 9 2 (dLoc 0))) (dSeq (dPutF wC 9 2 (dLoc 0) (dCal wC ci_X2_get (dA1 (dA1 (dA1 dA0 (dLoc 6)) (dLoc 1)) (dInt 0))))
  (dPutF wC 9 1 (dLoc 0) (dLoc 4))))
  dReV))
  (dSeq (dSet 8 (dInt 0))
  (dWh (wc1_X9_tread (grp_X9_tread d)) (wb1_X9_tread (grp_X9_tread d))))))))
  dReV) [v0, v1, v2, v3, v4, v5, 0, 0, 0] M) := by
  have h : (a_X9_tread (grp_X9_tread d)).1.1 = (dSeq (dSeq (dSet 6 (dCal wC ci_X9_stepAt (dA1 (dA1 dA0 (dLoc 0)) (dLoc 2))))
  (dSeq (dSet 7 (dCal wC ci_X9_stepAt (dA1 (dA1 dA0 (dLoc 0)) (dBin (opF 0) (dLoc 2) (dInt 1)))))
  (dSeq (dIf (dNul (dLoc 6)) dReV)
  (dSeq (dIf (dCmp .eq (dLoc 2) (dLoc 3)) (dSeq (dIf (dCmp .gt (dCal wC ci_X2_get (dA1 (dA1 (dA1 dA0 (dLoc 6)) (dLoc 1)) (dInt 0))) (dFld wC 9 2 (dLoc 0))) (dSeq (dPutF wC 9 2 (dLoc 0) (dCal wC ci_X2_get (dA1 (dA1 (dA1 dA0 (dLoc 6)) (dLoc 1)) (dInt 0))))
  (dPutF wC 9 1 (dLoc 0) (dLoc 4))))
  dReV))
  (dSeq (dSet 8 (dInt 0))
  (dWh (wc1_X9_tread (grp_X9_tread d)) (wb1_X9_tread (grp_X9_tread d))))))))
  dReV) := by simp only [a_X9_tread, wc1_X9_tread, wb1_X9_tread, p_sSet, p_sInc, p_sPutF, p_sUpdF, p_sPutA, p_sUpdA, sDo, p_sCpy, p_sSeq, p_sIf, p_sIfE, p_sWh, p_sRet, p_sReV, p_sBlk, p_sSw, p_wDf, p_wCs, p_eInt, p_eLng, p_eNll, p_eStr, p_eSta, p_eLoc, p_eBin, p_eDiv, p_eI2L, p_eL2I, p_eFld, p_eAr, p_eRo, p_eLen, eCal, p_eMt, p_eAbs, p_eBo, p_eCon, p_aA0, p_aA1, p_oCmp, p_oCm0, p_oCmpL, p_oNul, p_oAnd, p_oOr, p_oNot]
  exact congrArg (fun z => fin false (z [v0, v1, v2, v3, v4, v5, 0, 0, 0] M)) h
set_option maxRecDepth 100000 in
theorem g_X9_tread (d : Nat) : (ci_X9_tread (grp_X9_tread d)).2.2.2.2 = grp_X9_tread d 0 := rfl
set_option maxRecDepth 100000 in
theorem u_X9_search (v0 v1 v2 v3 v4 : Int) (M : Mem) : ci_X9_search.2.2.2.2 [v0, v1, v2, v3, v4] M = fin false ((dSeq (dSeq (dPutF wC 9 1 (dLoc 0) (dInt (-1)))
  (dSeq (dPutF wC 9 2 (dLoc 0) (dInt (-1)))
  (dSeq (dSet 5 (dCal wC ci_X9_stepAt (dA1 (dA1 dA0 (dLoc 0)) (dInt 0))))
  (dIf (dNot (dNul (dLoc 5))) (dSeq (dDo wC ci_X2_copy (dA1 (dA1 dA0 (dLoc 5)) (dLoc 1)))
  (dDo wC (ci_X9_tread (grp_X9_tread 7)) (dA1 (dA1 (dA1 (dA1 (dA1 (dA1 dA0 (dLoc 0)) (dLoc 2)) (dInt 0)) (dLoc 3)) (dInt 0)) (dLoc 4))))))))
  dReV) [v0, v1, v2, v3, v4, 0] M) := by
  have h : a_X9_search.1.1 = (dSeq (dSeq (dPutF wC 9 1 (dLoc 0) (dInt (-1)))
  (dSeq (dPutF wC 9 2 (dLoc 0) (dInt (-1)))
  (dSeq (dSet 5 (dCal wC ci_X9_stepAt (dA1 (dA1 dA0 (dLoc 0)) (dInt 0))))
  (dIf (dNot (dNul (dLoc 5))) (dSeq (dDo wC ci_X2_copy (dA1 (dA1 dA0 (dLoc 5)) (dLoc 1)))
  (dDo wC (ci_X9_tread (grp_X9_tread 7)) (dA1 (dA1 (dA1 (dA1 (dA1 (dA1 dA0 (dLoc 0)) (dLoc 2)) (dInt 0)) (dLoc 3)) (dInt 0)) (dLoc 4))))))))
  dReV) := by simp only [a_X9_search, p_sSet, p_sInc, p_sPutF, p_sUpdF, p_sPutA, p_sUpdA, sDo, p_sCpy, p_sSeq, p_sIf, p_sIfE, p_sWh, p_sRet, p_sReV, p_sBlk, p_sSw, p_wDf, p_wCs, p_eInt, p_eLng, p_eNll, p_eStr, p_eSta, p_eLoc, p_eBin, p_eDiv, p_eI2L, p_eL2I, p_eFld, p_eAr, p_eRo, p_eLen, eCal, p_eMt, p_eAbs, p_eBo, p_eCon, p_aA0, p_aA1, p_oCmp, p_oCm0, p_oCmpL, p_oNul, p_oAnd, p_oOr, p_oNot]
  exact congrArg (fun z => fin false (z [v0, v1, v2, v3, v4, 0] M)) h
set_option maxRecDepth 100000 in
theorem u_X10_path (v0 v1 v2 v3 : Int) (M : Mem) : ci_X10_path.2.2.2.2 [v0, v1, v2, v3] M = fin false ((dSeq (dIf (dOr (dOr (dOr (dOr (dNot (dCm0 .ne (dCal wC ci_X2_lives (dA1 (dA1 dA0 (dFld wC 10 5 (dLoc 0))) (dLoc 1))))) (dCmp .lt (dLoc 2) (dInt 1))) (dCmp .gt (dLoc 2) (dInt 5))) (dCm0 .lt (dLoc 3))) (dCmp .gt (dLoc 3) (dInt 1))) (dRet (dInt (-1))))
  (dSeq (dDo wC ci_X9_search (dA1 (dA1 (dA1 (dA1 (dA1 dA0 (dFld wC 10 11 (dLoc 0))) (dFld wC 10 5 (dLoc 0))) (dLoc 1)) (dLoc 2)) (dFld wC 10 3 (dLoc 0))))
  (dRet (dCon (dCm0 .eq (dLoc 3)) (dFld wC 9 1 (dFld wC 10 11 (dLoc 0))) (dFld wC 9 2 (dFld wC 10 11 (dLoc 0))))))) [v0, v1, v2, v3] M) := by
  have h : a_X10_path.1.1 = (dSeq (dIf (dOr (dOr (dOr (dOr (dNot (dCm0 .ne (dCal wC ci_X2_lives (dA1 (dA1 dA0 (dFld wC 10 5 (dLoc 0))) (dLoc 1))))) (dCmp .lt (dLoc 2) (dInt 1))) (dCmp .gt (dLoc 2) (dInt 5))) (dCm0 .lt (dLoc 3))) (dCmp .gt (dLoc 3) (dInt 1))) (dRet (dInt (-1))))
  (dSeq (dDo wC ci_X9_search (dA1 (dA1 (dA1 (dA1 (dA1 dA0 (dFld wC 10 11 (dLoc 0))) (dFld wC 10 5 (dLoc 0))) (dLoc 1)) (dLoc 2)) (dFld wC 10 3 (dLoc 0))))
  (dRet (dCon (dCm0 .eq (dLoc 3)) (dFld wC 9 1 (dFld wC 10 11 (dLoc 0))) (dFld wC 9 2 (dFld wC 10 11 (dLoc 0))))))) := by simp only [a_X10_path, p_sSet, p_sInc, p_sPutF, p_sUpdF, p_sPutA, p_sUpdA, sDo, p_sCpy, p_sSeq, p_sIf, p_sIfE, p_sWh, p_sRet, p_sReV, p_sBlk, p_sSw, p_wDf, p_wCs, p_eInt, p_eLng, p_eNll, p_eStr, p_eSta, p_eLoc, p_eBin, p_eDiv, p_eI2L, p_eL2I, p_eFld, p_eAr, p_eRo, p_eLen, eCal, p_eMt, p_eAbs, p_eBo, p_eCon, p_aA0, p_aA1, p_oCmp, p_oCm0, p_oCmpL, p_oNul, p_oAnd, p_oOr, p_oNot]
  exact congrArg (fun z => fin false (z [v0, v1, v2, v3] M)) h
noncomputable def wc1_X10_holds : CoD := (dCmp .le (dLoc 2) (dInt 30))
noncomputable def wb1_X10_holds : StD := (dSeq (dSeq (dDo wC ci_X2_pass (dA1 (dA1 dA0 (dFld wC 10 6 (dLoc 0))) (dFld wC 10 3 (dLoc 0))))
  (dIf (dNot (dCm0 .ne (dCal wC ci_X2_lives (dA1 (dA1 dA0 (dFld wC 10 6 (dLoc 0))) (dLoc 1))))) (dRet (dLoc 2))))
  (dInc 2 1))
set_option maxRecDepth 100000 in
theorem u_X10_holds (v0 v1 : Int) (M : Mem) : ci_X10_holds.2.2.2.2 [v0, v1] M = fin false ((dSeq (dIf (dNot (dCm0 .ne (dCal wC ci_X2_lives (dA1 (dA1 dA0 (dFld wC 10 5 (dLoc 0))) (dLoc 1))))) (dRet (dInt (-1))))
  (dSeq (dDo wC ci_X2_copy (dA1 (dA1 dA0 (dFld wC 10 6 (dLoc 0))) (dFld wC 10 5 (dLoc 0))))
  (dSeq (dSeq (dSet 2 (dInt 1))
  (dWh (wc1_X10_holds) (wb1_X10_holds)))
  (dRet (dInt (-1)))))) [v0, v1, 0] M) := by
  have h : a_X10_holds.1.1 = (dSeq (dIf (dNot (dCm0 .ne (dCal wC ci_X2_lives (dA1 (dA1 dA0 (dFld wC 10 5 (dLoc 0))) (dLoc 1))))) (dRet (dInt (-1))))
  (dSeq (dDo wC ci_X2_copy (dA1 (dA1 dA0 (dFld wC 10 6 (dLoc 0))) (dFld wC 10 5 (dLoc 0))))
  (dSeq (dSeq (dSet 2 (dInt 1))
  (dWh (wc1_X10_holds) (wb1_X10_holds)))
  (dRet (dInt (-1)))))) := by simp only [a_X10_holds, wc1_X10_holds, wb1_X10_holds, p_sSet, p_sInc, p_sPutF, p_sUpdF, p_sPutA, p_sUpdA, sDo, p_sCpy, p_sSeq, p_sIf, p_sIfE, p_sWh, p_sRet, p_sReV, p_sBlk, p_sSw, p_wDf, p_wCs, p_eInt, p_eLng, p_eNll, p_eStr, p_eSta, p_eLoc, p_eBin, p_eDiv, p_eI2L, p_eL2I, p_eFld, p_eAr, p_eRo, p_eLen, eCal, p_eMt, p_eAbs, p_eBo, p_eCon, p_aA0, p_aA1, p_oCmp, p_oCm0, p_oCmpL, p_oNul, p_oAnd, p_oOr, p_oNot]
  exact congrArg (fun z => fin false (z [v0, v1, 0] M)) h
noncomputable def wc1_X2_lotsOfAll : CoD := (dCmp .lt (dLoc 2) (dFld wC 2 1 (dLoc 0)))
noncomputable def wb1_X2_lotsOfAll : StD := (dSeq (dIf (dCm0 .ne (dCal wC ci_X2_lives (dA1 (dA1 dA0 (dLoc 0)) (dLoc 2)))) (dSet 1 (dBin (opF 0) (dLoc 1) (dBin (opF 0) (dCal wC ci_X2_fear (dA1 (dA1 dA0 (dLoc 0)) (dLoc 2))) (dInt 1)))))
  (dInc 2 1))
set_option maxRecDepth 100000 in
theorem u_X2_lotsOfAll (v0 : Int) (M : Mem) : ci_X2_lotsOfAll.2.2.2.2 [v0] M = fin false ((dSeq (dSet 1 (dInt 0))
  (dSeq (dSeq (dSet 2 (dInt 0))
  (dWh (wc1_X2_lotsOfAll) (wb1_X2_lotsOfAll)))
  (dRet (dLoc 1)))) [v0, 0, 0] M) := by
  have h : a_X2_lotsOfAll.1.1 = (dSeq (dSet 1 (dInt 0))
  (dSeq (dSeq (dSet 2 (dInt 0))
  (dWh (wc1_X2_lotsOfAll) (wb1_X2_lotsOfAll)))
  (dRet (dLoc 1)))) := by simp only [a_X2_lotsOfAll, wc1_X2_lotsOfAll, wb1_X2_lotsOfAll, p_sSet, p_sInc, p_sPutF, p_sUpdF, p_sPutA, p_sUpdA, sDo, p_sCpy, p_sSeq, p_sIf, p_sIfE, p_sWh, p_sRet, p_sReV, p_sBlk, p_sSw, p_wDf, p_wCs, p_eInt, p_eLng, p_eNll, p_eStr, p_eSta, p_eLoc, p_eBin, p_eDiv, p_eI2L, p_eL2I, p_eFld, p_eAr, p_eRo, p_eLen, eCal, p_eMt, p_eAbs, p_eBo, p_eCon, p_aA0, p_aA1, p_oCmp, p_oCm0, p_oCmpL, p_oNul, p_oAnd, p_oOr, p_oNot]
  exact congrArg (fun z => fin false (z [v0, 0, 0] M)) h
noncomputable def wc1_X10_odds : CoD := (dAnd (dCmp .lt (dLoc 9) (dLoc 2)) (dCmpL .gt (dLoc 5) (dInt 0)))
noncomputable def wb1_X10_odds : StD := (dSeq (dSet 7 (dBin (opF 10) (dLoc 7) (dDiv (dvF 2) (dvW 2) (dBin (opF 11) (dLoc 7) (dLoc 3)) (dLoc 5))))
  (dInc 9 1))
set_option maxRecDepth 100000 in
theorem u_X10_odds (v0 v1 v2 : Int) (M : Mem) : ci_X10_odds.2.2.2.2 [v0, v1, v2] M = fin false ((dSeq (dIf (dOr (dOr (dNot (dCm0 .ne (dCal wC ci_X2_lives (dA1 (dA1 dA0 (dFld wC 10 5 (dLoc 0))) (dLoc 1))))) (dCm0 .lt (dLoc 2))) (dCmp .gt (dLoc 2) (dInt 30))) (dRet (dInt (-1))))
  (dSeq (dSet 3 (dUn wr (dBin (opF 0) (dCal wC ci_X2_fear (dA1 (dA1 dA0 (dFld wC 10 5 (dLoc 0))) (dLoc 1))) (dInt 1))))
  (dSeq (dSet 5 (dUn wr (dCal wC ci_X2_lotsOfAll (dA1 dA0 (dFld wC 10 5 (dLoc 0))))))
  (dSeq (dSet 7 (dInt 1000000000))
  (dSeq (dSeq (dSet 9 (dInt 0))
  (dWh (wc1_X10_odds) (wb1_X10_odds)))
  (dRet (dUn id (dLoc 7)))))))) [v0, v1, v2, 0, 0, 0, 0, 0, 0, 0] M) := by
  have h : a_X10_odds.1.1 = (dSeq (dIf (dOr (dOr (dNot (dCm0 .ne (dCal wC ci_X2_lives (dA1 (dA1 dA0 (dFld wC 10 5 (dLoc 0))) (dLoc 1))))) (dCm0 .lt (dLoc 2))) (dCmp .gt (dLoc 2) (dInt 30))) (dRet (dInt (-1))))
  (dSeq (dSet 3 (dUn wr (dBin (opF 0) (dCal wC ci_X2_fear (dA1 (dA1 dA0 (dFld wC 10 5 (dLoc 0))) (dLoc 1))) (dInt 1))))
  (dSeq (dSet 5 (dUn wr (dCal wC ci_X2_lotsOfAll (dA1 dA0 (dFld wC 10 5 (dLoc 0))))))
  (dSeq (dSet 7 (dInt 1000000000))
  (dSeq (dSeq (dSet 9 (dInt 0))
  (dWh (wc1_X10_odds) (wb1_X10_odds)))
  (dRet (dUn id (dLoc 7)))))))) := by simp only [a_X10_odds, wc1_X10_odds, wb1_X10_odds, p_sSet, p_sInc, p_sPutF, p_sUpdF, p_sPutA, p_sUpdA, sDo, p_sCpy, p_sSeq, p_sIf, p_sIfE, p_sWh, p_sRet, p_sReV, p_sBlk, p_sSw, p_wDf, p_wCs, p_eInt, p_eLng, p_eNll, p_eStr, p_eSta, p_eLoc, p_eBin, p_eDiv, p_eI2L, p_eL2I, p_eFld, p_eAr, p_eRo, p_eLen, eCal, p_eMt, p_eAbs, p_eBo, p_eCon, p_aA0, p_aA1, p_oCmp, p_oCm0, p_oCmpL, p_oNul, p_oAnd, p_oOr, p_oNot]
  exact congrArg (fun z => fin false (z [v0, v1, v2, 0, 0, 0, 0, 0, 0, 0] M)) h
set_option maxRecDepth 100000 in
theorem u_X10_learns (v0 v1 : Int) (M : Mem) : ci_X10_learns.2.2.2.2 [v0, v1] M = fin false ((dRet (dCon (dCm0 .ne (dCal wC ci_X2_lives (dA1 (dA1 dA0 (dFld wC 10 5 (dLoc 0))) (dLoc 1)))) (dCal wC ci_X4_lessonOf (dA1 (dA1 (dA1 (dA1 dA0 (dFld wC 10 3 (dLoc 0))) (dFld wC 10 5 (dLoc 0))) (dLoc 1)) (dCal wC ci_X2_manyLive (dA1 dA0 (dFld wC 10 5 (dLoc 0)))))) (dInt (-1)))) [v0, v1] M) := by
  have h : a_X10_learns.1.1 = (dRet (dCon (dCm0 .ne (dCal wC ci_X2_lives (dA1 (dA1 dA0 (dFld wC 10 5 (dLoc 0))) (dLoc 1)))) (dCal wC ci_X4_lessonOf (dA1 (dA1 (dA1 (dA1 dA0 (dFld wC 10 3 (dLoc 0))) (dFld wC 10 5 (dLoc 0))) (dLoc 1)) (dCal wC ci_X2_manyLive (dA1 dA0 (dFld wC 10 5 (dLoc 0)))))) (dInt (-1)))) := by simp only [a_X10_learns, p_sSet, p_sInc, p_sPutF, p_sUpdF, p_sPutA, p_sUpdA, sDo, p_sCpy, p_sSeq, p_sIf, p_sIfE, p_sWh, p_sRet, p_sReV, p_sBlk, p_sSw, p_wDf, p_wCs, p_eInt, p_eLng, p_eNll, p_eStr, p_eSta, p_eLoc, p_eBin, p_eDiv, p_eI2L, p_eL2I, p_eFld, p_eAr, p_eRo, p_eLen, eCal, p_eMt, p_eAbs, p_eBo, p_eCon, p_aA0, p_aA1, p_oCmp, p_oCm0, p_oCmpL, p_oNul, p_oAnd, p_oOr, p_oNot]
  exact congrArg (fun z => fin false (z [v0, v1] M)) h
noncomputable def wc1_X2_befriending : CoD := (dCmp .lt (dLoc 3) (dFld wC 2 1 (dLoc 0)))
noncomputable def wb1_X2_befriending : StD := (dSeq (dIf (dCmp .eq (dCal wC ci_X2_get (dA1 (dA1 (dA1 dA0 (dLoc 0)) (dLoc 3)) (dInt 3))) (dLoc 1)) (dSet 2 (dBin (opF 4) (dLoc 2) (dBin (opF 6) (dInt 1) (dLoc 3)))))
  (dInc 3 1))
set_option maxRecDepth 100000 in
theorem u_X2_befriending (v0 v1 : Int) (M : Mem) : ci_X2_befriending.2.2.2.2 [v0, v1] M = fin false ((dSeq (dSet 2 (dInt 0))
  (dSeq (dSeq (dSet 3 (dInt 0))
  (dWh (wc1_X2_befriending) (wb1_X2_befriending)))
  (dRet (dLoc 2)))) [v0, v1, 0, 0] M) := by
  have h : a_X2_befriending.1.1 = (dSeq (dSet 2 (dInt 0))
  (dSeq (dSeq (dSet 3 (dInt 0))
  (dWh (wc1_X2_befriending) (wb1_X2_befriending)))
  (dRet (dLoc 2)))) := by simp only [a_X2_befriending, wc1_X2_befriending, wb1_X2_befriending, p_sSet, p_sInc, p_sPutF, p_sUpdF, p_sPutA, p_sUpdA, sDo, p_sCpy, p_sSeq, p_sIf, p_sIfE, p_sWh, p_sRet, p_sReV, p_sBlk, p_sSw, p_wDf, p_wCs, p_eInt, p_eLng, p_eNll, p_eStr, p_eSta, p_eLoc, p_eBin, p_eDiv, p_eI2L, p_eL2I, p_eFld, p_eAr, p_eRo, p_eLen, eCal, p_eMt, p_eAbs, p_eBo, p_eCon, p_aA0, p_aA1, p_oCmp, p_oCm0, p_oCmpL, p_oNul, p_oAnd, p_oOr, p_oNot]
  exact congrArg (fun z => fin false (z [v0, v1, 0, 0] M)) h
set_option maxRecDepth 100000 in
theorem u_X2_signs (v0 v1 : Int) (M : Mem) : ci_X2_signs.2.2.2.2 [v0, v1] M = fin false ((dSeq (dSet 2 (dCon (dCmp .ge (dCal wC ci_X2_get (dA1 (dA1 (dA1 dA0 (dLoc 0)) (dLoc 1)) (dInt 0))) (dInt 20)) (dInt 1) (dInt 0)))
  (dSeq (dSet 2 (dBin (opF 4) (dLoc 2) (dCon (dCmp .ge (dCal wC ci_X2_get (dA1 (dA1 (dA1 dA0 (dLoc 0)) (dLoc 1)) (dInt 1))) (dInt 10)) (dInt 2) (dInt 0))))
  (dSeq (dSet 2 (dBin (opF 4) (dLoc 2) (dCon (dCmp .ge (dCal wC ci_X2_get (dA1 (dA1 (dA1 dA0 (dLoc 0)) (dLoc 1)) (dInt 4))) (dInt 20)) (dInt 4) (dInt 0))))
  (dSeq (dSet 2 (dBin (opF 4) (dLoc 2) (dCon (dCm0 .gt (dCal wC ci_X2_get (dA1 (dA1 (dA1 dA0 (dLoc 0)) (dLoc 1)) (dInt 2)))) (dInt 8) (dInt 0))))
  (dSeq (dSet 2 (dBin (opF 4) (dLoc 2) (dCon (dCm0 .ne (dCal wC ci_X2_lives (dA1 (dA1 dA0 (dLoc 0)) (dCal wC ci_X2_get (dA1 (dA1 (dA1 dA0 (dLoc 0)) (dLoc 1)) (dInt 3)))))) (dInt 16) (dInt 0))))
  (dSeq (dSet 2 (dBin (opF 4) (dLoc 2) (dCon (dCm0 .ne (dBin (opF 3) (dCal wC ci_X2_befriending (dA1 (dA1 dA0 (dLoc 0)) (dLoc 1))) (dCal wC ci_X2_living (dA1 dA0 (dLoc 0))))) (dInt 32) (dInt 0))))
  (dRet (dLoc 2)))))))) [v0, v1, 0] M) := by
  have h : a_X2_signs.1.1 = (dSeq (dSet 2 (dCon (dCmp .ge (dCal wC ci_X2_get (dA1 (dA1 (dA1 dA0 (dLoc 0)) (dLoc 1)) (dInt 0))) (dInt 20)) (dInt 1) (dInt 0)))
  (dSeq (dSet 2 (dBin (opF 4) (dLoc 2) (dCon (dCmp .ge (dCal wC ci_X2_get (dA1 (dA1 (dA1 dA0 (dLoc 0)) (dLoc 1)) (dInt 1))) (dInt 10)) (dInt 2) (dInt 0))))
  (dSeq (dSet 2 (dBin (opF 4) (dLoc 2) (dCon (dCmp .ge (dCal wC ci_X2_get (dA1 (dA1 (dA1 dA0 (dLoc 0)) (dLoc 1)) (dInt 4))) (dInt 20)) (dInt 4) (dInt 0))))
  (dSeq (dSet 2 (dBin (opF 4) (dLoc 2) (dCon (dCm0 .gt (dCal wC ci_X2_get (dA1 (dA1 (dA1 dA0 (dLoc 0)) (dLoc 1)) (dInt 2)))) (dInt 8) (dInt 0))))
  (dSeq (dSet 2 (dBin (opF 4) (dLoc 2) (dCon (dCm0 .ne (dCal wC ci_X2_lives (dA1 (dA1 dA0 (dLoc 0)) (dCal wC ci_X2_get (dA1 (dA1 (dA1 dA0 (dLoc 0)) (dLoc 1)) (dInt 3)))))) (dInt 16) (dInt 0))))
  (dSeq (dSet 2 (dBin (opF 4) (dLoc 2) (dCon (dCm0 .ne (dBin (opF 3) (dCal wC ci_X2_befriending (dA1 (dA1 dA0 (dLoc 0)) (dLoc 1))) (dCal wC ci_X2_living (dA1 dA0 (dLoc 0))))) (dInt 32) (dInt 0))))
  (dRet (dLoc 2)))))))) := by simp only [a_X2_signs, p_sSet, p_sInc, p_sPutF, p_sUpdF, p_sPutA, p_sUpdA, sDo, p_sCpy, p_sSeq, p_sIf, p_sIfE, p_sWh, p_sRet, p_sReV, p_sBlk, p_sSw, p_wDf, p_wCs, p_eInt, p_eLng, p_eNll, p_eStr, p_eSta, p_eLoc, p_eBin, p_eDiv, p_eI2L, p_eL2I, p_eFld, p_eAr, p_eRo, p_eLen, eCal, p_eMt, p_eAbs, p_eBo, p_eCon, p_aA0, p_aA1, p_oCmp, p_oCm0, p_oCmpL, p_oNul, p_oAnd, p_oOr, p_oNot]
  exact congrArg (fun z => fin false (z [v0, v1, 0] M)) h
noncomputable def wc1_X2_differsFromAll : CoD := (dCmp .lt (dLoc 4) (dFld wC 2 1 (dLoc 0)))
noncomputable def wb1_X2_differsFromAll : StD := (dSeq (dIf (dAnd (dAnd (dCmp .ne (dLoc 4) (dLoc 1)) (dCm0 .ne (dCal wC ci_X2_lives (dA1 (dA1 dA0 (dLoc 0)) (dLoc 4))))) (dCm0 .eq (dBin (opF 3) (dBin (opF 5) (dLoc 3) (dCal wC ci_X2_signs (dA1 (dA1 dA0 (dLoc 0)) (dLoc 4)))) (dLoc 2)))) (dRet (dInt 0)))
  (dInc 4 1))
set_option maxRecDepth 100000 in
theorem u_X2_differsFromAll (v0 v1 v2 : Int) (M : Mem) : ci_X2_differsFromAll.2.2.2.2 [v0, v1, v2] M = fin true ((dSeq (dSet 3 (dCal wC ci_X2_signs (dA1 (dA1 dA0 (dLoc 0)) (dLoc 1))))
  (dSeq (dSeq (dSet 4 (dInt 0))
  (dWh (wc1_X2_differsFromAll) (wb1_X2_differsFromAll)))
  (dRet (dInt 1)))) [v0, v1, v2, 0, 0] M) := by
  have h : a_X2_differsFromAll.1.1 = (dSeq (dSet 3 (dCal wC ci_X2_signs (dA1 (dA1 dA0 (dLoc 0)) (dLoc 1))))
  (dSeq (dSeq (dSet 4 (dInt 0))
  (dWh (wc1_X2_differsFromAll) (wb1_X2_differsFromAll)))
  (dRet (dInt 1)))) := by simp only [a_X2_differsFromAll, wc1_X2_differsFromAll, wb1_X2_differsFromAll, p_sSet, p_sInc, p_sPutF, p_sUpdF, p_sPutA, p_sUpdA, sDo, p_sCpy, p_sSeq, p_sIf, p_sIfE, p_sWh, p_sRet, p_sReV, p_sBlk, p_sSw, p_wDf, p_wCs, p_eInt, p_eLng, p_eNll, p_eStr, p_eSta, p_eLoc, p_eBin, p_eDiv, p_eI2L, p_eL2I, p_eFld, p_eAr, p_eRo, p_eLen, eCal, p_eMt, p_eAbs, p_eBo, p_eCon, p_aA0, p_aA1, p_oCmp, p_oCm0, p_oCmpL, p_oNul, p_oAnd, p_oOr, p_oNot]
  exact congrArg (fun z => fin true (z [v0, v1, v2, 0, 0] M)) h
noncomputable def wc1_X2_tellingSigns : CoD := (dCmp .lt (dLoc 3) (dInt 64))
noncomputable def wb1_X2_tellingSigns : StD := (dSeq (dSeq (dSet 4 (dBo (dOr (dCmp .eq (dLoc 2) (dInt (-1))) (dCmp .lt (dCal wC ci_J6_bitCount_0f7a4C (dA1 dA0 (dLoc 3))) (dCal wC ci_J6_bitCount_0f7a4C (dA1 dA0 (dLoc 2)))))))
  (dIf (dAnd (dCm0 .ne (dLoc 4)) (dCm0 .ne (dCal wC ci_X2_differsFromAll (dA1 (dA1 (dA1 dA0 (dLoc 0)) (dLoc 1)) (dLoc 3))))) (dSet 2 (dLoc 3))))
  (dInc 3 1))
set_option maxRecDepth 100000 in
theorem u_X2_tellingSigns (v0 v1 : Int) (M : Mem) : ci_X2_tellingSigns.2.2.2.2 [v0, v1] M = fin false ((dSeq (dSet 2 (dInt (-1)))
  (dSeq (dSeq (dSet 3 (dInt 0))
  (dWh (wc1_X2_tellingSigns) (wb1_X2_tellingSigns)))
  (dRet (dLoc 2)))) [v0, v1, 0, 0, 0] M) := by
  have h : a_X2_tellingSigns.1.1 = (dSeq (dSet 2 (dInt (-1)))
  (dSeq (dSeq (dSet 3 (dInt 0))
  (dWh (wc1_X2_tellingSigns) (wb1_X2_tellingSigns)))
  (dRet (dLoc 2)))) := by simp only [a_X2_tellingSigns, wc1_X2_tellingSigns, wb1_X2_tellingSigns, p_sSet, p_sInc, p_sPutF, p_sUpdF, p_sPutA, p_sUpdA, sDo, p_sCpy, p_sSeq, p_sIf, p_sIfE, p_sWh, p_sRet, p_sReV, p_sBlk, p_sSw, p_wDf, p_wCs, p_eInt, p_eLng, p_eNll, p_eStr, p_eSta, p_eLoc, p_eBin, p_eDiv, p_eI2L, p_eL2I, p_eFld, p_eAr, p_eRo, p_eLen, eCal, p_eMt, p_eAbs, p_eBo, p_eCon, p_aA0, p_aA1, p_oCmp, p_oCm0, p_oCmpL, p_oNul, p_oAnd, p_oOr, p_oNot]
  exact congrArg (fun z => fin false (z [v0, v1, 0, 0, 0] M)) h
set_option maxRecDepth 100000 in
theorem u_X10_tells (v0 v1 : Int) (M : Mem) : ci_X10_tells.2.2.2.2 [v0, v1] M = fin false ((dRet (dCon (dCm0 .ne (dCal wC ci_X2_lives (dA1 (dA1 dA0 (dFld wC 10 5 (dLoc 0))) (dLoc 1)))) (dCal wC ci_X2_tellingSigns (dA1 (dA1 dA0 (dFld wC 10 5 (dLoc 0))) (dLoc 1))) (dInt (-1)))) [v0, v1] M) := by
  have h : a_X10_tells.1.1 = (dRet (dCon (dCm0 .ne (dCal wC ci_X2_lives (dA1 (dA1 dA0 (dFld wC 10 5 (dLoc 0))) (dLoc 1)))) (dCal wC ci_X2_tellingSigns (dA1 (dA1 dA0 (dFld wC 10 5 (dLoc 0))) (dLoc 1))) (dInt (-1)))) := by simp only [a_X10_tells, p_sSet, p_sInc, p_sPutF, p_sUpdF, p_sPutA, p_sUpdA, sDo, p_sCpy, p_sSeq, p_sIf, p_sIfE, p_sWh, p_sRet, p_sReV, p_sBlk, p_sSw, p_wDf, p_wCs, p_eInt, p_eLng, p_eNll, p_eStr, p_eSta, p_eLoc, p_eBin, p_eDiv, p_eI2L, p_eL2I, p_eFld, p_eAr, p_eRo, p_eLen, eCal, p_eMt, p_eAbs, p_eBo, p_eCon, p_aA0, p_aA1, p_oCmp, p_oCm0, p_oCmpL, p_oNul, p_oAnd, p_oOr, p_oNot]
  exact congrArg (fun z => fin false (z [v0, v1] M)) h
set_option maxRecDepth 100000 in
theorem u_X2_areTwins (v0 v1 v2 : Int) (M : Mem) : ci_X2_areTwins.2.2.2.2 [v0, v1, v2] M = fin true ((dRet (dBo (dAnd (dAnd (dCm0 .ne (dCal wC ci_X2_lives (dA1 (dA1 dA0 (dLoc 0)) (dLoc 1)))) (dCm0 .ne (dCal wC ci_X2_lives (dA1 (dA1 dA0 (dLoc 0)) (dLoc 2))))) (dCmp .eq (dCal wC ci_X2_signs (dA1 (dA1 dA0 (dLoc 0)) (dLoc 1))) (dCal wC ci_X2_signs (dA1 (dA1 dA0 (dLoc 0)) (dLoc 2))))))) [v0, v1, v2] M) := by
  have h : a_X2_areTwins.1.1 = (dRet (dBo (dAnd (dAnd (dCm0 .ne (dCal wC ci_X2_lives (dA1 (dA1 dA0 (dLoc 0)) (dLoc 1)))) (dCm0 .ne (dCal wC ci_X2_lives (dA1 (dA1 dA0 (dLoc 0)) (dLoc 2))))) (dCmp .eq (dCal wC ci_X2_signs (dA1 (dA1 dA0 (dLoc 0)) (dLoc 1))) (dCal wC ci_X2_signs (dA1 (dA1 dA0 (dLoc 0)) (dLoc 2))))))) := by simp only [a_X2_areTwins, p_sSet, p_sInc, p_sPutF, p_sUpdF, p_sPutA, p_sUpdA, sDo, p_sCpy, p_sSeq, p_sIf, p_sIfE, p_sWh, p_sRet, p_sReV, p_sBlk, p_sSw, p_wDf, p_wCs, p_eInt, p_eLng, p_eNll, p_eStr, p_eSta, p_eLoc, p_eBin, p_eDiv, p_eI2L, p_eL2I, p_eFld, p_eAr, p_eRo, p_eLen, eCal, p_eMt, p_eAbs, p_eBo, p_eCon, p_aA0, p_aA1, p_oCmp, p_oCm0, p_oCmpL, p_oNul, p_oAnd, p_oOr, p_oNot]
  exact congrArg (fun z => fin true (z [v0, v1, v2] M)) h
noncomputable def wc1_X10_twins : CoD := (dCmp .lt (dLoc 4) (dFld wC 2 1 (dFld wC 10 5 (dLoc 0))))
noncomputable def wb1_X10_twins : StD := (dSeq (dIf (dCm0 .ne (dCal wC ci_X2_areTwins (dA1 (dA1 (dA1 dA0 (dFld wC 10 5 (dLoc 0))) (dLoc 3)) (dLoc 4)))) (dSeq (dIf (dCmp .eq (dLoc 2) (dLoc 1)) (dRet (dBin (opF 0) (dBin (opF 2) (dLoc 3) (dInt 10)) (dLoc 4))))
  (dInc 2 1)))
  (dInc 4 1))
noncomputable def wc2_X10_twins : CoD := (dCmp .lt (dLoc 3) (dFld wC 2 1 (dFld wC 10 5 (dLoc 0))))
noncomputable def wb2_X10_twins : StD := (dSeq (dSeq (dSet 4 (dBin (opF 0) (dLoc 3) (dInt 1)))
  (dWh (wc1_X10_twins) (wb1_X10_twins)))
  (dInc 3 1))
set_option maxRecDepth 100000 in
theorem u_X10_twins (v0 v1 : Int) (M : Mem) : ci_X10_twins.2.2.2.2 [v0, v1] M = fin false ((dSeq (dIf (dOr (dNot (dCm0 .ne (dCal wC ci_X10_isTold (dA1 dA0 (dLoc 0))))) (dCmp .lt (dLoc 1) (dInt (-1)))) (dRet (dInt (-1))))
  (dSeq (dSet 2 (dInt 0))
  (dSeq (dSeq (dSet 3 (dInt 0))
  (dWh (wc2_X10_twins) (wb2_X10_twins)))
  (dRet (dCon (dCmp .eq (dLoc 1) (dInt (-1))) (dLoc 2) (dInt (-1))))))) [v0, v1, 0, 0, 0] M) := by
  have h : a_X10_twins.1.1 = (dSeq (dIf (dOr (dNot (dCm0 .ne (dCal wC ci_X10_isTold (dA1 dA0 (dLoc 0))))) (dCmp .lt (dLoc 1) (dInt (-1)))) (dRet (dInt (-1))))
  (dSeq (dSet 2 (dInt 0))
  (dSeq (dSeq (dSet 3 (dInt 0))
  (dWh (wc2_X10_twins) (wb2_X10_twins)))
  (dRet (dCon (dCmp .eq (dLoc 1) (dInt (-1))) (dLoc 2) (dInt (-1))))))) := by simp only [a_X10_twins, wc1_X10_twins, wb1_X10_twins, wc2_X10_twins, wb2_X10_twins, p_sSet, p_sInc, p_sPutF, p_sUpdF, p_sPutA, p_sUpdA, sDo, p_sCpy, p_sSeq, p_sIf, p_sIfE, p_sWh, p_sRet, p_sReV, p_sBlk, p_sSw, p_wDf, p_wCs, p_eInt, p_eLng, p_eNll, p_eStr, p_eSta, p_eLoc, p_eBin, p_eDiv, p_eI2L, p_eL2I, p_eFld, p_eAr, p_eRo, p_eLen, eCal, p_eMt, p_eAbs, p_eBo, p_eCon, p_aA0, p_aA1, p_oCmp, p_oCm0, p_oCmpL, p_oNul, p_oAnd, p_oOr, p_oNot]
  exact congrArg (fun z => fin false (z [v0, v1, 0, 0, 0] M)) h
noncomputable def wc1_X2_stepsBetween : CoD := (dAnd (dCmp .lt (dLoc 4) (dFld wC 2 1 (dLoc 0))) (dCm0 .ne (dCal wC ci_X2_lives (dA1 (dA1 dA0 (dLoc 0)) (dLoc 3)))))
noncomputable def wb1_X2_stepsBetween : StD := (dSeq (dSeq (dIf (dCmp .eq (dLoc 3) (dLoc 2)) (dRet (dLoc 4)))
  (dSet 3 (dCal wC ci_X2_get (dA1 (dA1 (dA1 dA0 (dLoc 0)) (dLoc 3)) (dInt 3)))))
  (dInc 4 1))
set_option maxRecDepth 100000 in
theorem u_X2_stepsBetween (v0 v1 v2 : Int) (M : Mem) : ci_X2_stepsBetween.2.2.2.2 [v0, v1, v2] M = fin false ((dSeq (dSet 3 (dLoc 1))
  (dSeq (dSeq (dSet 4 (dInt 0))
  (dWh (wc1_X2_stepsBetween) (wb1_X2_stepsBetween)))
  (dRet (dInt (-1))))) [v0, v1, v2, 0, 0] M) := by
  have h : a_X2_stepsBetween.1.1 = (dSeq (dSet 3 (dLoc 1))
  (dSeq (dSeq (dSet 4 (dInt 0))
  (dWh (wc1_X2_stepsBetween) (wb1_X2_stepsBetween)))
  (dRet (dInt (-1))))) := by simp only [a_X2_stepsBetween, wc1_X2_stepsBetween, wb1_X2_stepsBetween, p_sSet, p_sInc, p_sPutF, p_sUpdF, p_sPutA, p_sUpdA, sDo, p_sCpy, p_sSeq, p_sIf, p_sIfE, p_sWh, p_sRet, p_sReV, p_sBlk, p_sSw, p_wDf, p_wCs, p_eInt, p_eLng, p_eNll, p_eStr, p_eSta, p_eLoc, p_eBin, p_eDiv, p_eI2L, p_eL2I, p_eFld, p_eAr, p_eRo, p_eLen, eCal, p_eMt, p_eAbs, p_eBo, p_eCon, p_aA0, p_aA1, p_oCmp, p_oCm0, p_oCmpL, p_oNul, p_oAnd, p_oOr, p_oNot]
  exact congrArg (fun z => fin false (z [v0, v1, v2, 0, 0] M)) h
set_option maxRecDepth 100000 in
theorem u_X10_chain (v0 v1 v2 : Int) (M : Mem) : ci_X10_chain.2.2.2.2 [v0, v1, v2] M = fin false ((dRet (dCon (dAnd (dCm0 .ne (dCal wC ci_X2_lives (dA1 (dA1 dA0 (dFld wC 10 5 (dLoc 0))) (dLoc 1)))) (dCm0 .ne (dCal wC ci_X2_lives (dA1 (dA1 dA0 (dFld wC 10 5 (dLoc 0))) (dLoc 2))))) (dCal wC ci_X2_stepsBetween (dA1 (dA1 (dA1 dA0 (dFld wC 10 5 (dLoc 0))) (dLoc 1)) (dLoc 2))) (dInt (-1)))) [v0, v1, v2] M) := by
  have h : a_X10_chain.1.1 = (dRet (dCon (dAnd (dCm0 .ne (dCal wC ci_X2_lives (dA1 (dA1 dA0 (dFld wC 10 5 (dLoc 0))) (dLoc 1)))) (dCm0 .ne (dCal wC ci_X2_lives (dA1 (dA1 dA0 (dFld wC 10 5 (dLoc 0))) (dLoc 2))))) (dCal wC ci_X2_stepsBetween (dA1 (dA1 (dA1 dA0 (dFld wC 10 5 (dLoc 0))) (dLoc 1)) (dLoc 2))) (dInt (-1)))) := by simp only [a_X10_chain, p_sSet, p_sInc, p_sPutF, p_sUpdF, p_sPutA, p_sUpdA, sDo, p_sCpy, p_sSeq, p_sIf, p_sIfE, p_sWh, p_sRet, p_sReV, p_sBlk, p_sSw, p_wDf, p_wCs, p_eInt, p_eLng, p_eNll, p_eStr, p_eSta, p_eLoc, p_eBin, p_eDiv, p_eI2L, p_eL2I, p_eFld, p_eAr, p_eRo, p_eLen, eCal, p_eMt, p_eAbs, p_eBo, p_eCon, p_aA0, p_aA1, p_oCmp, p_oCm0, p_oCmpL, p_oNul, p_oAnd, p_oOr, p_oNot]
  exact congrArg (fun z => fin false (z [v0, v1, v2] M)) h
noncomputable def wc1_X2_trusted : CoD := (dAnd (dAnd (dCmp .lt (dLoc 4) (dFld wC 2 1 (dLoc 0))) (dCm0 .ne (dCal wC ci_X2_lives (dA1 (dA1 dA0 (dLoc 0)) (dLoc 3))))) (dCmp .ne (dCal wC ci_X2_get (dA1 (dA1 (dA1 dA0 (dLoc 0)) (dLoc 3)) (dInt 2))) (dInt 3)))
noncomputable def wb1_X2_trusted : StD := (dSeq (dSeq (dSet 2 (dBin (opF 4) (dLoc 2) (dBin (opF 6) (dInt 1) (dLoc 3))))
  (dSet 3 (dCal wC ci_X2_get (dA1 (dA1 (dA1 dA0 (dLoc 0)) (dLoc 3)) (dInt 3)))))
  (dInc 4 1))
set_option maxRecDepth 100000 in
theorem u_X2_trusted (v0 v1 : Int) (M : Mem) : ci_X2_trusted.2.2.2.2 [v0, v1] M = fin false ((dSeq (dSet 2 (dBin (opF 6) (dInt 1) (dLoc 1)))
  (dSeq (dSet 3 (dCal wC ci_X2_get (dA1 (dA1 (dA1 dA0 (dLoc 0)) (dLoc 1)) (dInt 3))))
  (dSeq (dSeq (dSet 4 (dInt 0))
  (dWh (wc1_X2_trusted) (wb1_X2_trusted)))
  (dRet (dLoc 2))))) [v0, v1, 0, 0, 0] M) := by
  have h : a_X2_trusted.1.1 = (dSeq (dSet 2 (dBin (opF 6) (dInt 1) (dLoc 1)))
  (dSeq (dSet 3 (dCal wC ci_X2_get (dA1 (dA1 (dA1 dA0 (dLoc 0)) (dLoc 1)) (dInt 3))))
  (dSeq (dSeq (dSet 4 (dInt 0))
  (dWh (wc1_X2_trusted) (wb1_X2_trusted)))
  (dRet (dLoc 2))))) := by simp only [a_X2_trusted, wc1_X2_trusted, wb1_X2_trusted, p_sSet, p_sInc, p_sPutF, p_sUpdF, p_sPutA, p_sUpdA, sDo, p_sCpy, p_sSeq, p_sIf, p_sIfE, p_sWh, p_sRet, p_sReV, p_sBlk, p_sSw, p_wDf, p_wCs, p_eInt, p_eLng, p_eNll, p_eStr, p_eSta, p_eLoc, p_eBin, p_eDiv, p_eI2L, p_eL2I, p_eFld, p_eAr, p_eRo, p_eLen, eCal, p_eMt, p_eAbs, p_eBo, p_eCon, p_aA0, p_aA1, p_oCmp, p_oCm0, p_oCmpL, p_oNul, p_oAnd, p_oOr, p_oNot]
  exact congrArg (fun z => fin false (z [v0, v1, 0, 0, 0] M)) h
set_option maxRecDepth 100000 in
theorem u_X10_trusts (v0 v1 : Int) (M : Mem) : ci_X10_trusts.2.2.2.2 [v0, v1] M = fin false ((dRet (dCon (dCm0 .ne (dCal wC ci_X2_lives (dA1 (dA1 dA0 (dFld wC 10 5 (dLoc 0))) (dLoc 1)))) (dCal wC ci_X2_trusted (dA1 (dA1 dA0 (dFld wC 10 5 (dLoc 0))) (dLoc 1))) (dInt (-1)))) [v0, v1] M) := by
  have h : a_X10_trusts.1.1 = (dRet (dCon (dCm0 .ne (dCal wC ci_X2_lives (dA1 (dA1 dA0 (dFld wC 10 5 (dLoc 0))) (dLoc 1)))) (dCal wC ci_X2_trusted (dA1 (dA1 dA0 (dFld wC 10 5 (dLoc 0))) (dLoc 1))) (dInt (-1)))) := by simp only [a_X10_trusts, p_sSet, p_sInc, p_sPutF, p_sUpdF, p_sPutA, p_sUpdA, sDo, p_sCpy, p_sSeq, p_sIf, p_sIfE, p_sWh, p_sRet, p_sReV, p_sBlk, p_sSw, p_wDf, p_wCs, p_eInt, p_eLng, p_eNll, p_eStr, p_eSta, p_eLoc, p_eBin, p_eDiv, p_eI2L, p_eL2I, p_eFld, p_eAr, p_eRo, p_eLen, eCal, p_eMt, p_eAbs, p_eBo, p_eCon, p_aA0, p_aA1, p_oCmp, p_oCm0, p_oCmpL, p_oNul, p_oAnd, p_oOr, p_oNot]
  exact congrArg (fun z => fin false (z [v0, v1] M)) h
set_option maxRecDepth 100000 in
theorem u_X10_friends (v0 v1 : Int) (M : Mem) : ci_X10_friends.2.2.2.2 [v0, v1] M = fin false ((dRet (dCon (dCm0 .ne (dCal wC ci_X2_has (dA1 (dA1 dA0 (dFld wC 10 5 (dLoc 0))) (dLoc 1)))) (dCal wC ci_X2_befriending (dA1 (dA1 dA0 (dFld wC 10 5 (dLoc 0))) (dLoc 1))) (dInt (-1)))) [v0, v1] M) := by
  have h : a_X10_friends.1.1 = (dRet (dCon (dCm0 .ne (dCal wC ci_X2_has (dA1 (dA1 dA0 (dFld wC 10 5 (dLoc 0))) (dLoc 1)))) (dCal wC ci_X2_befriending (dA1 (dA1 dA0 (dFld wC 10 5 (dLoc 0))) (dLoc 1))) (dInt (-1)))) := by simp only [a_X10_friends, p_sSet, p_sInc, p_sPutF, p_sUpdF, p_sPutA, p_sUpdA, sDo, p_sCpy, p_sSeq, p_sIf, p_sIfE, p_sWh, p_sRet, p_sReV, p_sBlk, p_sSw, p_wDf, p_wCs, p_eInt, p_eLng, p_eNll, p_eStr, p_eSta, p_eLoc, p_eBin, p_eDiv, p_eI2L, p_eL2I, p_eFld, p_eAr, p_eRo, p_eLen, eCal, p_eMt, p_eAbs, p_eBo, p_eCon, p_aA0, p_aA1, p_oCmp, p_oCm0, p_oCmpL, p_oNul, p_oAnd, p_oOr, p_oNot]
  exact congrArg (fun z => fin false (z [v0, v1] M)) h
set_option maxRecDepth 100000 in
theorem u_X1_addSecret (v0 v1 v2 : Int) (M : Mem) : ci_X1_addSecret.2.2.2.2 [v0, v1, v2] M = fin false ((dSeq (dIf (dOr (dCm0 .lt (dFld wC 1 5 (dLoc 0))) (dCmp .ge (dFld wC 1 5 (dLoc 0)) (dLen wC 1 (dFld wC 1 1 (dLoc 0))))) (dRet (dInt (-1))))
  (dSeq (dDo wC ci_X10_put (dA1 (dA1 (dA1 dA0 (dFld wC 1 0 (dLoc 0))) (dFld wC 1 5 (dLoc 0))) (dLoc 1)))
  (dSeq (dPutA wC 1 (dFld wC 1 1 (dLoc 0)) (dFld wC 1 5 (dLoc 0)) (dLoc 2))
  (dSeq (dUpdF wC 0 1 5 (dLoc 0) (dInt 1))
  (dRet (dFld wC 1 5 (dLoc 0))))))) [v0, v1, v2] M) := by
  have h : a_X1_addSecret.1.1 = (dSeq (dIf (dOr (dCm0 .lt (dFld wC 1 5 (dLoc 0))) (dCmp .ge (dFld wC 1 5 (dLoc 0)) (dLen wC 1 (dFld wC 1 1 (dLoc 0))))) (dRet (dInt (-1))))
  (dSeq (dDo wC ci_X10_put (dA1 (dA1 (dA1 dA0 (dFld wC 1 0 (dLoc 0))) (dFld wC 1 5 (dLoc 0))) (dLoc 1)))
  (dSeq (dPutA wC 1 (dFld wC 1 1 (dLoc 0)) (dFld wC 1 5 (dLoc 0)) (dLoc 2))
  (dSeq (dUpdF wC 0 1 5 (dLoc 0) (dInt 1))
  (dRet (dFld wC 1 5 (dLoc 0))))))) := by simp only [a_X1_addSecret, p_sSet, p_sInc, p_sPutF, p_sUpdF, p_sPutA, p_sUpdA, sDo, p_sCpy, p_sSeq, p_sIf, p_sIfE, p_sWh, p_sRet, p_sReV, p_sBlk, p_sSw, p_wDf, p_wCs, p_eInt, p_eLng, p_eNll, p_eStr, p_eSta, p_eLoc, p_eBin, p_eDiv, p_eI2L, p_eL2I, p_eFld, p_eAr, p_eRo, p_eLen, eCal, p_eMt, p_eAbs, p_eBo, p_eCon, p_aA0, p_aA1, p_oCmp, p_oCm0, p_oCmpL, p_oNul, p_oAnd, p_oOr, p_oNot]
  exact congrArg (fun z => fin false (z [v0, v1, v2] M)) h
set_option maxRecDepth 100000 in
theorem u_X10_out (v0 v1 v2 : Int) (M : Mem) : ci_X10_out.2.2.2.2 [v0, v1, v2] M = fin false ((dRet (dCon (dAnd (dCm0 .gt (dLoc 1)) (dCmp .lt (dLoc 1) (dBin (opF 6) (dInt 1) (dFld wC 2 1 (dFld wC 10 5 (dLoc 0)))))) (dCal wC ci_X1_addSecret (dA1 (dA1 (dA1 dA0 (dFld wC 10 13 (dLoc 0))) (dLoc 1)) (dLoc 2))) (dInt (-1)))) [v0, v1, v2] M) := by
  have h : a_X10_out.1.1 = (dRet (dCon (dAnd (dCm0 .gt (dLoc 1)) (dCmp .lt (dLoc 1) (dBin (opF 6) (dInt 1) (dFld wC 2 1 (dFld wC 10 5 (dLoc 0)))))) (dCal wC ci_X1_addSecret (dA1 (dA1 (dA1 dA0 (dFld wC 10 13 (dLoc 0))) (dLoc 1)) (dLoc 2))) (dInt (-1)))) := by simp only [a_X10_out, p_sSet, p_sInc, p_sPutF, p_sUpdF, p_sPutA, p_sUpdA, sDo, p_sCpy, p_sSeq, p_sIf, p_sIfE, p_sWh, p_sRet, p_sReV, p_sBlk, p_sSw, p_wDf, p_wCs, p_eInt, p_eLng, p_eNll, p_eStr, p_eSta, p_eLoc, p_eBin, p_eDiv, p_eI2L, p_eL2I, p_eFld, p_eAr, p_eRo, p_eLen, eCal, p_eMt, p_eAbs, p_eBo, p_eCon, p_aA0, p_aA1, p_oCmp, p_oCm0, p_oCmpL, p_oNul, p_oAnd, p_oOr, p_oNot]
  exact congrArg (fun z => fin false (z [v0, v1, v2] M)) h
set_option maxRecDepth 100000 in
theorem u_X10_asksForSpies (v0 v1 : Int) (M : Mem) : ci_X10_asksForSpies.2.2.2.2 [v0, v1] M = fin true ((dRet (dBo (dAnd (dAnd (dCm0 .ne (dCal wC ci_X10_isTold (dA1 dA0 (dLoc 0)))) (dCmp .ge (dLoc 1) (dInt 1))) (dCmp .le (dLoc 1) (dInt 3))))) [v0, v1] M) := by
  have h : a_X10_asksForSpies.1.1 = (dRet (dBo (dAnd (dAnd (dCm0 .ne (dCal wC ci_X10_isTold (dA1 dA0 (dLoc 0)))) (dCmp .ge (dLoc 1) (dInt 1))) (dCmp .le (dLoc 1) (dInt 3))))) := by simp only [a_X10_asksForSpies, p_sSet, p_sInc, p_sPutF, p_sUpdF, p_sPutA, p_sUpdA, sDo, p_sCpy, p_sSeq, p_sIf, p_sIfE, p_sWh, p_sRet, p_sReV, p_sBlk, p_sSw, p_wDf, p_wCs, p_eInt, p_eLng, p_eNll, p_eStr, p_eSta, p_eLoc, p_eBin, p_eDiv, p_eI2L, p_eL2I, p_eFld, p_eAr, p_eRo, p_eLen, eCal, p_eMt, p_eAbs, p_eBo, p_eCon, p_aA0, p_aA1, p_oCmp, p_oCm0, p_oCmpL, p_oNul, p_oAnd, p_oOr, p_oNot]
  exact congrArg (fun z => fin true (z [v0, v1] M)) h
noncomputable def wc1_X1_fits : CoD := (dAnd (dCmp .lt (dLoc 2) (dFld wC 1 5 (dLoc 0))) (dCmp .lt (dLoc 2) (dLen wC 1 (dFld wC 1 1 (dLoc 0)))))
noncomputable def wb1_X1_fits : StD := (dSeq (dIf (dCmp .ne (dBo (dCm0 .ne (dBin (opF 3) (dCal wC ci_X10_at (dA1 (dA1 dA0 (dFld wC 1 0 (dLoc 0))) (dLoc 2))) (dLoc 1)))) (dAr wC 1 (dFld wC 1 1 (dLoc 0)) (dLoc 2))) (dRet (dInt 0)))
  (dInc 2 1))
set_option maxRecDepth 100000 in
theorem u_X1_fits (v0 v1 : Int) (M : Mem) : ci_X1_fits.2.2.2.2 [v0, v1] M = fin true ((dSeq (dSeq (dSet 2 (dInt 0))
  (dWh (wc1_X1_fits) (wb1_X1_fits)))
  (dRet (dInt 1))) [v0, v1, 0] M) := by
  have h : a_X1_fits.1.1 = (dSeq (dSeq (dSet 2 (dInt 0))
  (dWh (wc1_X1_fits) (wb1_X1_fits)))
  (dRet (dInt 1))) := by simp only [a_X1_fits, wc1_X1_fits, wb1_X1_fits, p_sSet, p_sInc, p_sPutF, p_sUpdF, p_sPutA, p_sUpdA, sDo, p_sCpy, p_sSeq, p_sIf, p_sIfE, p_sWh, p_sRet, p_sReV, p_sBlk, p_sSw, p_wDf, p_wCs, p_eInt, p_eLng, p_eNll, p_eStr, p_eSta, p_eLoc, p_eBin, p_eDiv, p_eI2L, p_eL2I, p_eFld, p_eAr, p_eRo, p_eLen, eCal, p_eMt, p_eAbs, p_eBo, p_eCon, p_aA0, p_aA1, p_oCmp, p_oCm0, p_oCmpL, p_oNul, p_oAnd, p_oOr, p_oNot]
  exact congrArg (fun z => fin true (z [v0, v1, 0] M)) h
set_option maxRecDepth 100000 in
theorem u_X1_fits_ (v0 v1 v2 : Int) (M : Mem) : ci_X1_fits_.2.2.2.2 [v0, v1, v2] M = fin true ((dRet (dBo (dAnd (dCmp .eq (dCal wC ci_J6_bitCount_0f7a4C (dA1 dA0 (dLoc 1))) (dLoc 2)) (dCm0 .ne (dCal wC ci_X1_fits (dA1 (dA1 dA0 (dLoc 0)) (dLoc 1))))))) [v0, v1, v2] M) := by
  have h : a_X1_fits_.1.1 = (dRet (dBo (dAnd (dCmp .eq (dCal wC ci_J6_bitCount_0f7a4C (dA1 dA0 (dLoc 1))) (dLoc 2)) (dCm0 .ne (dCal wC ci_X1_fits (dA1 (dA1 dA0 (dLoc 0)) (dLoc 1))))))) := by simp only [a_X1_fits_, p_sSet, p_sInc, p_sPutF, p_sUpdF, p_sPutA, p_sUpdA, sDo, p_sCpy, p_sSeq, p_sIf, p_sIfE, p_sWh, p_sRet, p_sReV, p_sBlk, p_sSw, p_wDf, p_wCs, p_eInt, p_eLng, p_eNll, p_eStr, p_eSta, p_eLoc, p_eBin, p_eDiv, p_eI2L, p_eL2I, p_eFld, p_eAr, p_eRo, p_eLen, eCal, p_eMt, p_eAbs, p_eBo, p_eCon, p_aA0, p_aA1, p_oCmp, p_oCm0, p_oCmpL, p_oNul, p_oAnd, p_oOr, p_oNot]
  exact congrArg (fun z => fin true (z [v0, v1, v2] M)) h
noncomputable def wc1_X1_manyFitting : CoD := (dCmp .lt (dLoc 4) (dBin (opF 6) (dInt 1) (dLoc 2)))
noncomputable def wb1_X1_manyFitting : StD := (dSeq (dIf (dCm0 .ne (dCal wC ci_X1_fits_ (dA1 (dA1 (dA1 dA0 (dLoc 0)) (dLoc 4)) (dLoc 1)))) (dInc 3 1))
  (dInc 4 1))
set_option maxRecDepth 100000 in
theorem u_X1_manyFitting (v0 v1 v2 : Int) (M : Mem) : ci_X1_manyFitting.2.2.2.2 [v0, v1, v2] M = fin false ((dSeq (dSet 3 (dInt 0))
  (dSeq (dSeq (dSet 4 (dInt 1))
  (dWh (wc1_X1_manyFitting) (wb1_X1_manyFitting)))
  (dRet (dLoc 3)))) [v0, v1, v2, 0, 0] M) := by
  have h : a_X1_manyFitting.1.1 = (dSeq (dSet 3 (dInt 0))
  (dSeq (dSeq (dSet 4 (dInt 1))
  (dWh (wc1_X1_manyFitting) (wb1_X1_manyFitting)))
  (dRet (dLoc 3)))) := by simp only [a_X1_manyFitting, wc1_X1_manyFitting, wb1_X1_manyFitting, p_sSet, p_sInc, p_sPutF, p_sUpdF, p_sPutA, p_sUpdA, sDo, p_sCpy, p_sSeq, p_sIf, p_sIfE, p_sWh, p_sRet, p_sReV, p_sBlk, p_sSw, p_wDf, p_wCs, p_eInt, p_eLng, p_eNll, p_eStr, p_eSta, p_eLoc, p_eBin, p_eDiv, p_eI2L, p_eL2I, p_eFld, p_eAr, p_eRo, p_eLen, eCal, p_eMt, p_eAbs, p_eBo, p_eCon, p_aA0, p_aA1, p_oCmp, p_oCm0, p_oCmpL, p_oNul, p_oAnd, p_oOr, p_oNot]
  exact congrArg (fun z => fin false (z [v0, v1, v2, 0, 0] M)) h
noncomputable def wc1_X1_fitting : CoD := (dCmp .lt (dLoc 5) (dBin (opF 6) (dInt 1) (dLoc 2)))
noncomputable def wb1_X1_fitting : StD := (dSeq (dIf (dCm0 .ne (dCal wC ci_X1_fits_ (dA1 (dA1 (dA1 dA0 (dLoc 0)) (dLoc 5)) (dLoc 1)))) (dSeq (dIf (dCmp .eq (dLoc 4) (dLoc 3)) (dRet (dLoc 5)))
  (dInc 4 1)))
  (dInc 5 1))
set_option maxRecDepth 100000 in
theorem u_X1_fitting (v0 v1 v2 v3 : Int) (M : Mem) : ci_X1_fitting.2.2.2.2 [v0, v1, v2, v3] M = fin false ((dSeq (dSet 4 (dInt 0))
  (dSeq (dSeq (dSet 5 (dInt 1))
  (dWh (wc1_X1_fitting) (wb1_X1_fitting)))
  (dRet (dInt (-1))))) [v0, v1, v2, v3, 0, 0] M) := by
  have h : a_X1_fitting.1.1 = (dSeq (dSet 4 (dInt 0))
  (dSeq (dSeq (dSet 5 (dInt 1))
  (dWh (wc1_X1_fitting) (wb1_X1_fitting)))
  (dRet (dInt (-1))))) := by simp only [a_X1_fitting, wc1_X1_fitting, wb1_X1_fitting, p_sSet, p_sInc, p_sPutF, p_sUpdF, p_sPutA, p_sUpdA, sDo, p_sCpy, p_sSeq, p_sIf, p_sIfE, p_sWh, p_sRet, p_sReV, p_sBlk, p_sSw, p_wDf, p_wCs, p_eInt, p_eLng, p_eNll, p_eStr, p_eSta, p_eLoc, p_eBin, p_eDiv, p_eI2L, p_eL2I, p_eFld, p_eAr, p_eRo, p_eLen, eCal, p_eMt, p_eAbs, p_eBo, p_eCon, p_aA0, p_aA1, p_oCmp, p_oCm0, p_oCmpL, p_oNul, p_oAnd, p_oOr, p_oNot]
  exact congrArg (fun z => fin false (z [v0, v1, v2, v3, 0, 0] M)) h
set_option maxRecDepth 100000 in
theorem u_X10_spies (v0 v1 v2 : Int) (M : Mem) : ci_X10_spies.2.2.2.2 [v0, v1, v2] M = fin false ((dSeq (dIf (dOr (dNot (dCm0 .ne (dCal wC ci_X10_asksForSpies (dA1 (dA1 dA0 (dLoc 0)) (dLoc 1))))) (dCmp .lt (dLoc 2) (dInt (-1)))) (dRet (dInt (-1))))
  (dRet (dCon (dCmp .eq (dLoc 2) (dInt (-1))) (dCal wC ci_X1_manyFitting (dA1 (dA1 (dA1 dA0 (dFld wC 10 13 (dLoc 0))) (dLoc 1)) (dFld wC 2 1 (dFld wC 10 5 (dLoc 0))))) (dCal wC ci_X1_fitting (dA1 (dA1 (dA1 (dA1 dA0 (dFld wC 10 13 (dLoc 0))) (dLoc 1)) (dFld wC 2 1 (dFld wC 10 5 (dLoc 0)))) (dLoc 2)))))) [v0, v1, v2] M) := by
  have h : a_X10_spies.1.1 = (dSeq (dIf (dOr (dNot (dCm0 .ne (dCal wC ci_X10_asksForSpies (dA1 (dA1 dA0 (dLoc 0)) (dLoc 1))))) (dCmp .lt (dLoc 2) (dInt (-1)))) (dRet (dInt (-1))))
  (dRet (dCon (dCmp .eq (dLoc 2) (dInt (-1))) (dCal wC ci_X1_manyFitting (dA1 (dA1 (dA1 dA0 (dFld wC 10 13 (dLoc 0))) (dLoc 1)) (dFld wC 2 1 (dFld wC 10 5 (dLoc 0))))) (dCal wC ci_X1_fitting (dA1 (dA1 (dA1 (dA1 dA0 (dFld wC 10 13 (dLoc 0))) (dLoc 1)) (dFld wC 2 1 (dFld wC 10 5 (dLoc 0)))) (dLoc 2)))))) := by simp only [a_X10_spies, p_sSet, p_sInc, p_sPutF, p_sUpdF, p_sPutA, p_sUpdA, sDo, p_sCpy, p_sSeq, p_sIf, p_sIfE, p_sWh, p_sRet, p_sReV, p_sBlk, p_sSw, p_wDf, p_wCs, p_eInt, p_eLng, p_eNll, p_eStr, p_eSta, p_eLoc, p_eBin, p_eDiv, p_eI2L, p_eL2I, p_eFld, p_eAr, p_eRo, p_eLen, eCal, p_eMt, p_eAbs, p_eBo, p_eCon, p_aA0, p_aA1, p_oCmp, p_oCm0, p_oCmpL, p_oNul, p_oAnd, p_oOr, p_oNot]
  exact congrArg (fun z => fin false (z [v0, v1, v2] M)) h
noncomputable def wc1_X1_manyFittingWith : CoD := (dCmp .lt (dLoc 5) (dBin (opF 6) (dInt 1) (dLoc 2)))
noncomputable def wb1_X1_manyFittingWith : StD := (dSeq (dIf (dAnd (dCm0 .ne (dBin (opF 3) (dBin (opF 8) (dLoc 5) (dLoc 3)) (dInt 1))) (dCm0 .ne (dCal wC ci_X1_fits_ (dA1 (dA1 (dA1 dA0 (dLoc 0)) (dLoc 5)) (dLoc 1))))) (dInc 4 1))
  (dInc 5 1))
set_option maxRecDepth 100000 in
theorem u_X1_manyFittingWith (v0 v1 v2 v3 : Int) (M : Mem) : ci_X1_manyFittingWith.2.2.2.2 [v0, v1, v2, v3] M = fin false ((dSeq (dSet 4 (dInt 0))
  (dSeq (dSeq (dSet 5 (dInt 1))
  (dWh (wc1_X1_manyFittingWith) (wb1_X1_manyFittingWith)))
  (dRet (dLoc 4)))) [v0, v1, v2, v3, 0, 0] M) := by
  have h : a_X1_manyFittingWith.1.1 = (dSeq (dSet 4 (dInt 0))
  (dSeq (dSeq (dSet 5 (dInt 1))
  (dWh (wc1_X1_manyFittingWith) (wb1_X1_manyFittingWith)))
  (dRet (dLoc 4)))) := by simp only [a_X1_manyFittingWith, wc1_X1_manyFittingWith, wb1_X1_manyFittingWith, p_sSet, p_sInc, p_sPutF, p_sUpdF, p_sPutA, p_sUpdA, sDo, p_sCpy, p_sSeq, p_sIf, p_sIfE, p_sWh, p_sRet, p_sReV, p_sBlk, p_sSw, p_wDf, p_wCs, p_eInt, p_eLng, p_eNll, p_eStr, p_eSta, p_eLoc, p_eBin, p_eDiv, p_eI2L, p_eL2I, p_eFld, p_eAr, p_eRo, p_eLen, eCal, p_eMt, p_eAbs, p_eBo, p_eCon, p_aA0, p_aA1, p_oCmp, p_oCm0, p_oCmpL, p_oNul, p_oAnd, p_oOr, p_oNot]
  exact congrArg (fun z => fin false (z [v0, v1, v2, v3, 0, 0] M)) h
noncomputable def wc1_X10_clear : CoD := (dCmp .lt (dLoc 3) (dFld wC 2 1 (dFld wC 10 5 (dLoc 0))))
noncomputable def wb1_X10_clear : StD := (dSeq (dIf (dCm0 .eq (dCal wC ci_X1_manyFittingWith (dA1 (dA1 (dA1 (dA1 dA0 (dFld wC 10 13 (dLoc 0))) (dLoc 1)) (dFld wC 2 1 (dFld wC 10 5 (dLoc 0)))) (dLoc 3)))) (dSet 2 (dBin (opF 4) (dLoc 2) (dBin (opF 6) (dInt 1) (dLoc 3)))))
  (dInc 3 1))
set_option maxRecDepth 100000 in
theorem u_X10_clear (v0 v1 : Int) (M : Mem) : ci_X10_clear.2.2.2.2 [v0, v1] M = fin false ((dSeq (dIf (dOr (dNot (dCm0 .ne (dCal wC ci_X10_asksForSpies (dA1 (dA1 dA0 (dLoc 0)) (dLoc 1))))) (dCm0 .eq (dCal wC ci_X1_manyFitting (dA1 (dA1 (dA1 dA0 (dFld wC 10 13 (dLoc 0))) (dLoc 1)) (dFld wC 2 1 (dFld wC 10 5 (dLoc 0))))))) (dRet (dInt (-1))))
  (dSeq (dSet 2 (dInt 0))
  (dSeq (dSeq (dSet 3 (dInt 0))
  (dWh (wc1_X10_clear) (wb1_X10_clear)))
  (dRet (dLoc 2))))) [v0, v1, 0, 0] M) := by
  have h : a_X10_clear.1.1 = (dSeq (dIf (dOr (dNot (dCm0 .ne (dCal wC ci_X10_asksForSpies (dA1 (dA1 dA0 (dLoc 0)) (dLoc 1))))) (dCm0 .eq (dCal wC ci_X1_manyFitting (dA1 (dA1 (dA1 dA0 (dFld wC 10 13 (dLoc 0))) (dLoc 1)) (dFld wC 2 1 (dFld wC 10 5 (dLoc 0))))))) (dRet (dInt (-1))))
  (dSeq (dSet 2 (dInt 0))
  (dSeq (dSeq (dSet 3 (dInt 0))
  (dWh (wc1_X10_clear) (wb1_X10_clear)))
  (dRet (dLoc 2))))) := by simp only [a_X10_clear, wc1_X10_clear, wb1_X10_clear, p_sSet, p_sInc, p_sPutF, p_sUpdF, p_sPutA, p_sUpdA, sDo, p_sCpy, p_sSeq, p_sIf, p_sIfE, p_sWh, p_sRet, p_sReV, p_sBlk, p_sSw, p_wDf, p_wCs, p_eInt, p_eLng, p_eNll, p_eStr, p_eSta, p_eLoc, p_eBin, p_eDiv, p_eI2L, p_eL2I, p_eFld, p_eAr, p_eRo, p_eLen, eCal, p_eMt, p_eAbs, p_eBo, p_eCon, p_aA0, p_aA1, p_oCmp, p_oCm0, p_oCmpL, p_oNul, p_oAnd, p_oOr, p_oNot]
  exact congrArg (fun z => fin false (z [v0, v1, 0, 0] M)) h
noncomputable def wc1_X10_best : CoD := (dAnd (dCmp .lt (dLoc 5) (dFld wC 2 1 (dFld wC 10 5 (dLoc 0)))) (dCm0 .gt (dLoc 2)))
noncomputable def wb1_X10_best : StD := (dSeq (dSeq (dSet 6 (dUn abI (dBin (opF 1) (dLoc 2) (dBin (opF 2) (dInt 2) (dCal wC ci_X1_manyFittingWith (dA1 (dA1 (dA1 (dA1 dA0 (dFld wC 10 13 (dLoc 0))) (dLoc 1)) (dFld wC 2 1 (dFld wC 10 5 (dLoc 0)))) (dLoc 5)))))))
  (dIf (dOr (dCmp .eq (dLoc 3) (dInt (-1))) (dCmp .lt (dLoc 6) (dLoc 4))) (dSeq (dSet 3 (dLoc 5))
  (dSet 4 (dLoc 6)))))
  (dInc 5 1))
set_option maxRecDepth 100000 in
theorem u_X10_best (v0 v1 : Int) (M : Mem) : ci_X10_best.2.2.2.2 [v0, v1] M = fin false ((dSeq (dIf (dNot (dCm0 .ne (dCal wC ci_X10_asksForSpies (dA1 (dA1 dA0 (dLoc 0)) (dLoc 1))))) (dRet (dInt (-1))))
  (dSeq (dSet 2 (dCal wC ci_X1_manyFitting (dA1 (dA1 (dA1 dA0 (dFld wC 10 13 (dLoc 0))) (dLoc 1)) (dFld wC 2 1 (dFld wC 10 5 (dLoc 0))))))
  (dSeq (dSet 3 (dInt (-1)))
  (dSeq (dSet 4 (dInt 0))
  (dSeq (dSeq (dSet 5 (dInt 0))
  (dWh (wc1_X10_best) (wb1_X10_best)))
  (dRet (dLoc 3))))))) [v0, v1, 0, 0, 0, 0, 0] M) := by
  have h : a_X10_best.1.1 = (dSeq (dIf (dNot (dCm0 .ne (dCal wC ci_X10_asksForSpies (dA1 (dA1 dA0 (dLoc 0)) (dLoc 1))))) (dRet (dInt (-1))))
  (dSeq (dSet 2 (dCal wC ci_X1_manyFitting (dA1 (dA1 (dA1 dA0 (dFld wC 10 13 (dLoc 0))) (dLoc 1)) (dFld wC 2 1 (dFld wC 10 5 (dLoc 0))))))
  (dSeq (dSet 3 (dInt (-1)))
  (dSeq (dSet 4 (dInt 0))
  (dSeq (dSeq (dSet 5 (dInt 0))
  (dWh (wc1_X10_best) (wb1_X10_best)))
  (dRet (dLoc 3))))))) := by simp only [a_X10_best, wc1_X10_best, wb1_X10_best, p_sSet, p_sInc, p_sPutF, p_sUpdF, p_sPutA, p_sUpdA, sDo, p_sCpy, p_sSeq, p_sIf, p_sIfE, p_sWh, p_sRet, p_sReV, p_sBlk, p_sSw, p_wDf, p_wCs, p_eInt, p_eLng, p_eNll, p_eStr, p_eSta, p_eLoc, p_eBin, p_eDiv, p_eI2L, p_eL2I, p_eFld, p_eAr, p_eRo, p_eLen, eCal, p_eMt, p_eAbs, p_eBo, p_eCon, p_aA0, p_aA1, p_oCmp, p_oCm0, p_oCmpL, p_oNul, p_oAnd, p_oOr, p_oNot]
  exact congrArg (fun z => fin false (z [v0, v1, 0, 0, 0, 0, 0] M)) h
set_option maxRecDepth 100000 in
theorem u_X1_addGrave (v0 v1 v2 v3 : Int) (M : Mem) : ci_X1_addGrave.2.2.2.2 [v0, v1, v2, v3] M = fin false ((dSeq (dIf (dOr (dCm0 .lt (dFld wC 1 6 (dLoc 0))) (dCmp .ge (dFld wC 1 6 (dLoc 0)) (dLen wC 1 (dFld wC 1 4 (dLoc 0))))) (dRet (dInt (-1))))
  (dSeq (dDo wC ci_X10_put (dA1 (dA1 (dA1 dA0 (dFld wC 1 2 (dLoc 0))) (dFld wC 1 6 (dLoc 0))) (dLoc 1)))
  (dSeq (dDo wC ci_X10_put (dA1 (dA1 (dA1 dA0 (dFld wC 1 3 (dLoc 0))) (dFld wC 1 6 (dLoc 0))) (dLoc 2)))
  (dSeq (dPutA wC 1 (dFld wC 1 4 (dLoc 0)) (dFld wC 1 6 (dLoc 0)) (dLoc 3))
  (dSeq (dUpdF wC 0 1 6 (dLoc 0) (dInt 1))
  (dRet (dFld wC 1 6 (dLoc 0)))))))) [v0, v1, v2, v3] M) := by
  have h : a_X1_addGrave.1.1 = (dSeq (dIf (dOr (dCm0 .lt (dFld wC 1 6 (dLoc 0))) (dCmp .ge (dFld wC 1 6 (dLoc 0)) (dLen wC 1 (dFld wC 1 4 (dLoc 0))))) (dRet (dInt (-1))))
  (dSeq (dDo wC ci_X10_put (dA1 (dA1 (dA1 dA0 (dFld wC 1 2 (dLoc 0))) (dFld wC 1 6 (dLoc 0))) (dLoc 1)))
  (dSeq (dDo wC ci_X10_put (dA1 (dA1 (dA1 dA0 (dFld wC 1 3 (dLoc 0))) (dFld wC 1 6 (dLoc 0))) (dLoc 2)))
  (dSeq (dPutA wC 1 (dFld wC 1 4 (dLoc 0)) (dFld wC 1 6 (dLoc 0)) (dLoc 3))
  (dSeq (dUpdF wC 0 1 6 (dLoc 0) (dInt 1))
  (dRet (dFld wC 1 6 (dLoc 0)))))))) := by simp only [a_X1_addGrave, p_sSet, p_sInc, p_sPutF, p_sUpdF, p_sPutA, p_sUpdA, sDo, p_sCpy, p_sSeq, p_sIf, p_sIfE, p_sWh, p_sRet, p_sReV, p_sBlk, p_sSw, p_wDf, p_wCs, p_eInt, p_eLng, p_eNll, p_eStr, p_eSta, p_eLoc, p_eBin, p_eDiv, p_eI2L, p_eL2I, p_eFld, p_eAr, p_eRo, p_eLen, eCal, p_eMt, p_eAbs, p_eBo, p_eCon, p_aA0, p_aA1, p_oCmp, p_oCm0, p_oCmpL, p_oNul, p_oAnd, p_oOr, p_oNot]
  exact congrArg (fun z => fin false (z [v0, v1, v2, v3] M)) h
set_option maxRecDepth 100000 in
theorem u_X10_grave (v0 v1 v2 v3 : Int) (M : Mem) : ci_X10_grave.2.2.2.2 [v0, v1, v2, v3] M = fin false ((dSeq (dSet 4 (dBo (dAnd (dCm0 .ne (dCal wC ci_X10_isTold (dA1 dA0 (dLoc 0)))) (dOr (dCm0 .eq (dLoc 1)) (dCmp .eq (dLoc 1) (dInt 1))))))
  (dRet (dCon (dAnd (dAnd (dCm0 .ne (dLoc 4)) (dCm0 .ge (dLoc 2))) (dCmp .le (dLoc 2) (dInt 99))) (dCal wC ci_X1_addGrave (dA1 (dA1 (dA1 (dA1 dA0 (dFld wC 10 13 (dLoc 0))) (dLoc 1)) (dLoc 2)) (dLoc 3))) (dInt (-1))))) [v0, v1, v2, v3, 0] M) := by
  have h : a_X10_grave.1.1 = (dSeq (dSet 4 (dBo (dAnd (dCm0 .ne (dCal wC ci_X10_isTold (dA1 dA0 (dLoc 0)))) (dOr (dCm0 .eq (dLoc 1)) (dCmp .eq (dLoc 1) (dInt 1))))))
  (dRet (dCon (dAnd (dAnd (dCm0 .ne (dLoc 4)) (dCm0 .ge (dLoc 2))) (dCmp .le (dLoc 2) (dInt 99))) (dCal wC ci_X1_addGrave (dA1 (dA1 (dA1 (dA1 dA0 (dFld wC 10 13 (dLoc 0))) (dLoc 1)) (dLoc 2)) (dLoc 3))) (dInt (-1))))) := by simp only [a_X10_grave, p_sSet, p_sInc, p_sPutF, p_sUpdF, p_sPutA, p_sUpdA, sDo, p_sCpy, p_sSeq, p_sIf, p_sIfE, p_sWh, p_sRet, p_sReV, p_sBlk, p_sSw, p_wDf, p_wCs, p_eInt, p_eLng, p_eNll, p_eStr, p_eSta, p_eLoc, p_eBin, p_eDiv, p_eI2L, p_eL2I, p_eFld, p_eAr, p_eRo, p_eLen, eCal, p_eMt, p_eAbs, p_eBo, p_eCon, p_aA0, p_aA1, p_oCmp, p_oCm0, p_oCmpL, p_oNul, p_oAnd, p_oOr, p_oNot]
  exact congrArg (fun z => fin false (z [v0, v1, v2, v3, 0] M)) h
noncomputable def wc1_X1_couldDig : CoD := (dAnd (dCmp .lt (dLoc 3) (dFld wC 1 6 (dLoc 0))) (dCmp .lt (dLoc 3) (dLen wC 1 (dFld wC 1 4 (dLoc 0)))))
noncomputable def wb1_X1_couldDig : StD := (dSeq (dSeq (dSet 4 (dCal wC ci_X2_get (dA1 (dA1 (dA1 dA0 (dLoc 1)) (dLoc 2)) (dCon (dCm0 .eq (dCal wC ci_X10_at (dA1 (dA1 dA0 (dFld wC 1 2 (dLoc 0))) (dLoc 3)))) (dInt 4) (dInt 0)))))
  (dIf (dCmp .ne (dBo (dCmp .ge (dLoc 4) (dCal wC ci_X10_at (dA1 (dA1 dA0 (dFld wC 1 3 (dLoc 0))) (dLoc 3))))) (dAr wC 1 (dFld wC 1 4 (dLoc 0)) (dLoc 3))) (dRet (dInt 0))))
  (dInc 3 1))
set_option maxRecDepth 100000 in
theorem u_X1_couldDig (v0 v1 v2 : Int) (M : Mem) : ci_X1_couldDig.2.2.2.2 [v0, v1, v2] M = fin true ((dSeq (dSeq (dSet 3 (dInt 0))
  (dWh (wc1_X1_couldDig) (wb1_X1_couldDig)))
  (dRet (dInt 1))) [v0, v1, v2, 0, 0] M) := by
  have h : a_X1_couldDig.1.1 = (dSeq (dSeq (dSet 3 (dInt 0))
  (dWh (wc1_X1_couldDig) (wb1_X1_couldDig)))
  (dRet (dInt 1))) := by simp only [a_X1_couldDig, wc1_X1_couldDig, wb1_X1_couldDig, p_sSet, p_sInc, p_sPutF, p_sUpdF, p_sPutA, p_sUpdA, sDo, p_sCpy, p_sSeq, p_sIf, p_sIfE, p_sWh, p_sRet, p_sReV, p_sBlk, p_sSw, p_wDf, p_wCs, p_eInt, p_eLng, p_eNll, p_eStr, p_eSta, p_eLoc, p_eBin, p_eDiv, p_eI2L, p_eL2I, p_eFld, p_eAr, p_eRo, p_eLen, eCal, p_eMt, p_eAbs, p_eBo, p_eCon, p_aA0, p_aA1, p_oCmp, p_oCm0, p_oCmpL, p_oNul, p_oAnd, p_oOr, p_oNot]
  exact congrArg (fun z => fin true (z [v0, v1, v2, 0, 0] M)) h
noncomputable def wc1_X1_diggers : CoD := (dCmp .lt (dLoc 3) (dFld wC 2 1 (dLoc 1)))
noncomputable def wb1_X1_diggers : StD := (dSeq (dIf (dCm0 .ne (dCal wC ci_X1_couldDig (dA1 (dA1 (dA1 dA0 (dLoc 0)) (dLoc 1)) (dLoc 3)))) (dSet 2 (dBin (opF 4) (dLoc 2) (dBin (opF 6) (dInt 1) (dLoc 3)))))
  (dInc 3 1))
set_option maxRecDepth 100000 in
theorem u_X1_diggers (v0 v1 : Int) (M : Mem) : ci_X1_diggers.2.2.2.2 [v0, v1] M = fin false ((dSeq (dSet 2 (dInt 0))
  (dSeq (dSeq (dSet 3 (dInt 0))
  (dWh (wc1_X1_diggers) (wb1_X1_diggers)))
  (dRet (dLoc 2)))) [v0, v1, 0, 0] M) := by
  have h : a_X1_diggers.1.1 = (dSeq (dSet 2 (dInt 0))
  (dSeq (dSeq (dSet 3 (dInt 0))
  (dWh (wc1_X1_diggers) (wb1_X1_diggers)))
  (dRet (dLoc 2)))) := by simp only [a_X1_diggers, wc1_X1_diggers, wb1_X1_diggers, p_sSet, p_sInc, p_sPutF, p_sUpdF, p_sPutA, p_sUpdA, sDo, p_sCpy, p_sSeq, p_sIf, p_sIfE, p_sWh, p_sRet, p_sReV, p_sBlk, p_sSw, p_wDf, p_wCs, p_eInt, p_eLng, p_eNll, p_eStr, p_eSta, p_eLoc, p_eBin, p_eDiv, p_eI2L, p_eL2I, p_eFld, p_eAr, p_eRo, p_eLen, eCal, p_eMt, p_eAbs, p_eBo, p_eCon, p_aA0, p_aA1, p_oCmp, p_oCm0, p_oCmpL, p_oNul, p_oAnd, p_oOr, p_oNot]
  exact congrArg (fun z => fin false (z [v0, v1, 0, 0] M)) h
set_option maxRecDepth 100000 in
theorem u_X10_dug (v0 : Int) (M : Mem) : ci_X10_dug.2.2.2.2 [v0] M = fin false ((dRet (dCon (dCm0 .ne (dCal wC ci_X10_isTold (dA1 dA0 (dLoc 0)))) (dCal wC ci_X1_diggers (dA1 (dA1 dA0 (dFld wC 10 13 (dLoc 0))) (dFld wC 10 5 (dLoc 0)))) (dInt (-1)))) [v0] M) := by
  have h : a_X10_dug.1.1 = (dRet (dCon (dCm0 .ne (dCal wC ci_X10_isTold (dA1 dA0 (dLoc 0)))) (dCal wC ci_X1_diggers (dA1 (dA1 dA0 (dFld wC 10 13 (dLoc 0))) (dFld wC 10 5 (dLoc 0)))) (dInt (-1)))) := by simp only [a_X10_dug, p_sSet, p_sInc, p_sPutF, p_sUpdF, p_sPutA, p_sUpdA, sDo, p_sCpy, p_sSeq, p_sIf, p_sIfE, p_sWh, p_sRet, p_sReV, p_sBlk, p_sSw, p_wDf, p_wCs, p_eInt, p_eLng, p_eNll, p_eStr, p_eSta, p_eLoc, p_eBin, p_eDiv, p_eI2L, p_eL2I, p_eFld, p_eAr, p_eRo, p_eLen, eCal, p_eMt, p_eAbs, p_eBo, p_eCon, p_aA0, p_aA1, p_oCmp, p_oCm0, p_oCmpL, p_oNul, p_oAnd, p_oOr, p_oNot]
  exact congrArg (fun z => fin false (z [v0] M)) h
set_option maxRecDepth 100000 in
theorem u_X7_hoursTo (v0 v1 : Int) (M : Mem) : ci_X7_hoursTo.2.2.2.2 [v0, v1] M = fin false ((dRet (dCon (dAnd (dCm0 .ge (dLoc 1)) (dCmp .lt (dLoc 1) (dLen wC 0 (dFld wC 7 1 (dLoc 0))))) (dAr wC 0 (dFld wC 7 1 (dLoc 0)) (dLoc 1)) (dInt (-1)))) [v0, v1] M) := by
  have h : a_X7_hoursTo.1.1 = (dRet (dCon (dAnd (dCm0 .ge (dLoc 1)) (dCmp .lt (dLoc 1) (dLen wC 0 (dFld wC 7 1 (dLoc 0))))) (dAr wC 0 (dFld wC 7 1 (dLoc 0)) (dLoc 1)) (dInt (-1)))) := by simp only [a_X7_hoursTo, p_sSet, p_sInc, p_sPutF, p_sUpdF, p_sPutA, p_sUpdA, sDo, p_sCpy, p_sSeq, p_sIf, p_sIfE, p_sWh, p_sRet, p_sReV, p_sBlk, p_sSw, p_wDf, p_wCs, p_eInt, p_eLng, p_eNll, p_eStr, p_eSta, p_eLoc, p_eBin, p_eDiv, p_eI2L, p_eL2I, p_eFld, p_eAr, p_eRo, p_eLen, eCal, p_eMt, p_eAbs, p_eBo, p_eCon, p_aA0, p_aA1, p_oCmp, p_oCm0, p_oCmpL, p_oNul, p_oAnd, p_oOr, p_oNot]
  exact congrArg (fun z => fin false (z [v0, v1] M)) h
set_option maxRecDepth 100000 in
theorem u_X10_flight (v0 v1 : Int) (M : Mem) : ci_X10_flight.2.2.2.2 [v0, v1] M = fin false ((dRet (dCon (dCm0 .ne (dCal wC ci_X10_isTold (dA1 dA0 (dLoc 0)))) (dCal wC ci_X7_hoursTo (dA1 (dA1 dA0 (dFld wC 10 12 (dLoc 0))) (dLoc 1))) (dInt (-1)))) [v0, v1] M) := by
  have h : a_X10_flight.1.1 = (dRet (dCon (dCm0 .ne (dCal wC ci_X10_isTold (dA1 dA0 (dLoc 0)))) (dCal wC ci_X7_hoursTo (dA1 (dA1 dA0 (dFld wC 10 12 (dLoc 0))) (dLoc 1))) (dInt (-1)))) := by simp only [a_X10_flight, p_sSet, p_sInc, p_sPutF, p_sUpdF, p_sPutA, p_sUpdA, sDo, p_sCpy, p_sSeq, p_sIf, p_sIfE, p_sWh, p_sRet, p_sReV, p_sBlk, p_sSw, p_wDf, p_wCs, p_eInt, p_eLng, p_eNll, p_eStr, p_eSta, p_eLoc, p_eBin, p_eDiv, p_eI2L, p_eL2I, p_eFld, p_eAr, p_eRo, p_eLen, eCal, p_eMt, p_eAbs, p_eBo, p_eCon, p_aA0, p_aA1, p_oCmp, p_oCm0, p_oCmpL, p_oNul, p_oAnd, p_oOr, p_oNot]
  exact congrArg (fun z => fin false (z [v0, v1] M)) h
noncomputable def wc1_X10_reach : CoD := (dCmp .lt (dLoc 2) (dInt 6))
noncomputable def wb1_X10_reach : StD := (dSeq (dSeq (dSet 3 (dCal wC ci_X7_hoursTo (dA1 (dA1 dA0 (dFld wC 10 12 (dLoc 0))) (dLoc 2))))
  (dIf (dAnd (dCmp .ne (dLoc 3) (dInt (-1))) (dCmp .le (dBin (opF 2) (dInt 2) (dLoc 3)) (dCal wC ci_X10_at (dA1 (dA1 dA0 (dFld wC 10 4 (dLoc 0))) (dInt 2))))) (dSet 1 (dBin (opF 4) (dLoc 1) (dBin (opF 6) (dInt 1) (dLoc 2))))))
  (dInc 2 1))
set_option maxRecDepth 100000 in
theorem u_X10_reach (v0 : Int) (M : Mem) : ci_X10_reach.2.2.2.2 [v0] M = fin false ((dSeq (dIf (dNot (dCm0 .ne (dCal wC ci_X10_isTold (dA1 dA0 (dLoc 0))))) (dRet (dInt (-1))))
  (dSeq (dSet 1 (dInt 0))
  (dSeq (dSeq (dSet 2 (dInt 0))
  (dWh (wc1_X10_reach) (wb1_X10_reach)))
  (dRet (dLoc 1))))) [v0, 0, 0, 0] M) := by
  have h : a_X10_reach.1.1 = (dSeq (dIf (dNot (dCm0 .ne (dCal wC ci_X10_isTold (dA1 dA0 (dLoc 0))))) (dRet (dInt (-1))))
  (dSeq (dSet 1 (dInt 0))
  (dSeq (dSeq (dSet 2 (dInt 0))
  (dWh (wc1_X10_reach) (wb1_X10_reach)))
  (dRet (dLoc 1))))) := by simp only [a_X10_reach, wc1_X10_reach, wb1_X10_reach, p_sSet, p_sInc, p_sPutF, p_sUpdF, p_sPutA, p_sUpdA, sDo, p_sCpy, p_sSeq, p_sIf, p_sIfE, p_sWh, p_sRet, p_sReV, p_sBlk, p_sSw, p_wDf, p_wCs, p_eInt, p_eLng, p_eNll, p_eStr, p_eSta, p_eLoc, p_eBin, p_eDiv, p_eI2L, p_eL2I, p_eFld, p_eAr, p_eRo, p_eLen, eCal, p_eMt, p_eAbs, p_eBo, p_eCon, p_aA0, p_aA1, p_oCmp, p_oCm0, p_oCmpL, p_oNul, p_oAnd, p_oOr, p_oNot]
  exact congrArg (fun z => fin false (z [v0, 0, 0, 0] M)) h
noncomputable def wc1_X2_fewestWith : CoD := (dCmp .lt (dLoc 4) (dBin (opF 6) (dInt 1) (dFld wC 2 1 (dLoc 0))))
noncomputable def wb1_X2_fewestWith : StD := (dSeq (dSeq (dSet 5 (dBo (dOr (dCmp .eq (dLoc 3) (dInt (-1))) (dCmp .lt (dCal wC ci_J6_bitCount_0f7a4C (dA1 dA0 (dLoc 4))) (dCal wC ci_J6_bitCount_0f7a4C (dA1 dA0 (dLoc 3)))))))
  (dIf (dAnd (dAnd (dCm0 .ne (dLoc 5)) (dCm0 .eq (dBin (opF 3) (dLoc 4) (dBin (opF 5) (dLoc 2) (dInt (-1)))))) (dCmp .ge (dCal wC ci_X2_artOf (dA1 (dA1 dA0 (dLoc 0)) (dLoc 4))) (dLoc 1))) (dSet 3 (dLoc 4))))
  (dInc 4 1))
set_option maxRecDepth 100000 in
theorem u_X2_fewestWith (v0 v1 : Int) (M : Mem) : ci_X2_fewestWith.2.2.2.2 [v0, v1] M = fin false ((dSeq (dSet 2 (dCal wC ci_X2_living (dA1 dA0 (dLoc 0))))
  (dSeq (dSet 3 (dInt (-1)))
  (dSeq (dSeq (dSet 4 (dInt 1))
  (dWh (wc1_X2_fewestWith) (wb1_X2_fewestWith)))
  (dRet (dLoc 3))))) [v0, v1, 0, 0, 0, 0] M) := by
  have h : a_X2_fewestWith.1.1 = (dSeq (dSet 2 (dCal wC ci_X2_living (dA1 dA0 (dLoc 0))))
  (dSeq (dSet 3 (dInt (-1)))
  (dSeq (dSeq (dSet 4 (dInt 1))
  (dWh (wc1_X2_fewestWith) (wb1_X2_fewestWith)))
  (dRet (dLoc 3))))) := by simp only [a_X2_fewestWith, wc1_X2_fewestWith, wb1_X2_fewestWith, p_sSet, p_sInc, p_sPutF, p_sUpdF, p_sPutA, p_sUpdA, sDo, p_sCpy, p_sSeq, p_sIf, p_sIfE, p_sWh, p_sRet, p_sReV, p_sBlk, p_sSw, p_wDf, p_wCs, p_eInt, p_eLng, p_eNll, p_eStr, p_eSta, p_eLoc, p_eBin, p_eDiv, p_eI2L, p_eL2I, p_eFld, p_eAr, p_eRo, p_eLen, eCal, p_eMt, p_eAbs, p_eBo, p_eCon, p_aA0, p_aA1, p_oCmp, p_oCm0, p_oCmpL, p_oNul, p_oAnd, p_oOr, p_oNot]
  exact congrArg (fun z => fin false (z [v0, v1, 0, 0, 0, 0] M)) h
set_option maxRecDepth 100000 in
theorem u_X10_dare (v0 : Int) (M : Mem) : ci_X10_dare.2.2.2.2 [v0] M = fin false ((dRet (dCon (dCm0 .ne (dCal wC ci_X10_isTold (dA1 dA0 (dLoc 0)))) (dCal wC ci_X2_fewestWith (dA1 (dA1 dA0 (dFld wC 10 5 (dLoc 0))) (dCal wC ci_X10_at (dA1 (dA1 dA0 (dFld wC 10 4 (dLoc 0))) (dInt 0))))) (dInt (-1)))) [v0] M) := by
  have h : a_X10_dare.1.1 = (dRet (dCon (dCm0 .ne (dCal wC ci_X10_isTold (dA1 dA0 (dLoc 0)))) (dCal wC ci_X2_fewestWith (dA1 (dA1 dA0 (dFld wC 10 5 (dLoc 0))) (dCal wC ci_X10_at (dA1 (dA1 dA0 (dFld wC 10 4 (dLoc 0))) (dInt 0))))) (dInt (-1)))) := by simp only [a_X10_dare, p_sSet, p_sInc, p_sPutF, p_sUpdF, p_sPutA, p_sUpdA, sDo, p_sCpy, p_sSeq, p_sIf, p_sIfE, p_sWh, p_sRet, p_sReV, p_sBlk, p_sSw, p_wDf, p_wCs, p_eInt, p_eLng, p_eNll, p_eStr, p_eSta, p_eLoc, p_eBin, p_eDiv, p_eI2L, p_eL2I, p_eFld, p_eAr, p_eRo, p_eLen, eCal, p_eMt, p_eAbs, p_eBo, p_eCon, p_aA0, p_aA1, p_oCmp, p_oCm0, p_oCmpL, p_oNul, p_oAnd, p_oOr, p_oNot]
  exact congrArg (fun z => fin false (z [v0] M)) h
noncomputable def wc1_X2_turningOrders : CoD := (dCmp .lt (dLoc 6) (dBin (opF 6) (dInt 1) (dFld wC 2 1 (dLoc 0))))
noncomputable def wb1_X2_turningOrders : StD := (dSeq (dSeq (dSet 7 (dCal wC ci_X2_artOf (dA1 (dA1 dA0 (dLoc 0)) (dLoc 6))))
  (dIf (dAnd (dAnd (dCm0 .eq (dBin (opF 3) (dLoc 6) (dBin (opF 5) (dLoc 3) (dInt (-1))))) (dCmp .lt (dLoc 7) (dLoc 2))) (dCmp .ge (dBin (opF 0) (dLoc 7) (dCal wC ci_X2_get (dA1 (dA1 (dA1 dA0 (dLoc 0)) (dLoc 1)) (dInt 0)))) (dLoc 2))) (dSeq (dSet 8 (dCal wC ci_J6_bitCount_0f7a4C (dA1 dA0 (dLoc 6))))
  (dSet 5 (dBin (opF 0) (dLoc 5) (dBin (opF 2) (dCal wC ci_X10_at (dA1 (dA1 dA0 (dInt ((61 : Nat) : Int))) (dLoc 8))) (dCal wC ci_X10_at (dA1 (dA1 dA0 (dInt ((61 : Nat) : Int))) (dBin (opF 1) (dLoc 4) (dLoc 8))))))))))
  (dInc 6 1))
set_option maxRecDepth 100000 in
theorem u_X2_turningOrders (v0 v1 v2 : Int) (M : Mem) : ci_X2_turningOrders.2.2.2.2 [v0, v1, v2] M = fin false ((dSeq (dSet 3 (dBin (opF 3) (dCal wC ci_X2_living (dA1 dA0 (dLoc 0))) (dBin (opF 5) (dBin (opF 6) (dInt 1) (dLoc 1)) (dInt (-1)))))
  (dSeq (dSet 4 (dCal wC ci_J6_bitCount_0f7a4C (dA1 dA0 (dLoc 3))))
  (dSeq (dSet 5 (dInt 0))
  (dSeq (dSeq (dSet 6 (dInt 0))
  (dWh (wc1_X2_turningOrders) (wb1_X2_turningOrders)))
  (dRet (dLoc 5)))))) [v0, v1, v2, 0, 0, 0, 0, 0, 0] M) := by
  have h : a_X2_turningOrders.1.1 = (dSeq (dSet 3 (dBin (opF 3) (dCal wC ci_X2_living (dA1 dA0 (dLoc 0))) (dBin (opF 5) (dBin (opF 6) (dInt 1) (dLoc 1)) (dInt (-1)))))
  (dSeq (dSet 4 (dCal wC ci_J6_bitCount_0f7a4C (dA1 dA0 (dLoc 3))))
  (dSeq (dSet 5 (dInt 0))
  (dSeq (dSeq (dSet 6 (dInt 0))
  (dWh (wc1_X2_turningOrders) (wb1_X2_turningOrders)))
  (dRet (dLoc 5)))))) := by simp only [a_X2_turningOrders, wc1_X2_turningOrders, wb1_X2_turningOrders, p_sSet, p_sInc, p_sPutF, p_sUpdF, p_sPutA, p_sUpdA, sDo, p_sCpy, p_sSeq, p_sIf, p_sIfE, p_sWh, p_sRet, p_sReV, p_sBlk, p_sSw, p_wDf, p_wCs, p_eInt, p_eLng, p_eNll, p_eStr, p_eSta, p_eLoc, p_eBin, p_eDiv, p_eI2L, p_eL2I, p_eFld, p_eAr, p_eRo, p_eLen, eCal, p_eMt, p_eAbs, p_eBo, p_eCon, p_aA0, p_aA1, p_oCmp, p_oCm0, p_oCmpL, p_oNul, p_oAnd, p_oOr, p_oNot]
  exact congrArg (fun z => fin false (z [v0, v1, v2, 0, 0, 0, 0, 0, 0] M)) h
set_option maxRecDepth 100000 in
theorem u_X10_shares (v0 v1 : Int) (M : Mem) : ci_X10_shares.2.2.2.2 [v0, v1] M = fin false ((dSeq (dIf (dOr (dNot (dCm0 .ne (dCal wC ci_X2_lives (dA1 (dA1 dA0 (dFld wC 10 5 (dLoc 0))) (dLoc 1))))) (dCmp .gt (dCal wC ci_X2_manyLive (dA1 dA0 (dFld wC 10 5 (dLoc 0)))) (dInt 5))) (dRet (dInt (-1000000))))
  (dRet (dCal wC ci_X2_turningOrders (dA1 (dA1 (dA1 dA0 (dFld wC 10 5 (dLoc 0))) (dLoc 1)) (dCal wC ci_X10_at (dA1 (dA1 dA0 (dFld wC 10 4 (dLoc 0))) (dInt 0))))))) [v0, v1] M) := by
  have h : a_X10_shares.1.1 = (dSeq (dIf (dOr (dNot (dCm0 .ne (dCal wC ci_X2_lives (dA1 (dA1 dA0 (dFld wC 10 5 (dLoc 0))) (dLoc 1))))) (dCmp .gt (dCal wC ci_X2_manyLive (dA1 dA0 (dFld wC 10 5 (dLoc 0)))) (dInt 5))) (dRet (dInt (-1000000))))
  (dRet (dCal wC ci_X2_turningOrders (dA1 (dA1 (dA1 dA0 (dFld wC 10 5 (dLoc 0))) (dLoc 1)) (dCal wC ci_X10_at (dA1 (dA1 dA0 (dFld wC 10 4 (dLoc 0))) (dInt 0))))))) := by simp only [a_X10_shares, p_sSet, p_sInc, p_sPutF, p_sUpdF, p_sPutA, p_sUpdA, sDo, p_sCpy, p_sSeq, p_sIf, p_sIfE, p_sWh, p_sRet, p_sReV, p_sBlk, p_sSw, p_wDf, p_wCs, p_eInt, p_eLng, p_eNll, p_eStr, p_eSta, p_eLoc, p_eBin, p_eDiv, p_eI2L, p_eL2I, p_eFld, p_eAr, p_eRo, p_eLen, eCal, p_eMt, p_eAbs, p_eBo, p_eCon, p_aA0, p_aA1, p_oCmp, p_oCm0, p_oCmpL, p_oNul, p_oAnd, p_oOr, p_oNot]
  exact congrArg (fun z => fin false (z [v0, v1] M)) h
set_option maxRecDepth 100000 in
theorem u_X10_canPlay (v0 v1 v2 : Int) (M : Mem) : ci_X10_canPlay.2.2.2.2 [v0, v1, v2] M = fin true ((dRet (dBo (dAnd (dAnd (dCmp .ne (dLoc 1) (dLoc 2)) (dCm0 .ne (dCal wC ci_X2_lives (dA1 (dA1 dA0 (dFld wC 10 5 (dLoc 0))) (dLoc 1))))) (dCm0 .ne (dCal wC ci_X2_lives (dA1 (dA1 dA0 (dFld wC 10 5 (dLoc 0))) (dLoc 2))))))) [v0, v1, v2] M) := by
  have h : a_X10_canPlay.1.1 = (dRet (dBo (dAnd (dAnd (dCmp .ne (dLoc 1) (dLoc 2)) (dCm0 .ne (dCal wC ci_X2_lives (dA1 (dA1 dA0 (dFld wC 10 5 (dLoc 0))) (dLoc 1))))) (dCm0 .ne (dCal wC ci_X2_lives (dA1 (dA1 dA0 (dFld wC 10 5 (dLoc 0))) (dLoc 2))))))) := by simp only [a_X10_canPlay, p_sSet, p_sInc, p_sPutF, p_sUpdF, p_sPutA, p_sUpdA, sDo, p_sCpy, p_sSeq, p_sIf, p_sIfE, p_sWh, p_sRet, p_sReV, p_sBlk, p_sSw, p_wDf, p_wCs, p_eInt, p_eLng, p_eNll, p_eStr, p_eSta, p_eLoc, p_eBin, p_eDiv, p_eI2L, p_eL2I, p_eFld, p_eAr, p_eRo, p_eLen, eCal, p_eMt, p_eAbs, p_eBo, p_eCon, p_aA0, p_aA1, p_oCmp, p_oCm0, p_oCmpL, p_oNul, p_oAnd, p_oOr, p_oNot]
  exact congrArg (fun z => fin true (z [v0, v1, v2] M)) h
set_option maxRecDepth 100000 in
theorem u_X10_played (v0 v1 v2 v3 v4 v5 : Int) (M : Mem) : ci_X10_played.2.2.2.2 [v0, v1, v2, v3, v4, v5] M = fin false ((dSeq (dDo wC ci_X2_copy (dA1 (dA1 dA0 (dFld wC 10 6 (dLoc 0))) (dFld wC 10 5 (dLoc 0))))
  (dSeq (dDo wC ci_X2_set (dA1 (dA1 (dA1 (dA1 dA0 (dFld wC 10 6 (dLoc 0))) (dLoc 1)) (dInt 1)) (dCon (dCmp .eq (dLoc 3) (dInt 1)) (dCal wC ci_X2_get (dA1 (dA1 (dA1 dA0 (dFld wC 10 6 (dLoc 0))) (dLoc 1)) (dInt 0))) (dInt 0))))
  (dSeq (dDo wC ci_X2_set (dA1 (dA1 (dA1 (dA1 dA0 (dFld wC 10 6 (dLoc 0))) (dLoc 2)) (dInt 1)) (dCon (dCmp .eq (dLoc 4) (dInt 1)) (dCal wC ci_X2_get (dA1 (dA1 (dA1 dA0 (dFld wC 10 6 (dLoc 0))) (dLoc 2)) (dInt 0))) (dInt 0))))
  (dSeq (dSet 6 (dCon (dCm0 .eq (dLoc 5)) (dLoc 1) (dLoc 2)))
  (dSeq (dSet 7 (dCal wC ci_X4_lessonOf (dA1 (dA1 (dA1 (dA1 dA0 (dFld wC 10 3 (dLoc 0))) (dFld wC 10 6 (dLoc 0))) (dLoc 6)) (dCal wC ci_X2_manyLive (dA1 dA0 (dFld wC 10 6 (dLoc 0)))))))
  (dRet (dCon (dCmp .eq (dCal wC ci_X2_mostFeared (dA1 (dA1 dA0 (dFld wC 10 6 (dLoc 0))) (dCal wC ci_X2_living (dA1 dA0 (dFld wC 10 6 (dLoc 0)))))) (dLoc 6)) (dBin (opF 1) (dLoc 7) (dInt 50)) (dLoc 7)))))))) [v0, v1, v2, v3, v4, v5, 0, 0] M) := by
  have h : a_X10_played.1.1 = (dSeq (dDo wC ci_X2_copy (dA1 (dA1 dA0 (dFld wC 10 6 (dLoc 0))) (dFld wC 10 5 (dLoc 0))))
  (dSeq (dDo wC ci_X2_set (dA1 (dA1 (dA1 (dA1 dA0 (dFld wC 10 6 (dLoc 0))) (dLoc 1)) (dInt 1)) (dCon (dCmp .eq (dLoc 3) (dInt 1)) (dCal wC ci_X2_get (dA1 (dA1 (dA1 dA0 (dFld wC 10 6 (dLoc 0))) (dLoc 1)) (dInt 0))) (dInt 0))))
  (dSeq (dDo wC ci_X2_set (dA1 (dA1 (dA1 (dA1 dA0 (dFld wC 10 6 (dLoc 0))) (dLoc 2)) (dInt 1)) (dCon (dCmp .eq (dLoc 4) (dInt 1)) (dCal wC ci_X2_get (dA1 (dA1 (dA1 dA0 (dFld wC 10 6 (dLoc 0))) (dLoc 2)) (dInt 0))) (dInt 0))))
  (dSeq (dSet 6 (dCon (dCm0 .eq (dLoc 5)) (dLoc 1) (dLoc 2)))
  (dSeq (dSet 7 (dCal wC ci_X4_lessonOf (dA1 (dA1 (dA1 (dA1 dA0 (dFld wC 10 3 (dLoc 0))) (dFld wC 10 6 (dLoc 0))) (dLoc 6)) (dCal wC ci_X2_manyLive (dA1 dA0 (dFld wC 10 6 (dLoc 0)))))))
  (dRet (dCon (dCmp .eq (dCal wC ci_X2_mostFeared (dA1 (dA1 dA0 (dFld wC 10 6 (dLoc 0))) (dCal wC ci_X2_living (dA1 dA0 (dFld wC 10 6 (dLoc 0)))))) (dLoc 6)) (dBin (opF 1) (dLoc 7) (dInt 50)) (dLoc 7)))))))) := by simp only [a_X10_played, p_sSet, p_sInc, p_sPutF, p_sUpdF, p_sPutA, p_sUpdA, sDo, p_sCpy, p_sSeq, p_sIf, p_sIfE, p_sWh, p_sRet, p_sReV, p_sBlk, p_sSw, p_wDf, p_wCs, p_eInt, p_eLng, p_eNll, p_eStr, p_eSta, p_eLoc, p_eBin, p_eDiv, p_eI2L, p_eL2I, p_eFld, p_eAr, p_eRo, p_eLen, eCal, p_eMt, p_eAbs, p_eBo, p_eCon, p_aA0, p_aA1, p_oCmp, p_oCm0, p_oCmpL, p_oNul, p_oAnd, p_oOr, p_oNot]
  exact congrArg (fun z => fin false (z [v0, v1, v2, v3, v4, v5, 0, 0] M)) h
set_option maxRecDepth 100000 in
theorem u_X10_game (v0 v1 v2 v3 v4 v5 : Int) (M : Mem) : ci_X10_game.2.2.2.2 [v0, v1, v2, v3, v4, v5] M = fin false ((dSeq (dIf (dOr (dOr (dOr (dOr (dOr (dOr (dNot (dCm0 .ne (dCal wC ci_X10_canPlay (dA1 (dA1 (dA1 dA0 (dLoc 0)) (dLoc 1)) (dLoc 2))))) (dCm0 .lt (dLoc 3))) (dCmp .gt (dLoc 3) (dInt 1))) (dCm0 .lt (dLoc 4))) (dCmp .gt (dLoc 4) (dInt 1))) (dCm0 .lt (dLoc 5))) (dCmp .gt (dLoc 5) (dInt 1))) (dRet (dInt (-1000000))))
  (dRet (dCal wC ci_X10_played (dA1 (dA1 (dA1 (dA1 (dA1 (dA1 dA0 (dLoc 0)) (dLoc 1)) (dLoc 2)) (dLoc 3)) (dLoc 4)) (dLoc 5))))) [v0, v1, v2, v3, v4, v5] M) := by
  have h : a_X10_game.1.1 = (dSeq (dIf (dOr (dOr (dOr (dOr (dOr (dOr (dNot (dCm0 .ne (dCal wC ci_X10_canPlay (dA1 (dA1 (dA1 dA0 (dLoc 0)) (dLoc 1)) (dLoc 2))))) (dCm0 .lt (dLoc 3))) (dCmp .gt (dLoc 3) (dInt 1))) (dCm0 .lt (dLoc 4))) (dCmp .gt (dLoc 4) (dInt 1))) (dCm0 .lt (dLoc 5))) (dCmp .gt (dLoc 5) (dInt 1))) (dRet (dInt (-1000000))))
  (dRet (dCal wC ci_X10_played (dA1 (dA1 (dA1 (dA1 (dA1 (dA1 dA0 (dLoc 0)) (dLoc 1)) (dLoc 2)) (dLoc 3)) (dLoc 4)) (dLoc 5))))) := by simp only [a_X10_game, p_sSet, p_sInc, p_sPutF, p_sUpdF, p_sPutA, p_sUpdA, sDo, p_sCpy, p_sSeq, p_sIf, p_sIfE, p_sWh, p_sRet, p_sReV, p_sBlk, p_sSw, p_wDf, p_wCs, p_eInt, p_eLng, p_eNll, p_eStr, p_eSta, p_eLoc, p_eBin, p_eDiv, p_eI2L, p_eL2I, p_eFld, p_eAr, p_eRo, p_eLen, eCal, p_eMt, p_eAbs, p_eBo, p_eCon, p_aA0, p_aA1, p_oCmp, p_oCm0, p_oCmpL, p_oNul, p_oAnd, p_oOr, p_oNot]
  exact congrArg (fun z => fin false (z [v0, v1, v2, v3, v4, v5] M)) h
set_option maxRecDepth 100000 in
theorem u_X10_isRest (v0 v1 v2 v3 v4 : Int) (M : Mem) : ci_X10_isRest.2.2.2.2 [v0, v1, v2, v3, v4] M = fin true ((dRet (dBo (dAnd (dCmp .ge (dCal wC ci_X10_played (dA1 (dA1 (dA1 (dA1 (dA1 (dA1 dA0 (dLoc 0)) (dLoc 1)) (dLoc 2)) (dLoc 3)) (dLoc 4)) (dInt 0))) (dCal wC ci_X10_played (dA1 (dA1 (dA1 (dA1 (dA1 (dA1 dA0 (dLoc 0)) (dLoc 1)) (dLoc 2)) (dBin (opF 1) (dInt 1) (dLoc 3))) (dLoc 4)) (dInt 0)))) (dCmp .ge (dCal wC ci_X10_played (dA1 (dA1 (dA1 (dA1 (dA1 (dA1 dA0 (dLoc 0)) (dLoc 1)) (dLoc 2)) (dLoc 3)) (dLoc 4)) (dInt 1))) (dCal wC ci_X10_played (dA1 (dA1 (dA1 (dA1 (dA1 (dA1 dA0 (dLoc 0)) (dLoc 1)) (dLoc 2)) (dLoc 3)) (dBin (opF 1) (dInt 1) (dLoc 4))) (dInt 1))))))) [v0, v1, v2, v3, v4] M) := by
  have h : a_X10_isRest.1.1 = (dRet (dBo (dAnd (dCmp .ge (dCal wC ci_X10_played (dA1 (dA1 (dA1 (dA1 (dA1 (dA1 dA0 (dLoc 0)) (dLoc 1)) (dLoc 2)) (dLoc 3)) (dLoc 4)) (dInt 0))) (dCal wC ci_X10_played (dA1 (dA1 (dA1 (dA1 (dA1 (dA1 dA0 (dLoc 0)) (dLoc 1)) (dLoc 2)) (dBin (opF 1) (dInt 1) (dLoc 3))) (dLoc 4)) (dInt 0)))) (dCmp .ge (dCal wC ci_X10_played (dA1 (dA1 (dA1 (dA1 (dA1 (dA1 dA0 (dLoc 0)) (dLoc 1)) (dLoc 2)) (dLoc 3)) (dLoc 4)) (dInt 1))) (dCal wC ci_X10_played (dA1 (dA1 (dA1 (dA1 (dA1 (dA1 dA0 (dLoc 0)) (dLoc 1)) (dLoc 2)) (dLoc 3)) (dBin (opF 1) (dInt 1) (dLoc 4))) (dInt 1))))))) := by simp only [a_X10_isRest, p_sSet, p_sInc, p_sPutF, p_sUpdF, p_sPutA, p_sUpdA, sDo, p_sCpy, p_sSeq, p_sIf, p_sIfE, p_sWh, p_sRet, p_sReV, p_sBlk, p_sSw, p_wDf, p_wCs, p_eInt, p_eLng, p_eNll, p_eStr, p_eSta, p_eLoc, p_eBin, p_eDiv, p_eI2L, p_eL2I, p_eFld, p_eAr, p_eRo, p_eLen, eCal, p_eMt, p_eAbs, p_eBo, p_eCon, p_aA0, p_aA1, p_oCmp, p_oCm0, p_oCmpL, p_oNul, p_oAnd, p_oOr, p_oNot]
  exact congrArg (fun z => fin true (z [v0, v1, v2, v3, v4] M)) h
noncomputable def wc1_X10_rests : CoD := (dCmp .lt (dLoc 5) (dInt 4))
noncomputable def wb1_X10_rests : StD := (dSeq (dSeq (dSet 6 (dDiv (dvF 0) (dvW 0) (dLoc 5) (dInt 2)))
  (dSeq (dSet 7 (dDiv (dvF 1) (dvW 1) (dLoc 5) (dInt 2)))
  (dIf (dCm0 .ne (dCal wC ci_X10_isRest (dA1 (dA1 (dA1 (dA1 (dA1 dA0 (dLoc 0)) (dLoc 1)) (dLoc 2)) (dLoc 6)) (dLoc 7)))) (dSeq (dIf (dCmp .eq (dLoc 4) (dLoc 3)) (dRet (dBin (opF 0) (dBin (opF 2) (dInt 10) (dLoc 6)) (dLoc 7))))
  (dInc 4 1)))))
  (dInc 5 1))
set_option maxRecDepth 100000 in
theorem u_X10_rests (v0 v1 v2 v3 : Int) (M : Mem) : ci_X10_rests.2.2.2.2 [v0, v1, v2, v3] M = fin false ((dSeq (dIf (dOr (dNot (dCm0 .ne (dCal wC ci_X10_canPlay (dA1 (dA1 (dA1 dA0 (dLoc 0)) (dLoc 1)) (dLoc 2))))) (dCmp .lt (dLoc 3) (dInt (-1)))) (dRet (dInt (-1))))
  (dSeq (dSet 4 (dInt 0))
  (dSeq (dSeq (dSet 5 (dInt 0))
  (dWh (wc1_X10_rests) (wb1_X10_rests)))
  (dRet (dCon (dCmp .eq (dLoc 3) (dInt (-1))) (dLoc 4) (dInt (-1))))))) [v0, v1, v2, v3, 0, 0, 0, 0] M) := by
  have h : a_X10_rests.1.1 = (dSeq (dIf (dOr (dNot (dCm0 .ne (dCal wC ci_X10_canPlay (dA1 (dA1 (dA1 dA0 (dLoc 0)) (dLoc 1)) (dLoc 2))))) (dCmp .lt (dLoc 3) (dInt (-1)))) (dRet (dInt (-1))))
  (dSeq (dSet 4 (dInt 0))
  (dSeq (dSeq (dSet 5 (dInt 0))
  (dWh (wc1_X10_rests) (wb1_X10_rests)))
  (dRet (dCon (dCmp .eq (dLoc 3) (dInt (-1))) (dLoc 4) (dInt (-1))))))) := by simp only [a_X10_rests, wc1_X10_rests, wb1_X10_rests, p_sSet, p_sInc, p_sPutF, p_sUpdF, p_sPutA, p_sUpdA, sDo, p_sCpy, p_sSeq, p_sIf, p_sIfE, p_sWh, p_sRet, p_sReV, p_sBlk, p_sSw, p_wDf, p_wCs, p_eInt, p_eLng, p_eNll, p_eStr, p_eSta, p_eLoc, p_eBin, p_eDiv, p_eI2L, p_eL2I, p_eFld, p_eAr, p_eRo, p_eLen, eCal, p_eMt, p_eAbs, p_eBo, p_eCon, p_aA0, p_aA1, p_oCmp, p_oCm0, p_oCmpL, p_oNul, p_oAnd, p_oOr, p_oNot]
  exact congrArg (fun z => fin false (z [v0, v1, v2, v3, 0, 0, 0, 0] M)) h
noncomputable def wc1_X2_mostOf : CoD := (dCmp .lt (dLoc 3) (dFld wC 2 1 (dLoc 0)))
noncomputable def wb1_X2_mostOf : StD := (dSeq (dIf (dAnd (dCm0 .ne (dCal wC ci_X2_lives (dA1 (dA1 dA0 (dLoc 0)) (dLoc 3)))) (dOr (dCmp .eq (dLoc 2) (dInt (-1))) (dCmp .gt (dCal wC ci_X2_get (dA1 (dA1 (dA1 dA0 (dLoc 0)) (dLoc 3)) (dLoc 1))) (dCal wC ci_X2_get (dA1 (dA1 (dA1 dA0 (dLoc 0)) (dLoc 2)) (dLoc 1)))))) (dSet 2 (dLoc 3)))
  (dInc 3 1))
set_option maxRecDepth 100000 in
theorem u_X2_mostOf (v0 v1 : Int) (M : Mem) : ci_X2_mostOf.2.2.2.2 [v0, v1] M = fin false ((dSeq (dSet 2 (dInt (-1)))
  (dSeq (dSeq (dSet 3 (dInt 0))
  (dWh (wc1_X2_mostOf) (wb1_X2_mostOf)))
  (dRet (dLoc 2)))) [v0, v1, 0, 0] M) := by
  have h : a_X2_mostOf.1.1 = (dSeq (dSet 2 (dInt (-1)))
  (dSeq (dSeq (dSet 3 (dInt 0))
  (dWh (wc1_X2_mostOf) (wb1_X2_mostOf)))
  (dRet (dLoc 2)))) := by simp only [a_X2_mostOf, wc1_X2_mostOf, wb1_X2_mostOf, p_sSet, p_sInc, p_sPutF, p_sUpdF, p_sPutA, p_sUpdA, sDo, p_sCpy, p_sSeq, p_sIf, p_sIfE, p_sWh, p_sRet, p_sReV, p_sBlk, p_sSw, p_wDf, p_wCs, p_eInt, p_eLng, p_eNll, p_eStr, p_eSta, p_eLoc, p_eBin, p_eDiv, p_eI2L, p_eL2I, p_eFld, p_eAr, p_eRo, p_eLen, eCal, p_eMt, p_eAbs, p_eBo, p_eCon, p_aA0, p_aA1, p_oCmp, p_oCm0, p_oCmpL, p_oNul, p_oAnd, p_oOr, p_oNot]
  exact congrArg (fun z => fin false (z [v0, v1, 0, 0] M)) h
set_option maxRecDepth 100000 in
theorem u_X10_ablest (v0 : Int) (M : Mem) : ci_X10_ablest.2.2.2.2 [v0] M = fin false ((dRet (dCal wC ci_X2_mostOf (dA1 (dA1 dA0 (dFld wC 10 5 (dLoc 0))) (dInt 0)))) [v0] M) := by
  have h : a_X10_ablest.1.1 = (dRet (dCal wC ci_X2_mostOf (dA1 (dA1 dA0 (dFld wC 10 5 (dLoc 0))) (dInt 0)))) := by simp only [a_X10_ablest, p_sSet, p_sInc, p_sPutF, p_sUpdF, p_sPutA, p_sUpdA, sDo, p_sCpy, p_sSeq, p_sIf, p_sIfE, p_sWh, p_sRet, p_sReV, p_sBlk, p_sSw, p_wDf, p_wCs, p_eInt, p_eLng, p_eNll, p_eStr, p_eSta, p_eLoc, p_eBin, p_eDiv, p_eI2L, p_eL2I, p_eFld, p_eAr, p_eRo, p_eLen, eCal, p_eMt, p_eAbs, p_eBo, p_eCon, p_aA0, p_aA1, p_oCmp, p_oCm0, p_oCmpL, p_oNul, p_oAnd, p_oOr, p_oNot]
  exact congrArg (fun z => fin false (z [v0] M)) h
set_option maxRecDepth 100000 in
theorem u_X10_oldest (v0 : Int) (M : Mem) : ci_X10_oldest.2.2.2.2 [v0] M = fin false ((dRet (dCal wC ci_X2_mostOf (dA1 (dA1 dA0 (dFld wC 10 5 (dLoc 0))) (dInt 4)))) [v0] M) := by
  have h : a_X10_oldest.1.1 = (dRet (dCal wC ci_X2_mostOf (dA1 (dA1 dA0 (dFld wC 10 5 (dLoc 0))) (dInt 4)))) := by simp only [a_X10_oldest, p_sSet, p_sInc, p_sPutF, p_sUpdF, p_sPutA, p_sUpdA, sDo, p_sCpy, p_sSeq, p_sIf, p_sIfE, p_sWh, p_sRet, p_sReV, p_sBlk, p_sSw, p_wDf, p_wCs, p_eInt, p_eLng, p_eNll, p_eStr, p_eSta, p_eLoc, p_eBin, p_eDiv, p_eI2L, p_eL2I, p_eFld, p_eAr, p_eRo, p_eLen, eCal, p_eMt, p_eAbs, p_eBo, p_eCon, p_aA0, p_aA1, p_oCmp, p_oCm0, p_oCmpL, p_oNul, p_oAnd, p_oOr, p_oNot]
  exact congrArg (fun z => fin false (z [v0] M)) h
set_option maxRecDepth 100000 in
theorem u_X10_hides (v0 v1 : Int) (M : Mem) : ci_X10_hides.2.2.2.2 [v0, v1] M = fin false ((dRet (dCon (dCm0 .ne (dCal wC ci_X2_lives (dA1 (dA1 dA0 (dFld wC 10 5 (dLoc 0))) (dLoc 1)))) (dBin (opF 1) (dCal wC ci_X2_get (dA1 (dA1 (dA1 dA0 (dFld wC 10 5 (dLoc 0))) (dLoc 1)) (dInt 0))) (dCal wC ci_X2_get (dA1 (dA1 (dA1 dA0 (dFld wC 10 5 (dLoc 0))) (dLoc 1)) (dInt 1)))) (dInt (-1)))) [v0, v1] M) := by
  have h : a_X10_hides.1.1 = (dRet (dCon (dCm0 .ne (dCal wC ci_X2_lives (dA1 (dA1 dA0 (dFld wC 10 5 (dLoc 0))) (dLoc 1)))) (dBin (opF 1) (dCal wC ci_X2_get (dA1 (dA1 (dA1 dA0 (dFld wC 10 5 (dLoc 0))) (dLoc 1)) (dInt 0))) (dCal wC ci_X2_get (dA1 (dA1 (dA1 dA0 (dFld wC 10 5 (dLoc 0))) (dLoc 1)) (dInt 1)))) (dInt (-1)))) := by simp only [a_X10_hides, p_sSet, p_sInc, p_sPutF, p_sUpdF, p_sPutA, p_sUpdA, sDo, p_sCpy, p_sSeq, p_sIf, p_sIfE, p_sWh, p_sRet, p_sReV, p_sBlk, p_sSw, p_wDf, p_wCs, p_eInt, p_eLng, p_eNll, p_eStr, p_eSta, p_eLoc, p_eBin, p_eDiv, p_eI2L, p_eL2I, p_eFld, p_eAr, p_eRo, p_eLen, eCal, p_eMt, p_eAbs, p_eBo, p_eCon, p_aA0, p_aA1, p_oCmp, p_oCm0, p_oCmpL, p_oNul, p_oAnd, p_oOr, p_oNot]
  exact congrArg (fun z => fin false (z [v0, v1] M)) h
noncomputable def wc1_X2_warned : CoD := (dCmp .lt (dLoc 2) (dFld wC 2 1 (dLoc 0)))
noncomputable def wb1_X2_warned : StD := (dSeq (dIf (dCm0 .ne (dCal wC ci_X2_get (dA1 (dA1 (dA1 dA0 (dLoc 0)) (dLoc 2)) (dInt 6)))) (dSet 1 (dBin (opF 4) (dLoc 1) (dBin (opF 6) (dInt 1) (dLoc 2)))))
  (dInc 2 1))
set_option maxRecDepth 100000 in
theorem u_X2_warned (v0 : Int) (M : Mem) : ci_X2_warned.2.2.2.2 [v0] M = fin false ((dSeq (dSet 1 (dInt 0))
  (dSeq (dSeq (dSet 2 (dInt 0))
  (dWh (wc1_X2_warned) (wb1_X2_warned)))
  (dRet (dLoc 1)))) [v0, 0, 0] M) := by
  have h : a_X2_warned.1.1 = (dSeq (dSet 1 (dInt 0))
  (dSeq (dSeq (dSet 2 (dInt 0))
  (dWh (wc1_X2_warned) (wb1_X2_warned)))
  (dRet (dLoc 1)))) := by simp only [a_X2_warned, wc1_X2_warned, wb1_X2_warned, p_sSet, p_sInc, p_sPutF, p_sUpdF, p_sPutA, p_sUpdA, sDo, p_sCpy, p_sSeq, p_sIf, p_sIfE, p_sWh, p_sRet, p_sReV, p_sBlk, p_sSw, p_wDf, p_wCs, p_eInt, p_eLng, p_eNll, p_eStr, p_eSta, p_eLoc, p_eBin, p_eDiv, p_eI2L, p_eL2I, p_eFld, p_eAr, p_eRo, p_eLen, eCal, p_eMt, p_eAbs, p_eBo, p_eCon, p_aA0, p_aA1, p_oCmp, p_oCm0, p_oCmpL, p_oNul, p_oAnd, p_oOr, p_oNot]
  exact congrArg (fun z => fin false (z [v0, 0, 0] M)) h
set_option maxRecDepth 100000 in
theorem u_X10_count (v0 v1 : Int) (M : Mem) : ci_X10_count.2.2.2.2 [v0, v1] M = fin false ((dSw (dLoc 1) (dCs 0 (dRet (dFld wC 2 1 (dFld wC 10 5 (dLoc 0))))
  (dCs 1 (dRet (dFld wC 7 2 (dFld wC 10 12 (dLoc 0))))
  (dCs 2 (dRet (dFld wC 4 5 (dFld wC 10 3 (dLoc 0))))
  (dCs 3 (dRet (dFld wC 8 1 (dFld wC 10 0 (dLoc 0))))
  (dCs 4 (dRet (dFld wC 4 6 (dFld wC 10 3 (dLoc 0))))
  (dCs 5 (dRet (dFld wC 2 2 (dFld wC 10 5 (dLoc 0))))
  (dCs 6 (dRet (dCal wC ci_X2_living (dA1 dA0 (dFld wC 10 5 (dLoc 0)))))
  (dCs 7 (dRet (dCal wC ci_X2_artOfAll (dA1 dA0 (dFld wC 10 5 (dLoc 0)))))
  (dCs 8 (dRet (dCal wC ci_X2_warned (dA1 dA0 (dFld wC 10 5 (dLoc 0)))))
  (dCs 9 (dRet (dFld wC 10 15 (dLoc 0)))
  (dCs 10 (dRet (dFld wC 1 5 (dFld wC 10 13 (dLoc 0))))
  (dCs 11 (dRet (dFld wC 1 6 (dFld wC 10 13 (dLoc 0))))
  (dCs 12 (dRet (dCal wC ci_X10_logLength (dA1 dA0 (dLoc 0))))
  (dCs 13 (dRet (dFld wC 0 3 (dFld wC 10 10 (dLoc 0))))
  (fun _ => (dRet (dInt (-1000000))))))))))))))))))) [v0, v1] M) := by
  have h : a_X10_count.1.1 = (dSw (dLoc 1) (dCs 0 (dRet (dFld wC 2 1 (dFld wC 10 5 (dLoc 0))))
  (dCs 1 (dRet (dFld wC 7 2 (dFld wC 10 12 (dLoc 0))))
  (dCs 2 (dRet (dFld wC 4 5 (dFld wC 10 3 (dLoc 0))))
  (dCs 3 (dRet (dFld wC 8 1 (dFld wC 10 0 (dLoc 0))))
  (dCs 4 (dRet (dFld wC 4 6 (dFld wC 10 3 (dLoc 0))))
  (dCs 5 (dRet (dFld wC 2 2 (dFld wC 10 5 (dLoc 0))))
  (dCs 6 (dRet (dCal wC ci_X2_living (dA1 dA0 (dFld wC 10 5 (dLoc 0)))))
  (dCs 7 (dRet (dCal wC ci_X2_artOfAll (dA1 dA0 (dFld wC 10 5 (dLoc 0)))))
  (dCs 8 (dRet (dCal wC ci_X2_warned (dA1 dA0 (dFld wC 10 5 (dLoc 0)))))
  (dCs 9 (dRet (dFld wC 10 15 (dLoc 0)))
  (dCs 10 (dRet (dFld wC 1 5 (dFld wC 10 13 (dLoc 0))))
  (dCs 11 (dRet (dFld wC 1 6 (dFld wC 10 13 (dLoc 0))))
  (dCs 12 (dRet (dCal wC ci_X10_logLength (dA1 dA0 (dLoc 0))))
  (dCs 13 (dRet (dFld wC 0 3 (dFld wC 10 10 (dLoc 0))))
  (fun _ => (dRet (dInt (-1000000))))))))))))))))))) := by simp only [a_X10_count, p_sSet, p_sInc, p_sPutF, p_sUpdF, p_sPutA, p_sUpdA, sDo, p_sCpy, p_sSeq, p_sIf, p_sIfE, p_sWh, p_sRet, p_sReV, p_sBlk, p_sSw, p_wDf, p_wCs, p_eInt, p_eLng, p_eNll, p_eStr, p_eSta, p_eLoc, p_eBin, p_eDiv, p_eI2L, p_eL2I, p_eFld, p_eAr, p_eRo, p_eLen, eCal, p_eMt, p_eAbs, p_eBo, p_eCon, p_aA0, p_aA1, p_oCmp, p_oCm0, p_oCmpL, p_oNul, p_oAnd, p_oOr, p_oNot]
  exact congrArg (fun z => fin false (z [v0, v1] M)) h
