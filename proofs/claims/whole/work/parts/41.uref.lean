/-! PART 41: what the reference's methods do, spelt out. -/
set_option maxRecDepth 100000 in
theorem u_J6_bitCount_0f7a4M (v0 : Int) (M : Mem) : ci_J6_bitCount_0f7a4M.2.2.2.2 [v0] M = fin false ((dSeq (dSet 0 (dBin (opF 1) (dLoc 0) (dBin (opF 3) (dBin (opF 8) (dLoc 0) (dInt 1)) (dInt 1431655765))))
  (dSeq (dSet 0 (dBin (opF 0) (dBin (opF 3) (dLoc 0) (dInt 858993459)) (dBin (opF 3) (dBin (opF 8) (dLoc 0) (dInt 2)) (dInt 858993459))))
  (dSeq (dSet 0 (dBin (opF 3) (dBin (opF 0) (dLoc 0) (dBin (opF 8) (dLoc 0) (dInt 4))) (dInt 252645135)))
  (dSeq (dSet 0 (dBin (opF 0) (dLoc 0) (dBin (opF 8) (dLoc 0) (dInt 8))))
  (dSeq (dSet 0 (dBin (opF 0) (dLoc 0) (dBin (opF 8) (dLoc 0) (dInt 16))))
  (dRet (dBin (opF 3) (dLoc 0) (dInt 63)))))))) [v0] M) := by
  have h : a_J6_bitCount_0f7a4M.1.1 = (dSeq (dSet 0 (dBin (opF 1) (dLoc 0) (dBin (opF 3) (dBin (opF 8) (dLoc 0) (dInt 1)) (dInt 1431655765))))
  (dSeq (dSet 0 (dBin (opF 0) (dBin (opF 3) (dLoc 0) (dInt 858993459)) (dBin (opF 3) (dBin (opF 8) (dLoc 0) (dInt 2)) (dInt 858993459))))
  (dSeq (dSet 0 (dBin (opF 3) (dBin (opF 0) (dLoc 0) (dBin (opF 8) (dLoc 0) (dInt 4))) (dInt 252645135)))
  (dSeq (dSet 0 (dBin (opF 0) (dLoc 0) (dBin (opF 8) (dLoc 0) (dInt 8))))
  (dSeq (dSet 0 (dBin (opF 0) (dLoc 0) (dBin (opF 8) (dLoc 0) (dInt 16))))
  (dRet (dBin (opF 3) (dLoc 0) (dInt 63)))))))) := by simp only [a_J6_bitCount_0f7a4M, p_sSet, p_sInc, p_sPutF, p_sUpdF, p_sPutA, p_sUpdA, sDo, p_sCpy, p_sSeq, p_sIf, p_sIfE, p_sWh, p_sRet, p_sReV, p_sBlk, p_sSw, p_wDf, p_wCs, p_eInt, p_eLng, p_eNll, p_eStr, p_eSta, p_eLoc, p_eBin, p_eDiv, p_eI2L, p_eL2I, p_eFld, p_eAr, p_eRo, p_eLen, eCal, p_eMt, p_eAbs, p_eBo, p_eCon, p_aA0, p_aA1, p_oCmp, p_oCm0, p_oCmpL, p_oNul, p_oAnd, p_oOr, p_oNot]
  exact congrArg (fun z => fin false (z [v0] M)) h
set_option maxRecDepth 100000 in
theorem u_X11_in (v0 v1 v2 : Int) (M : Mem) : ci_X11_in.2.2.2.2 [v0, v1, v2] M = fin true ((dRet (dBo (dAnd (dCmp .ge (dLoc 0) (dLoc 1)) (dCmp .le (dLoc 0) (dLoc 2))))) [v0, v1, v2] M) := by
  have h : a_X11_in.1.1 = (dRet (dBo (dAnd (dCmp .ge (dLoc 0) (dLoc 1)) (dCmp .le (dLoc 0) (dLoc 2))))) := by simp only [a_X11_in, p_sSet, p_sInc, p_sPutF, p_sUpdF, p_sPutA, p_sUpdA, sDo, p_sCpy, p_sSeq, p_sIf, p_sIfE, p_sWh, p_sRet, p_sReV, p_sBlk, p_sSw, p_wDf, p_wCs, p_eInt, p_eLng, p_eNll, p_eStr, p_eSta, p_eLoc, p_eBin, p_eDiv, p_eI2L, p_eL2I, p_eFld, p_eAr, p_eRo, p_eLen, eCal, p_eMt, p_eAbs, p_eBo, p_eCon, p_aA0, p_aA1, p_oCmp, p_oCm0, p_oCmpL, p_oNul, p_oAnd, p_oOr, p_oNot]
  exact congrArg (fun z => fin true (z [v0, v1, v2] M)) h
set_option maxRecDepth 100000 in
theorem u_X11_has (v0 v1 : Int) (M : Mem) : ci_X11_has.2.2.2.2 [v0, v1] M = fin true ((dRet (dBo (dCmp .eq (dBin (opF 3) (dBin (opF 7) (dLoc 0) (dLoc 1)) (dInt 1)) (dInt 1)))) [v0, v1] M) := by
  have h : a_X11_has.1.1 = (dRet (dBo (dCmp .eq (dBin (opF 3) (dBin (opF 7) (dLoc 0) (dLoc 1)) (dInt 1)) (dInt 1)))) := by simp only [a_X11_has, p_sSet, p_sInc, p_sPutF, p_sUpdF, p_sPutA, p_sUpdA, sDo, p_sCpy, p_sSeq, p_sIf, p_sIfE, p_sWh, p_sRet, p_sReV, p_sBlk, p_sSw, p_wDf, p_wCs, p_eInt, p_eLng, p_eNll, p_eStr, p_eSta, p_eLoc, p_eBin, p_eDiv, p_eI2L, p_eL2I, p_eFld, p_eAr, p_eRo, p_eLen, eCal, p_eMt, p_eAbs, p_eBo, p_eCon, p_aA0, p_aA1, p_oCmp, p_oCm0, p_oCmpL, p_oNul, p_oAnd, p_oOr, p_oNot]
  exact congrArg (fun z => fin true (z [v0, v1] M)) h
set_option maxRecDepth 100000 in
theorem u_X11_thrown (v0 : Int) (M : Mem) : ci_X11_thrown.2.2.2.2 [v0] M = fin false ((dRet (dFld wM 11 0 (dLoc 0))) [v0] M) := by
  have h : a_X11_thrown.1.1 = (dRet (dFld wM 11 0 (dLoc 0))) := by simp only [a_X11_thrown, p_sSet, p_sInc, p_sPutF, p_sUpdF, p_sPutA, p_sUpdA, sDo, p_sCpy, p_sSeq, p_sIf, p_sIfE, p_sWh, p_sRet, p_sReV, p_sBlk, p_sSw, p_wDf, p_wCs, p_eInt, p_eLng, p_eNll, p_eStr, p_eSta, p_eLoc, p_eBin, p_eDiv, p_eI2L, p_eL2I, p_eFld, p_eAr, p_eRo, p_eLen, eCal, p_eMt, p_eAbs, p_eBo, p_eCon, p_aA0, p_aA1, p_oCmp, p_oCm0, p_oCmpL, p_oNul, p_oAnd, p_oOr, p_oNot]
  exact congrArg (fun z => fin false (z [v0] M)) h
set_option maxRecDepth 100000 in
theorem u_X11_byteOf (v0 v1 v2 v3 v4 v5 : Int) (M : Mem) : ci_X11_byteOf.2.2.2.2 [v0, v1, v2, v3, v4, v5] M = fin false ((dSeq (dSet 6 (dCon (dCmp .lt (dLoc 5) (dInt 4)) (dLoc 0) (dCon (dCmp .lt (dLoc 5) (dInt 8)) (dLoc 1) (dCon (dCmp .lt (dLoc 5) (dInt 12)) (dLoc 2) (dCon (dCmp .lt (dLoc 5) (dInt 16)) (dLoc 3) (dLoc 4))))))
  (dRet (dBin (opF 3) (dBin (opF 7) (dLoc 6) (dBin (opF 1) (dInt 24) (dBin (opF 2) (dInt 8) (dDiv (dvF 1) (dvW 1) (dLoc 5) (dInt 4))))) (dInt 255)))) [v0, v1, v2, v3, v4, v5, 0] M) := by
  have h : a_X11_byteOf.1.1 = (dSeq (dSet 6 (dCon (dCmp .lt (dLoc 5) (dInt 4)) (dLoc 0) (dCon (dCmp .lt (dLoc 5) (dInt 8)) (dLoc 1) (dCon (dCmp .lt (dLoc 5) (dInt 12)) (dLoc 2) (dCon (dCmp .lt (dLoc 5) (dInt 16)) (dLoc 3) (dLoc 4))))))
  (dRet (dBin (opF 3) (dBin (opF 7) (dLoc 6) (dBin (opF 1) (dInt 24) (dBin (opF 2) (dInt 8) (dDiv (dvF 1) (dvW 1) (dLoc 5) (dInt 4))))) (dInt 255)))) := by simp only [a_X11_byteOf, p_sSet, p_sInc, p_sPutF, p_sUpdF, p_sPutA, p_sUpdA, sDo, p_sCpy, p_sSeq, p_sIf, p_sIfE, p_sWh, p_sRet, p_sReV, p_sBlk, p_sSw, p_wDf, p_wCs, p_eInt, p_eLng, p_eNll, p_eStr, p_eSta, p_eLoc, p_eBin, p_eDiv, p_eI2L, p_eL2I, p_eFld, p_eAr, p_eRo, p_eLen, eCal, p_eMt, p_eAbs, p_eBo, p_eCon, p_aA0, p_aA1, p_oCmp, p_oCm0, p_oCmpL, p_oNul, p_oAnd, p_oOr, p_oNot]
  exact congrArg (fun z => fin false (z [v0, v1, v2, v3, v4, v5, 0] M)) h
noncomputable def wc1_X11_feed : CoD := (dCmp .lt (dLoc 7) (dInt 20))
noncomputable def wb1_X11_feed : StD := (dSeq (dSet 6 (dBin (opF 0) (dLoc 6) (dCon (dCm0 .ne (dCal wM ci_X11_byteOf (dA1 (dA1 (dA1 (dA1 (dA1 (dA1 dA0 (dLoc 1)) (dLoc 2)) (dLoc 3)) (dLoc 4)) (dLoc 5)) (dLoc 7)))) (dInt 1) (dInt 0))))
  (dInc 7 1))
noncomputable def wc2_X11_feed : CoD := (dCmp .lt (dLoc 7) (dInt 20))
noncomputable def wb2_X11_feed : StD := (dSeq (dSeq (dSet 8 (dCal wM ci_X11_byteOf (dA1 (dA1 (dA1 (dA1 (dA1 (dA1 dA0 (dLoc 1)) (dLoc 2)) (dLoc 3)) (dLoc 4)) (dLoc 5)) (dLoc 7))))
  (dIf (dCm0 .ne (dLoc 8)) (dSeq (dPutA wM 0 (dFld wM 11 1 (dLoc 0)) (dFld wM 11 2 (dLoc 0)) (dLoc 8))
  (dUpdF wM 0 11 2 (dLoc 0) (dInt 1)))))
  (dInc 7 1))
set_option maxRecDepth 100000 in
theorem u_X11_feed (v0 v1 v2 v3 v4 v5 : Int) (M : Mem) : ci_X11_feed.2.2.2.2 [v0, v1, v2, v3, v4, v5] M = fin false ((dSeq (dSet 6 (dInt 0))
  (dSeq (dSeq (dSet 7 (dInt 0))
  (dWh (wc1_X11_feed) (wb1_X11_feed)))
  (dSeq (dIf (dCmp .gt (dBin (opF 0) (dFld wM 11 2 (dLoc 0)) (dLoc 6)) (dInt 240)) (dRet (dInt (-1))))
  (dSeq (dSeq (dSet 7 (dInt 0))
  (dWh (wc2_X11_feed) (wb2_X11_feed)))
  (dRet (dFld wM 11 2 (dLoc 0))))))) [v0, v1, v2, v3, v4, v5, 0, 0, 0] M) := by
  have h : a_X11_feed.1.1 = (dSeq (dSet 6 (dInt 0))
  (dSeq (dSeq (dSet 7 (dInt 0))
  (dWh (wc1_X11_feed) (wb1_X11_feed)))
  (dSeq (dIf (dCmp .gt (dBin (opF 0) (dFld wM 11 2 (dLoc 0)) (dLoc 6)) (dInt 240)) (dRet (dInt (-1))))
  (dSeq (dSeq (dSet 7 (dInt 0))
  (dWh (wc2_X11_feed) (wb2_X11_feed)))
  (dRet (dFld wM 11 2 (dLoc 0))))))) := by simp only [a_X11_feed, wc1_X11_feed, wb1_X11_feed, wc2_X11_feed, wb2_X11_feed, p_sSet, p_sInc, p_sPutF, p_sUpdF, p_sPutA, p_sUpdA, sDo, p_sCpy, p_sSeq, p_sIf, p_sIfE, p_sWh, p_sRet, p_sReV, p_sBlk, p_sSw, p_wDf, p_wCs, p_eInt, p_eLng, p_eNll, p_eStr, p_eSta, p_eLoc, p_eBin, p_eDiv, p_eI2L, p_eL2I, p_eFld, p_eAr, p_eRo, p_eLen, eCal, p_eMt, p_eAbs, p_eBo, p_eCon, p_aA0, p_aA1, p_oCmp, p_oCm0, p_oCmpL, p_oNul, p_oAnd, p_oOr, p_oNot]
  exact congrArg (fun z => fin false (z [v0, v1, v2, v3, v4, v5, 0, 0, 0] M)) h
set_option maxRecDepth 100000 in
theorem u_X11_end (v0 v1 : Int) (M : Mem) : ci_X11_end.2.2.2.2 [v0, v1] M = fin true ((dSeq (dIf (dOr (dCm0 .lt (dLoc 1)) (dCmp .gt (dLoc 1) (dFld wM 11 2 (dLoc 0)))) (dRet (dInt 0)))
  (dSeq (dPutF wM 11 2 (dLoc 0) (dLoc 1))
  (dRet (dInt 1)))) [v0, v1] M) := by
  have h : a_X11_end.1.1 = (dSeq (dIf (dOr (dCm0 .lt (dLoc 1)) (dCmp .gt (dLoc 1) (dFld wM 11 2 (dLoc 0)))) (dRet (dInt 0)))
  (dSeq (dPutF wM 11 2 (dLoc 0) (dLoc 1))
  (dRet (dInt 1)))) := by simp only [a_X11_end, p_sSet, p_sInc, p_sPutF, p_sUpdF, p_sPutA, p_sUpdA, sDo, p_sCpy, p_sSeq, p_sIf, p_sIfE, p_sWh, p_sRet, p_sReV, p_sBlk, p_sSw, p_wDf, p_wCs, p_eInt, p_eLng, p_eNll, p_eStr, p_eSta, p_eLoc, p_eBin, p_eDiv, p_eI2L, p_eL2I, p_eFld, p_eAr, p_eRo, p_eLen, eCal, p_eMt, p_eAbs, p_eBo, p_eCon, p_aA0, p_aA1, p_oCmp, p_oCm0, p_oCmpL, p_oNul, p_oAnd, p_oOr, p_oNot]
  exact congrArg (fun z => fin true (z [v0, v1] M)) h
set_option maxRecDepth 100000 in
theorem u_X11_here (v0 : Int) (M : Mem) : ci_X11_here.2.2.2.2 [v0] M = fin false ((dRet (dCon (dCmp .lt (dFld wM 11 3 (dLoc 0)) (dFld wM 11 2 (dLoc 0))) (dAr wM 0 (dFld wM 11 1 (dLoc 0)) (dFld wM 11 3 (dLoc 0))) (dInt (-1)))) [v0] M) := by
  have h : a_X11_here.1.1 = (dRet (dCon (dCmp .lt (dFld wM 11 3 (dLoc 0)) (dFld wM 11 2 (dLoc 0))) (dAr wM 0 (dFld wM 11 1 (dLoc 0)) (dFld wM 11 3 (dLoc 0))) (dInt (-1)))) := by simp only [a_X11_here, p_sSet, p_sInc, p_sPutF, p_sUpdF, p_sPutA, p_sUpdA, sDo, p_sCpy, p_sSeq, p_sIf, p_sIfE, p_sWh, p_sRet, p_sReV, p_sBlk, p_sSw, p_wDf, p_wCs, p_eInt, p_eLng, p_eNll, p_eStr, p_eSta, p_eLoc, p_eBin, p_eDiv, p_eI2L, p_eL2I, p_eFld, p_eAr, p_eRo, p_eLen, eCal, p_eMt, p_eAbs, p_eBo, p_eCon, p_aA0, p_aA1, p_oCmp, p_oCm0, p_oCmpL, p_oNul, p_oAnd, p_oOr, p_oNot]
  exact congrArg (fun z => fin false (z [v0] M)) h
noncomputable def wc1_X11_look : CoD := (dCmp .eq (dCal wM ci_X11_here (dA1 dA0 (dLoc 0))) (dInt 32))
noncomputable def wb1_X11_look : StD := (dUpdF wM 0 11 3 (dLoc 0) (dInt 1))
set_option maxRecDepth 100000 in
theorem u_X11_look (v0 : Int) (M : Mem) : ci_X11_look.2.2.2.2 [v0] M = fin false ((dSeq (dWh (wc1_X11_look) (wb1_X11_look))
  (dRet (dCal wM ci_X11_here (dA1 dA0 (dLoc 0))))) [v0] M) := by
  have h : a_X11_look.1.1 = (dSeq (dWh (wc1_X11_look) (wb1_X11_look))
  (dRet (dCal wM ci_X11_here (dA1 dA0 (dLoc 0))))) := by simp only [a_X11_look, wc1_X11_look, wb1_X11_look, p_sSet, p_sInc, p_sPutF, p_sUpdF, p_sPutA, p_sUpdA, sDo, p_sCpy, p_sSeq, p_sIf, p_sIfE, p_sWh, p_sRet, p_sReV, p_sBlk, p_sSw, p_wDf, p_wCs, p_eInt, p_eLng, p_eNll, p_eStr, p_eSta, p_eLoc, p_eBin, p_eDiv, p_eI2L, p_eL2I, p_eFld, p_eAr, p_eRo, p_eLen, eCal, p_eMt, p_eAbs, p_eBo, p_eCon, p_aA0, p_aA1, p_oCmp, p_oCm0, p_oCmpL, p_oNul, p_oAnd, p_oOr, p_oNot]
  exact congrArg (fun z => fin false (z [v0] M)) h
set_option maxRecDepth 100000 in
theorem u_X11_bad (v0 : Int) (M : Mem) : ci_X11_bad.2.2.2.2 [v0] M = fin false ((dSeq (dPutF wM 11 4 (dLoc 0) (dCon (dCmp .eq (dFld wM 11 4 (dLoc 0)) (dInt (-1))) (dFld wM 11 3 (dLoc 0)) (dFld wM 11 4 (dLoc 0))))
  dReV) [v0] M) := by
  have h : a_X11_bad.1.1 = (dSeq (dPutF wM 11 4 (dLoc 0) (dCon (dCmp .eq (dFld wM 11 4 (dLoc 0)) (dInt (-1))) (dFld wM 11 3 (dLoc 0)) (dFld wM 11 4 (dLoc 0))))
  dReV) := by simp only [a_X11_bad, p_sSet, p_sInc, p_sPutF, p_sUpdF, p_sPutA, p_sUpdA, sDo, p_sCpy, p_sSeq, p_sIf, p_sIfE, p_sWh, p_sRet, p_sReV, p_sBlk, p_sSw, p_wDf, p_wCs, p_eInt, p_eLng, p_eNll, p_eStr, p_eSta, p_eLoc, p_eBin, p_eDiv, p_eI2L, p_eL2I, p_eFld, p_eAr, p_eRo, p_eLen, eCal, p_eMt, p_eAbs, p_eBo, p_eCon, p_aA0, p_aA1, p_oCmp, p_oCm0, p_oCmpL, p_oNul, p_oAnd, p_oOr, p_oNot]
  exact congrArg (fun z => fin false (z [v0] M)) h
set_option maxRecDepth 100000 in
theorem u_X11_isDigit (v0 : Int) (M : Mem) : ci_X11_isDigit.2.2.2.2 [v0] M = fin true ((dRet (dBo (dAnd (dCmp .ge (dLoc 0) (dInt 48)) (dCmp .le (dLoc 0) (dInt 57))))) [v0] M) := by
  have h : a_X11_isDigit.1.1 = (dRet (dBo (dAnd (dCmp .ge (dLoc 0) (dInt 48)) (dCmp .le (dLoc 0) (dInt 57))))) := by simp only [a_X11_isDigit, p_sSet, p_sInc, p_sPutF, p_sUpdF, p_sPutA, p_sUpdA, sDo, p_sCpy, p_sSeq, p_sIf, p_sIfE, p_sWh, p_sRet, p_sReV, p_sBlk, p_sSw, p_wDf, p_wCs, p_eInt, p_eLng, p_eNll, p_eStr, p_eSta, p_eLoc, p_eBin, p_eDiv, p_eI2L, p_eL2I, p_eFld, p_eAr, p_eRo, p_eLen, eCal, p_eMt, p_eAbs, p_eBo, p_eCon, p_aA0, p_aA1, p_oCmp, p_oCm0, p_oCmpL, p_oNul, p_oAnd, p_oOr, p_oNot]
  exact congrArg (fun z => fin true (z [v0] M)) h
set_option maxRecDepth 100000 in
theorem u_X11_put (v0 v1 v2 : Int) (M : Mem) : ci_X11_put.2.2.2.2 [v0, v1, v2] M = fin false ((dSeq (dSeq (dPutA wM 0 (dFld wM 11 6 (dLoc 0)) (dBin (opF 0) (dBin (opF 2) (dInt 520) (dFld wM 11 14 (dLoc 0))) (dAr wM 0 (dFld wM 11 8 (dLoc 0)) (dFld wM 11 14 (dLoc 0)))) (dLoc 1))
  (dSeq (dPutA wM 0 (dFld wM 11 7 (dLoc 0)) (dBin (opF 0) (dBin (opF 2) (dInt 520) (dFld wM 11 14 (dLoc 0))) (dAr wM 0 (dFld wM 11 8 (dLoc 0)) (dFld wM 11 14 (dLoc 0)))) (dLoc 2))
  (dUpdA wM 0 (dFld wM 11 8 (dLoc 0)) (dFld wM 11 14 (dLoc 0)) (dInt 1))))
  dReV) [v0, v1, v2] M) := by
  have h : a_X11_put.1.1 = (dSeq (dSeq (dPutA wM 0 (dFld wM 11 6 (dLoc 0)) (dBin (opF 0) (dBin (opF 2) (dInt 520) (dFld wM 11 14 (dLoc 0))) (dAr wM 0 (dFld wM 11 8 (dLoc 0)) (dFld wM 11 14 (dLoc 0)))) (dLoc 1))
  (dSeq (dPutA wM 0 (dFld wM 11 7 (dLoc 0)) (dBin (opF 0) (dBin (opF 2) (dInt 520) (dFld wM 11 14 (dLoc 0))) (dAr wM 0 (dFld wM 11 8 (dLoc 0)) (dFld wM 11 14 (dLoc 0)))) (dLoc 2))
  (dUpdA wM 0 (dFld wM 11 8 (dLoc 0)) (dFld wM 11 14 (dLoc 0)) (dInt 1))))
  dReV) := by simp only [a_X11_put, p_sSet, p_sInc, p_sPutF, p_sUpdF, p_sPutA, p_sUpdA, sDo, p_sCpy, p_sSeq, p_sIf, p_sIfE, p_sWh, p_sRet, p_sReV, p_sBlk, p_sSw, p_wDf, p_wCs, p_eInt, p_eLng, p_eNll, p_eStr, p_eSta, p_eLoc, p_eBin, p_eDiv, p_eI2L, p_eL2I, p_eFld, p_eAr, p_eRo, p_eLen, eCal, p_eMt, p_eAbs, p_eBo, p_eCon, p_aA0, p_aA1, p_oCmp, p_oCm0, p_oCmpL, p_oNul, p_oAnd, p_oOr, p_oNot]
  exact congrArg (fun z => fin false (z [v0, v1, v2] M)) h
set_option maxRecDepth 100000 in
theorem u_X11_letterOf (v0 : Int) (M : Mem) : ci_X11_letterOf.2.2.2.2 [v0] M = fin false ((dRet (dCon (dCmp .eq (dLoc 0) (dInt 97)) (dInt 0) (dCon (dCmp .eq (dLoc 0) (dInt 115)) (dInt 1) (dCon (dCmp .eq (dLoc 0) (dInt 107)) (dInt 2) (dCon (dCmp .eq (dLoc 0) (dInt 111)) (dInt 3) (dCon (dCmp .eq (dLoc 0) (dInt 121)) (dInt 4) (dCon (dCmp .eq (dLoc 0) (dInt 110)) (dInt 5) (dInt (-1))))))))) [v0] M) := by
  have h : a_X11_letterOf.1.1 = (dRet (dCon (dCmp .eq (dLoc 0) (dInt 97)) (dInt 0) (dCon (dCmp .eq (dLoc 0) (dInt 115)) (dInt 1) (dCon (dCmp .eq (dLoc 0) (dInt 107)) (dInt 2) (dCon (dCmp .eq (dLoc 0) (dInt 111)) (dInt 3) (dCon (dCmp .eq (dLoc 0) (dInt 121)) (dInt 4) (dCon (dCmp .eq (dLoc 0) (dInt 110)) (dInt 5) (dInt (-1))))))))) := by simp only [a_X11_letterOf, p_sSet, p_sInc, p_sPutF, p_sUpdF, p_sPutA, p_sUpdA, sDo, p_sCpy, p_sSeq, p_sIf, p_sIfE, p_sWh, p_sRet, p_sReV, p_sBlk, p_sSw, p_wDf, p_wCs, p_eInt, p_eLng, p_eNll, p_eStr, p_eSta, p_eLoc, p_eBin, p_eDiv, p_eI2L, p_eL2I, p_eFld, p_eAr, p_eRo, p_eLen, eCal, p_eMt, p_eAbs, p_eBo, p_eCon, p_aA0, p_aA1, p_oCmp, p_oCm0, p_oCmpL, p_oNul, p_oAnd, p_oOr, p_oNot]
  exact congrArg (fun z => fin false (z [v0] M)) h
set_option maxRecDepth 100000 in
theorem u_X11_opens (v0 : Int) (M : Mem) : ci_X11_opens.2.2.2.2 [v0] M = fin false ((dSeq (dSeq (dIf (dCmp .eq (dFld wM 11 5 (dLoc 0)) (dInt 6)) (dDo wM ci_X11_bad (dA1 dA0 (dLoc 0))))
  (dSeq (dUpdF wM 0 11 5 (dLoc 0) (dInt 1))
  (dUpdF wM 0 11 3 (dLoc 0) (dInt 1))))
  dReV) [v0] M) := by
  have h : a_X11_opens.1.1 = (dSeq (dSeq (dIf (dCmp .eq (dFld wM 11 5 (dLoc 0)) (dInt 6)) (dDo wM ci_X11_bad (dA1 dA0 (dLoc 0))))
  (dSeq (dUpdF wM 0 11 5 (dLoc 0) (dInt 1))
  (dUpdF wM 0 11 3 (dLoc 0) (dInt 1))))
  dReV) := by simp only [a_X11_opens, p_sSet, p_sInc, p_sPutF, p_sUpdF, p_sPutA, p_sUpdA, sDo, p_sCpy, p_sSeq, p_sIf, p_sIfE, p_sWh, p_sRet, p_sReV, p_sBlk, p_sSw, p_wDf, p_wCs, p_eInt, p_eLng, p_eNll, p_eStr, p_eSta, p_eLoc, p_eBin, p_eDiv, p_eI2L, p_eL2I, p_eFld, p_eAr, p_eRo, p_eLen, eCal, p_eMt, p_eAbs, p_eBo, p_eCon, p_aA0, p_aA1, p_oCmp, p_oCm0, p_oCmpL, p_oNul, p_oAnd, p_oOr, p_oNot]
  exact congrArg (fun z => fin false (z [v0] M)) h
set_option maxRecDepth 100000 in
theorem u_X11_closes (v0 v1 : Int) (M : Mem) : ci_X11_closes.2.2.2.2 [v0, v1] M = fin false ((dSeq (dSeq (dIf (dAnd (dCmp .eq (dFld wM 11 4 (dLoc 0)) (dInt (-1))) (dCmp .ne (dCal wM ci_X11_look (dA1 dA0 (dLoc 0))) (dLoc 1))) (dDo wM ci_X11_bad (dA1 dA0 (dLoc 0))))
  (dSeq (dUpdF wM 0 11 3 (dLoc 0) (dInt 1))
  (dUpdF wM 1 11 5 (dLoc 0) (dInt 1))))
  dReV) [v0, v1] M) := by
  have h : a_X11_closes.1.1 = (dSeq (dSeq (dIf (dAnd (dCmp .eq (dFld wM 11 4 (dLoc 0)) (dInt (-1))) (dCmp .ne (dCal wM ci_X11_look (dA1 dA0 (dLoc 0))) (dLoc 1))) (dDo wM ci_X11_bad (dA1 dA0 (dLoc 0))))
  (dSeq (dUpdF wM 0 11 3 (dLoc 0) (dInt 1))
  (dUpdF wM 1 11 5 (dLoc 0) (dInt 1))))
  dReV) := by simp only [a_X11_closes, p_sSet, p_sInc, p_sPutF, p_sUpdF, p_sPutA, p_sUpdA, sDo, p_sCpy, p_sSeq, p_sIf, p_sIfE, p_sWh, p_sRet, p_sReV, p_sBlk, p_sSw, p_wDf, p_wCs, p_eInt, p_eLng, p_eNll, p_eStr, p_eSta, p_eLoc, p_eBin, p_eDiv, p_eI2L, p_eL2I, p_eFld, p_eAr, p_eRo, p_eLen, eCal, p_eMt, p_eAbs, p_eBo, p_eCon, p_aA0, p_aA1, p_oCmp, p_oCm0, p_oCmpL, p_oNul, p_oAnd, p_oOr, p_oNot]
  exact congrArg (fun z => fin false (z [v0, v1] M)) h
noncomputable def wc1_X11_plainNumber : CoD := (dAnd (dCmp .lt (dLoc 2) (dInt 4)) (dCm0 .ne (dCal wM ci_X11_isDigit (dA1 dA0 (dCal wM ci_X11_here (dA1 dA0 (dLoc 0)))))))
noncomputable def wb1_X11_plainNumber : StD := (dSeq (dSet 1 (dBin (opF 1) (dBin (opF 0) (dBin (opF 2) (dInt 10) (dLoc 1)) (dCal wM ci_X11_here (dA1 dA0 (dLoc 0)))) (dInt 48)))
  (dSeq (dUpdF wM 0 11 3 (dLoc 0) (dInt 1))
  (dInc 2 1)))
set_option maxRecDepth 100000 in
theorem u_X11_plainNumber (v0 : Int) (M : Mem) : ci_X11_plainNumber.2.2.2.2 [v0] M = fin false ((dSeq (dSet 1 (dInt 0))
  (dSeq (dSet 2 (dInt 0))
  (dSeq (dWh (wc1_X11_plainNumber) (wb1_X11_plainNumber))
  (dSeq (dIf (dCm0 .ne (dCal wM ci_X11_isDigit (dA1 dA0 (dCal wM ci_X11_here (dA1 dA0 (dLoc 0)))))) (dDo wM ci_X11_bad (dA1 dA0 (dLoc 0))))
  (dRet (dLoc 1)))))) [v0, 0, 0] M) := by
  have h : a_X11_plainNumber.1.1 = (dSeq (dSet 1 (dInt 0))
  (dSeq (dSet 2 (dInt 0))
  (dSeq (dWh (wc1_X11_plainNumber) (wb1_X11_plainNumber))
  (dSeq (dIf (dCm0 .ne (dCal wM ci_X11_isDigit (dA1 dA0 (dCal wM ci_X11_here (dA1 dA0 (dLoc 0)))))) (dDo wM ci_X11_bad (dA1 dA0 (dLoc 0))))
  (dRet (dLoc 1)))))) := by simp only [a_X11_plainNumber, wc1_X11_plainNumber, wb1_X11_plainNumber, p_sSet, p_sInc, p_sPutF, p_sUpdF, p_sPutA, p_sUpdA, sDo, p_sCpy, p_sSeq, p_sIf, p_sIfE, p_sWh, p_sRet, p_sReV, p_sBlk, p_sSw, p_wDf, p_wCs, p_eInt, p_eLng, p_eNll, p_eStr, p_eSta, p_eLoc, p_eBin, p_eDiv, p_eI2L, p_eL2I, p_eFld, p_eAr, p_eRo, p_eLen, eCal, p_eMt, p_eAbs, p_eBo, p_eCon, p_aA0, p_aA1, p_oCmp, p_oCm0, p_oCmpL, p_oNul, p_oAnd, p_oOr, p_oNot]
  exact congrArg (fun z => fin false (z [v0, 0, 0] M)) h
set_option maxRecDepth 100000 in
theorem u_X11_atom (d : Nat) (v0 : Int) (M : Mem) : grp_X11_sum (d + 1) 0 [v0] M = fin false ((dSeq (dSeq (dSet 1 (dCal wM ci_X11_look (dA1 dA0 (dLoc 0))))
  (dIfE (dCm0 .ne (dCal wM ci_X11_isDigit (dA1 dA0 (dLoc 1)))) (dDo wM ci_X11_put (dA1 (dA1 (dA1 dA0 (dLoc 0)) (dInt 0)) (dCal wM ci_X11_plainNumber (dA1 dA0 (dLoc 0)))))
  (dIfE (dCmp .ne (dCal wM ci_X11_letterOf (dA1 dA0 (dLoc 1))) (dInt (-1))) (dSeq (dUpdF wM 0 11 3 (dLoc 0) (dInt 1))
  (dDo wM ci_X11_put (dA1 (dA1 (dA1 dA0 (dLoc 0)) (dInt 1)) (dCal wM ci_X11_letterOf (dA1 dA0 (dLoc 1))))))
  (dIfE (dCmp .eq (dLoc 1) (dInt 91)) (dSeq (dDo wM ci_X11_opens (dA1 dA0 (dLoc 0)))
  (dIf (dCmp .eq (dFld wM 11 4 (dLoc 0)) (dInt (-1))) (dSeq (dDo wM (ci_X11_sum (grp_X11_sum d)) (dA1 dA0 (dLoc 0)))
  (dDo wM ci_X11_closes (dA1 (dA1 dA0 (dLoc 0)) (dInt 93))))))
  (dDo wM ci_X11_bad (dA1 dA0 (dLoc 0)))))))
  dReV) [v0, 0] M) := by
  have h : (a_X11_atom (grp_X11_sum d)).1.1 = (dSeq (dSeq (dSet 1 (dCal wM ci_X11_look (dA1 dA0 (dLoc 0))))
  (dIfE (dCm0 .ne (dCal wM ci_X11_isDigit (dA1 dA0 (dLoc 1)))) (dDo wM ci_X11_put (dA1 (dA1 (dA1 dA0 (dLoc 0)) (dInt 0)) (dCal wM ci_X11_plainNumber (dA1 dA0 (dLoc 0)))))
  (dIfE (dCmp .ne (dCal wM ci_X11_letterOf (dA1 dA0 (dLoc 1))) (dInt (-1))) (dSeq (dUpdF wM 0 11 3 (dLoc 0) (dInt 1))
  (dDo wM ci_X11_put (dA1 (dA1 (dA1 dA0 (dLoc 0)) (dInt 1)) (dCal wM ci_X11_letterOf (dA1 dA0 (dLoc 1))))))
  (dIfE (dCmp .eq (dLoc 1) (dInt 91)) (dSeq (dDo wM ci_X11_opens (dA1 dA0 (dLoc 0)))
  (dIf (dCmp .eq (dFld wM 11 4 (dLoc 0)) (dInt (-1))) (dSeq (dDo wM (ci_X11_sum (grp_X11_sum d)) (dA1 dA0 (dLoc 0)))
  (dDo wM ci_X11_closes (dA1 (dA1 dA0 (dLoc 0)) (dInt 93))))))
  (dDo wM ci_X11_bad (dA1 dA0 (dLoc 0)))))))
  dReV) := by simp only [a_X11_atom, p_sSet, p_sInc, p_sPutF, p_sUpdF, p_sPutA, p_sUpdA, sDo, p_sCpy, p_sSeq, p_sIf, p_sIfE, p_sWh, p_sRet, p_sReV, p_sBlk, p_sSw, p_wDf, p_wCs, p_eInt, p_eLng, p_eNll, p_eStr, p_eSta, p_eLoc, p_eBin, p_eDiv, p_eI2L, p_eL2I, p_eFld, p_eAr, p_eRo, p_eLen, eCal, p_eMt, p_eAbs, p_eBo, p_eCon, p_aA0, p_aA1, p_oCmp, p_oCm0, p_oCmpL, p_oNul, p_oAnd, p_oOr, p_oNot]
  exact congrArg (fun z => fin false (z [v0, 0] M)) h
set_option maxRecDepth 100000 in
theorem g_X11_atom (d : Nat) : (ci_X11_atom (grp_X11_sum d)).2.2.2.2 = grp_X11_sum d 0 := rfl
noncomputable def wc1_X11_sum (D : Nat → Den) : CoD := (dOr (dCmp .eq (dLoc 1) (dInt 43)) (dCmp .eq (dLoc 1) (dInt 45)))
noncomputable def wb1_X11_sum (D : Nat → Den) : StD := (dSeq (dUpdF wM 0 11 3 (dLoc 0) (dInt 1))
  (dSeq (dDo wM (ci_X11_term D) (dA1 dA0 (dLoc 0)))
  (dSeq (dDo wM ci_X11_put (dA1 (dA1 (dA1 dA0 (dLoc 0)) (dCon (dCmp .eq (dLoc 1) (dInt 43)) (dInt 2) (dInt 3))) (dInt 0)))
  (dSet 1 (dCon (dCmp .eq (dFld wM 11 4 (dLoc 0)) (dInt (-1))) (dCal wM ci_X11_look (dA1 dA0 (dLoc 0))) (dInt (-1)))))))
set_option maxRecDepth 100000 in
theorem u_X11_sum (d : Nat) (v0 : Int) (M : Mem) : grp_X11_sum (d + 1) 1 [v0] M = fin false ((dSeq (dSeq (dDo wM (ci_X11_term (grp_X11_sum d)) (dA1 dA0 (dLoc 0)))
  (dSeq (dSet 1 (dCon (dCmp .eq (dFld wM 11 4 (dLoc 0)) (dInt (-1))) (dCal wM ci_X11_look (dA1 dA0 (dLoc 0))) (dInt (-1))))
  (dWh (wc1_X11_sum (grp_X11_sum d)) (wb1_X11_sum (grp_X11_sum d)))))
  dReV) [v0, 0] M) := by
  have h : (a_X11_sum (grp_X11_sum d)).1.1 = (dSeq (dSeq (dDo wM (ci_X11_term (grp_X11_sum d)) (dA1 dA0 (dLoc 0)))
  (dSeq (dSet 1 (dCon (dCmp .eq (dFld wM 11 4 (dLoc 0)) (dInt (-1))) (dCal wM ci_X11_look (dA1 dA0 (dLoc 0))) (dInt (-1))))
  (dWh (wc1_X11_sum (grp_X11_sum d)) (wb1_X11_sum (grp_X11_sum d)))))
  dReV) := by simp only [a_X11_sum, wc1_X11_sum, wb1_X11_sum, p_sSet, p_sInc, p_sPutF, p_sUpdF, p_sPutA, p_sUpdA, sDo, p_sCpy, p_sSeq, p_sIf, p_sIfE, p_sWh, p_sRet, p_sReV, p_sBlk, p_sSw, p_wDf, p_wCs, p_eInt, p_eLng, p_eNll, p_eStr, p_eSta, p_eLoc, p_eBin, p_eDiv, p_eI2L, p_eL2I, p_eFld, p_eAr, p_eRo, p_eLen, eCal, p_eMt, p_eAbs, p_eBo, p_eCon, p_aA0, p_aA1, p_oCmp, p_oCm0, p_oCmpL, p_oNul, p_oAnd, p_oOr, p_oNot]
  exact congrArg (fun z => fin false (z [v0, 0] M)) h
set_option maxRecDepth 100000 in
theorem g_X11_sum (d : Nat) : (ci_X11_sum (grp_X11_sum d)).2.2.2.2 = grp_X11_sum d 1 := rfl
noncomputable def wc1_X11_term (D : Nat → Den) : CoD := (dOr (dCmp .eq (dLoc 1) (dInt 42)) (dCmp .eq (dLoc 1) (dInt 47)))
noncomputable def wb1_X11_term (D : Nat → Den) : StD := (dSeq (dUpdF wM 0 11 3 (dLoc 0) (dInt 1))
  (dSeq (dDo wM (ci_X11_atom D) (dA1 dA0 (dLoc 0)))
  (dSeq (dDo wM ci_X11_put (dA1 (dA1 (dA1 dA0 (dLoc 0)) (dCon (dCmp .eq (dLoc 1) (dInt 42)) (dInt 4) (dInt 5))) (dInt 0)))
  (dSet 1 (dCon (dCmp .eq (dFld wM 11 4 (dLoc 0)) (dInt (-1))) (dCal wM ci_X11_look (dA1 dA0 (dLoc 0))) (dInt (-1)))))))
set_option maxRecDepth 100000 in
theorem u_X11_term (d : Nat) (v0 : Int) (M : Mem) : grp_X11_sum (d + 1) 2 [v0] M = fin false ((dSeq (dSeq (dDo wM (ci_X11_atom (grp_X11_sum d)) (dA1 dA0 (dLoc 0)))
  (dSeq (dSet 1 (dCon (dCmp .eq (dFld wM 11 4 (dLoc 0)) (dInt (-1))) (dCal wM ci_X11_look (dA1 dA0 (dLoc 0))) (dInt (-1))))
  (dWh (wc1_X11_term (grp_X11_sum d)) (wb1_X11_term (grp_X11_sum d)))))
  dReV) [v0, 0] M) := by
  have h : (a_X11_term (grp_X11_sum d)).1.1 = (dSeq (dSeq (dDo wM (ci_X11_atom (grp_X11_sum d)) (dA1 dA0 (dLoc 0)))
  (dSeq (dSet 1 (dCon (dCmp .eq (dFld wM 11 4 (dLoc 0)) (dInt (-1))) (dCal wM ci_X11_look (dA1 dA0 (dLoc 0))) (dInt (-1))))
  (dWh (wc1_X11_term (grp_X11_sum d)) (wb1_X11_term (grp_X11_sum d)))))
  dReV) := by simp only [a_X11_term, wc1_X11_term, wb1_X11_term, p_sSet, p_sInc, p_sPutF, p_sUpdF, p_sPutA, p_sUpdA, sDo, p_sCpy, p_sSeq, p_sIf, p_sIfE, p_sWh, p_sRet, p_sReV, p_sBlk, p_sSw, p_wDf, p_wCs, p_eInt, p_eLng, p_eNll, p_eStr, p_eSta, p_eLoc, p_eBin, p_eDiv, p_eI2L, p_eL2I, p_eFld, p_eAr, p_eRo, p_eLen, eCal, p_eMt, p_eAbs, p_eBo, p_eCon, p_aA0, p_aA1, p_oCmp, p_oCm0, p_oCmpL, p_oNul, p_oAnd, p_oOr, p_oNot]
  exact congrArg (fun z => fin false (z [v0, 0] M)) h
set_option maxRecDepth 100000 in
theorem g_X11_term (d : Nat) : (ci_X11_term (grp_X11_sum d)).2.2.2.2 = grp_X11_sum d 2 := rfl
set_option maxRecDepth 100000 in
theorem u_X11_isSign (v0 : Int) (M : Mem) : ci_X11_isSign.2.2.2.2 [v0] M = fin true ((dRet (dBo (dOr (dOr (dCmp .eq (dLoc 0) (dInt 61)) (dCmp .eq (dLoc 0) (dInt 60))) (dCmp .eq (dLoc 0) (dInt 62))))) [v0] M) := by
  have h : a_X11_isSign.1.1 = (dRet (dBo (dOr (dOr (dCmp .eq (dLoc 0) (dInt 61)) (dCmp .eq (dLoc 0) (dInt 60))) (dCmp .eq (dLoc 0) (dInt 62))))) := by simp only [a_X11_isSign, p_sSet, p_sInc, p_sPutF, p_sUpdF, p_sPutA, p_sUpdA, sDo, p_sCpy, p_sSeq, p_sIf, p_sIfE, p_sWh, p_sRet, p_sReV, p_sBlk, p_sSw, p_wDf, p_wCs, p_eInt, p_eLng, p_eNll, p_eStr, p_eSta, p_eLoc, p_eBin, p_eDiv, p_eI2L, p_eL2I, p_eFld, p_eAr, p_eRo, p_eLen, eCal, p_eMt, p_eAbs, p_eBo, p_eCon, p_aA0, p_aA1, p_oCmp, p_oCm0, p_oCmpL, p_oNul, p_oAnd, p_oOr, p_oNot]
  exact congrArg (fun z => fin true (z [v0] M)) h
set_option maxRecDepth 100000 in
theorem u_X11_compare (v0 : Int) (M : Mem) : ci_X11_compare.2.2.2.2 [v0] M = fin false ((dSeq (dSeq (dSet 1 (dCon (dCmp .eq (dFld wM 11 4 (dLoc 0)) (dInt (-1))) (dCal wM ci_X11_look (dA1 dA0 (dLoc 0))) (dInt (-1))))
  (dSeq (dIf (dNot (dCm0 .ne (dCal wM ci_X11_isSign (dA1 dA0 (dLoc 1))))) (dSeq (dDo wM ci_X11_bad (dA1 dA0 (dLoc 0)))
  dReV))
  (dSeq (dUpdF wM 0 11 3 (dLoc 0) (dInt 1))
  (dSeq (dDo wM (ci_X11_sum (grp_X11_sum 24)) (dA1 dA0 (dLoc 0)))
  (dDo wM ci_X11_put (dA1 (dA1 (dA1 dA0 (dLoc 0)) (dCon (dCmp .eq (dLoc 1) (dInt 61)) (dInt 6) (dCon (dCmp .eq (dLoc 1) (dInt 60)) (dInt 7) (dInt 8)))) (dInt 0)))))))
  dReV) [v0, 0] M) := by
  have h : a_X11_compare.1.1 = (dSeq (dSeq (dSet 1 (dCon (dCmp .eq (dFld wM 11 4 (dLoc 0)) (dInt (-1))) (dCal wM ci_X11_look (dA1 dA0 (dLoc 0))) (dInt (-1))))
  (dSeq (dIf (dNot (dCm0 .ne (dCal wM ci_X11_isSign (dA1 dA0 (dLoc 1))))) (dSeq (dDo wM ci_X11_bad (dA1 dA0 (dLoc 0)))
  dReV))
  (dSeq (dUpdF wM 0 11 3 (dLoc 0) (dInt 1))
  (dSeq (dDo wM (ci_X11_sum (grp_X11_sum 24)) (dA1 dA0 (dLoc 0)))
  (dDo wM ci_X11_put (dA1 (dA1 (dA1 dA0 (dLoc 0)) (dCon (dCmp .eq (dLoc 1) (dInt 61)) (dInt 6) (dCon (dCmp .eq (dLoc 1) (dInt 60)) (dInt 7) (dInt 8)))) (dInt 0)))))))
  dReV) := by simp only [a_X11_compare, p_sSet, p_sInc, p_sPutF, p_sUpdF, p_sPutA, p_sUpdA, sDo, p_sCpy, p_sSeq, p_sIf, p_sIfE, p_sWh, p_sRet, p_sReV, p_sBlk, p_sSw, p_wDf, p_wCs, p_eInt, p_eLng, p_eNll, p_eStr, p_eSta, p_eLoc, p_eBin, p_eDiv, p_eI2L, p_eL2I, p_eFld, p_eAr, p_eRo, p_eLen, eCal, p_eMt, p_eAbs, p_eBo, p_eCon, p_aA0, p_aA1, p_oCmp, p_oCm0, p_oCmpL, p_oNul, p_oAnd, p_oOr, p_oNot]
  exact congrArg (fun z => fin false (z [v0, 0] M)) h
set_option maxRecDepth 100000 in
theorem u_X11_condition (d : Nat) (v0 : Int) (M : Mem) : grp_X11_condition (d + 1) 0 [v0] M = fin false ((dSeq (dSeq (dDo wM (ci_X11_unit (grp_X11_condition d)) (dA1 dA0 (dLoc 0)))
  (dSeq (dDo wM (ci_X11_goOnAnd (grp_X11_condition d)) (dA1 dA0 (dLoc 0)))
  (dDo wM (ci_X11_goOnOr (grp_X11_condition d)) (dA1 dA0 (dLoc 0)))))
  dReV) [v0] M) := by
  have h : (a_X11_condition (grp_X11_condition d)).1.1 = (dSeq (dSeq (dDo wM (ci_X11_unit (grp_X11_condition d)) (dA1 dA0 (dLoc 0)))
  (dSeq (dDo wM (ci_X11_goOnAnd (grp_X11_condition d)) (dA1 dA0 (dLoc 0)))
  (dDo wM (ci_X11_goOnOr (grp_X11_condition d)) (dA1 dA0 (dLoc 0)))))
  dReV) := by simp only [a_X11_condition, p_sSet, p_sInc, p_sPutF, p_sUpdF, p_sPutA, p_sUpdA, sDo, p_sCpy, p_sSeq, p_sIf, p_sIfE, p_sWh, p_sRet, p_sReV, p_sBlk, p_sSw, p_wDf, p_wCs, p_eInt, p_eLng, p_eNll, p_eStr, p_eSta, p_eLoc, p_eBin, p_eDiv, p_eI2L, p_eL2I, p_eFld, p_eAr, p_eRo, p_eLen, eCal, p_eMt, p_eAbs, p_eBo, p_eCon, p_aA0, p_aA1, p_oCmp, p_oCm0, p_oCmpL, p_oNul, p_oAnd, p_oOr, p_oNot]
  exact congrArg (fun z => fin false (z [v0] M)) h
set_option maxRecDepth 100000 in
theorem g_X11_condition (d : Nat) : (ci_X11_condition (grp_X11_condition d)).2.2.2.2 = grp_X11_condition d 0 := rfl
noncomputable def wc1_X11_goOnAnd (D : Nat → Den) : CoD := (dAnd (dCmp .eq (dFld wM 11 4 (dLoc 0)) (dInt (-1))) (dCmp .eq (dCal wM ci_X11_look (dA1 dA0 (dLoc 0))) (dInt 38)))
noncomputable def wb1_X11_goOnAnd (D : Nat → Den) : StD := (dSeq (dUpdF wM 0 11 3 (dLoc 0) (dInt 1))
  (dSeq (dDo wM (ci_X11_unit D) (dA1 dA0 (dLoc 0)))
  (dDo wM ci_X11_put (dA1 (dA1 (dA1 dA0 (dLoc 0)) (dInt 10)) (dInt 0)))))
set_option maxRecDepth 100000 in
theorem u_X11_goOnAnd (d : Nat) (v0 : Int) (M : Mem) : grp_X11_condition (d + 1) 1 [v0] M = fin false ((dSeq (dWh (wc1_X11_goOnAnd (grp_X11_condition d)) (wb1_X11_goOnAnd (grp_X11_condition d)))
  dReV) [v0] M) := by
  have h : (a_X11_goOnAnd (grp_X11_condition d)).1.1 = (dSeq (dWh (wc1_X11_goOnAnd (grp_X11_condition d)) (wb1_X11_goOnAnd (grp_X11_condition d)))
  dReV) := by simp only [a_X11_goOnAnd, wc1_X11_goOnAnd, wb1_X11_goOnAnd, p_sSet, p_sInc, p_sPutF, p_sUpdF, p_sPutA, p_sUpdA, sDo, p_sCpy, p_sSeq, p_sIf, p_sIfE, p_sWh, p_sRet, p_sReV, p_sBlk, p_sSw, p_wDf, p_wCs, p_eInt, p_eLng, p_eNll, p_eStr, p_eSta, p_eLoc, p_eBin, p_eDiv, p_eI2L, p_eL2I, p_eFld, p_eAr, p_eRo, p_eLen, eCal, p_eMt, p_eAbs, p_eBo, p_eCon, p_aA0, p_aA1, p_oCmp, p_oCm0, p_oCmpL, p_oNul, p_oAnd, p_oOr, p_oNot]
  exact congrArg (fun z => fin false (z [v0] M)) h
set_option maxRecDepth 100000 in
theorem g_X11_goOnAnd (d : Nat) : (ci_X11_goOnAnd (grp_X11_condition d)).2.2.2.2 = grp_X11_condition d 1 := rfl
noncomputable def wc1_X11_goOnOr (D : Nat → Den) : CoD := (dAnd (dCmp .eq (dFld wM 11 4 (dLoc 0)) (dInt (-1))) (dCmp .eq (dCal wM ci_X11_look (dA1 dA0 (dLoc 0))) (dInt 124)))
noncomputable def wb1_X11_goOnOr (D : Nat → Den) : StD := (dSeq (dUpdF wM 0 11 3 (dLoc 0) (dInt 1))
  (dSeq (dDo wM (ci_X11_unit D) (dA1 dA0 (dLoc 0)))
  (dSeq (dDo wM (ci_X11_goOnAnd D) (dA1 dA0 (dLoc 0)))
  (dDo wM ci_X11_put (dA1 (dA1 (dA1 dA0 (dLoc 0)) (dInt 11)) (dInt 0))))))
set_option maxRecDepth 100000 in
theorem u_X11_goOnOr (d : Nat) (v0 : Int) (M : Mem) : grp_X11_condition (d + 1) 2 [v0] M = fin false ((dSeq (dWh (wc1_X11_goOnOr (grp_X11_condition d)) (wb1_X11_goOnOr (grp_X11_condition d)))
  dReV) [v0] M) := by
  have h : (a_X11_goOnOr (grp_X11_condition d)).1.1 = (dSeq (dWh (wc1_X11_goOnOr (grp_X11_condition d)) (wb1_X11_goOnOr (grp_X11_condition d)))
  dReV) := by simp only [a_X11_goOnOr, wc1_X11_goOnOr, wb1_X11_goOnOr, p_sSet, p_sInc, p_sPutF, p_sUpdF, p_sPutA, p_sUpdA, sDo, p_sCpy, p_sSeq, p_sIf, p_sIfE, p_sWh, p_sRet, p_sReV, p_sBlk, p_sSw, p_wDf, p_wCs, p_eInt, p_eLng, p_eNll, p_eStr, p_eSta, p_eLoc, p_eBin, p_eDiv, p_eI2L, p_eL2I, p_eFld, p_eAr, p_eRo, p_eLen, eCal, p_eMt, p_eAbs, p_eBo, p_eCon, p_aA0, p_aA1, p_oCmp, p_oCm0, p_oCmpL, p_oNul, p_oAnd, p_oOr, p_oNot]
  exact congrArg (fun z => fin false (z [v0] M)) h
set_option maxRecDepth 100000 in
theorem g_X11_goOnOr (d : Nat) : (ci_X11_goOnOr (grp_X11_condition d)).2.2.2.2 = grp_X11_condition d 2 := rfl
set_option maxRecDepth 100000 in
theorem u_X11_unit (d : Nat) (v0 : Int) (M : Mem) : grp_X11_condition (d + 1) 3 [v0] M = fin false ((dSeq (dSeq (dSet 1 (dCal wM ci_X11_look (dA1 dA0 (dLoc 0))))
  (dIfE (dCmp .eq (dLoc 1) (dInt 33)) (dSeq (dDo wM ci_X11_opens (dA1 dA0 (dLoc 0)))
  (dIf (dCmp .eq (dFld wM 11 4 (dLoc 0)) (dInt (-1))) (dSeq (dDo wM (ci_X11_unit (grp_X11_condition d)) (dA1 dA0 (dLoc 0)))
  (dSeq (dDo wM ci_X11_put (dA1 (dA1 (dA1 dA0 (dLoc 0)) (dInt 9)) (dInt 0)))
  (dUpdF wM 1 11 5 (dLoc 0) (dInt 1))))))
  (dIfE (dCmp .eq (dLoc 1) (dInt 40)) (dSeq (dDo wM ci_X11_opens (dA1 dA0 (dLoc 0)))
  (dIf (dCmp .eq (dFld wM 11 4 (dLoc 0)) (dInt (-1))) (dSeq (dDo wM (ci_X11_condition (grp_X11_condition d)) (dA1 dA0 (dLoc 0)))
  (dDo wM ci_X11_closes (dA1 (dA1 dA0 (dLoc 0)) (dInt 41))))))
  (dSeq (dDo wM (ci_X11_sum (grp_X11_sum 24)) (dA1 dA0 (dLoc 0)))
  (dIf (dCmp .eq (dFld wM 11 4 (dLoc 0)) (dInt (-1))) (dDo wM ci_X11_compare (dA1 dA0 (dLoc 0))))))))
  dReV) [v0, 0] M) := by
  have h : (a_X11_unit (grp_X11_condition d)).1.1 = (dSeq (dSeq (dSet 1 (dCal wM ci_X11_look (dA1 dA0 (dLoc 0))))
  (dIfE (dCmp .eq (dLoc 1) (dInt 33)) (dSeq (dDo wM ci_X11_opens (dA1 dA0 (dLoc 0)))
  (dIf (dCmp .eq (dFld wM 11 4 (dLoc 0)) (dInt (-1))) (dSeq (dDo wM (ci_X11_unit (grp_X11_condition d)) (dA1 dA0 (dLoc 0)))
  (dSeq (dDo wM ci_X11_put (dA1 (dA1 (dA1 dA0 (dLoc 0)) (dInt 9)) (dInt 0)))
  (dUpdF wM 1 11 5 (dLoc 0) (dInt 1))))))
  (dIfE (dCmp .eq (dLoc 1) (dInt 40)) (dSeq (dDo wM ci_X11_opens (dA1 dA0 (dLoc 0)))
  (dIf (dCmp .eq (dFld wM 11 4 (dLoc 0)) (dInt (-1))) (dSeq (dDo wM (ci_X11_condition (grp_X11_condition d)) (dA1 dA0 (dLoc 0)))
  (dDo wM ci_X11_closes (dA1 (dA1 dA0 (dLoc 0)) (dInt 41))))))
  (dSeq (dDo wM (ci_X11_sum (grp_X11_sum 24)) (dA1 dA0 (dLoc 0)))
  (dIf (dCmp .eq (dFld wM 11 4 (dLoc 0)) (dInt (-1))) (dDo wM ci_X11_compare (dA1 dA0 (dLoc 0))))))))
  dReV) := by simp only [a_X11_unit, p_sSet, p_sInc, p_sPutF, p_sUpdF, p_sPutA, p_sUpdA, sDo, p_sCpy, p_sSeq, p_sIf, p_sIfE, p_sWh, p_sRet, p_sReV, p_sBlk, p_sSw, p_wDf, p_wCs, p_eInt, p_eLng, p_eNll, p_eStr, p_eSta, p_eLoc, p_eBin, p_eDiv, p_eI2L, p_eL2I, p_eFld, p_eAr, p_eRo, p_eLen, eCal, p_eMt, p_eAbs, p_eBo, p_eCon, p_aA0, p_aA1, p_oCmp, p_oCm0, p_oCmpL, p_oNul, p_oAnd, p_oOr, p_oNot]
  exact congrArg (fun z => fin false (z [v0, 0] M)) h
set_option maxRecDepth 100000 in
theorem g_X11_unit (d : Nat) : (ci_X11_unit (grp_X11_condition d)).2.2.2.2 = grp_X11_condition d 3 := rfl
set_option maxRecDepth 100000 in
theorem u_X11_clause (v0 : Int) (M : Mem) : ci_X11_clause.2.2.2.2 [v0] M = fin false ((dSeq (dSeq (dSet 1 (dBin (opF 0) (dBin (opF 2) (dInt 140) (dFld wM 11 14 (dLoc 0))) (dAr wM 0 (dFld wM 11 9 (dLoc 0)) (dFld wM 11 14 (dLoc 0)))))
  (dSeq (dIf (dAnd (dCmp .eq (dFld wM 11 4 (dLoc 0)) (dInt (-1))) (dCmp .ne (dCal wM ci_X11_look (dA1 dA0 (dLoc 0))) (dInt 121))) (dDo wM ci_X11_bad (dA1 dA0 (dLoc 0))))
  (dSeq (dUpdF wM 0 11 3 (dLoc 0) (dInt 1))
  (dSeq (dIf (dAnd (dCmp .eq (dFld wM 11 4 (dLoc 0)) (dInt (-1))) (dCmp .ne (dCal wM ci_X11_look (dA1 dA0 (dLoc 0))) (dInt 58))) (dDo wM ci_X11_bad (dA1 dA0 (dLoc 0))))
  (dSeq (dUpdF wM 0 11 3 (dLoc 0) (dInt 1))
  (dSeq (dIf (dCmp .ne (dFld wM 11 4 (dLoc 0)) (dInt (-1))) dReV)
  (dSeq (dPutA wM 0 (dFld wM 11 10 (dLoc 0)) (dLoc 1) (dAr wM 0 (dFld wM 11 8 (dLoc 0)) (dFld wM 11 14 (dLoc 0))))
  (dSeq (dSet 2 (dBo (dOr (dCmp .eq (dCal wM ci_X11_look (dA1 dA0 (dLoc 0))) (dInt 33)) (dCmp .eq (dCal wM ci_X11_look (dA1 dA0 (dLoc 0))) (dInt 40)))))
  (dSeq (dIfE (dCm0 .ne (dLoc 2)) (dDo wM (ci_X11_condition (grp_X11_condition 30)) (dA1 dA0 (dLoc 0)))
  (dSeq (dDo wM (ci_X11_sum (grp_X11_sum 24)) (dA1 dA0 (dLoc 0)))
  (dSeq (dSet 2 (dBo (dAnd (dCmp .eq (dFld wM 11 4 (dLoc 0)) (dInt (-1))) (dCm0 .ne (dCal wM ci_X11_isSign (dA1 dA0 (dCal wM ci_X11_look (dA1 dA0 (dLoc 0)))))))))
  (dIf (dCm0 .ne (dLoc 2)) (dSeq (dDo wM ci_X11_compare (dA1 dA0 (dLoc 0)))
  (dSeq (dDo wM (ci_X11_goOnAnd (grp_X11_condition 30)) (dA1 dA0 (dLoc 0)))
  (dDo wM (ci_X11_goOnOr (grp_X11_condition 30)) (dA1 dA0 (dLoc 0)))))))))
  (dSeq (dPutA wM 0 (dFld wM 11 11 (dLoc 0)) (dLoc 1) (dAr wM 0 (dFld wM 11 10 (dLoc 0)) (dLoc 1)))
  (dSeq (dIf (dAnd (dCm0 .ne (dLoc 2)) (dCmp .eq (dFld wM 11 4 (dLoc 0)) (dInt (-1)))) (dSeq (dIf (dCmp .ne (dCal wM ci_X11_look (dA1 dA0 (dLoc 0))) (dInt 63)) (dSeq (dDo wM ci_X11_bad (dA1 dA0 (dLoc 0)))
  dReV))
  (dSeq (dUpdF wM 0 11 3 (dLoc 0) (dInt 1))
  (dSeq (dPutA wM 0 (dFld wM 11 11 (dLoc 0)) (dLoc 1) (dAr wM 0 (dFld wM 11 8 (dLoc 0)) (dFld wM 11 14 (dLoc 0))))
  (dDo wM (ci_X11_sum (grp_X11_sum 24)) (dA1 dA0 (dLoc 0)))))))
  (dSeq (dPutA wM 0 (dFld wM 11 12 (dLoc 0)) (dLoc 1) (dAr wM 0 (dFld wM 11 8 (dLoc 0)) (dFld wM 11 14 (dLoc 0))))
  (dUpdA wM 0 (dFld wM 11 9 (dLoc 0)) (dFld wM 11 14 (dLoc 0)) (dInt 1))))))))))))))
  dReV) [v0, 0, 0] M) := by
  have h : a_X11_clause.1.1 = (dSeq (dSeq (dSet 1 (dBin (opF 0) (dBin (opF 2) (dInt 140) (dFld wM 11 14 (dLoc 0))) (dAr wM 0 (dFld wM 11 9 (dLoc 0)) (dFld wM 11 14 (dLoc 0)))))
  (dSeq (dIf (dAnd (dCmp .eq (dFld wM 11 4 (dLoc 0)) (dInt (-1))) (dCmp .ne (dCal wM ci_X11_look (dA1 dA0 (dLoc 0))) (dInt 121))) (dDo wM ci_X11_bad (dA1 dA0 (dLoc 0))))
  (dSeq (dUpdF wM 0 11 3 (dLoc 0) (dInt 1))
  (dSeq (dIf (dAnd (dCmp .eq (dFld wM 11 4 (dLoc 0)) (dInt (-1))) (dCmp .ne (dCal wM ci_X11_look (dA1 dA0 (dLoc 0))) (dInt 58))) (dDo wM ci_X11_bad (dA1 dA0 (dLoc 0))))
  (dSeq (dUpdF wM 0 11 3 (dLoc 0) (dInt 1))
  (dSeq (dIf (dCmp .ne (dFld wM 11 4 (dLoc 0)) (dInt (-1))) dReV)
  (dSeq (dPutA wM 0 (dFld wM 11 10 (dLoc 0)) (dLoc 1) (dAr wM 0 (dFld wM 11 8 (dLoc 0)) (dFld wM 11 14 (dLoc 0))))
  (dSeq (dSet 2 (dBo (dOr (dCmp .eq (dCal wM ci_X11_look (dA1 dA0 (dLoc 0))) (dInt 33)) (dCmp .eq (dCal wM ci_X11_look (dA1 dA0 (dLoc 0))) (dInt 40)))))
  (dSeq (dIfE (dCm0 .ne (dLoc 2)) (dDo wM (ci_X11_condition (grp_X11_condition 30)) (dA1 dA0 (dLoc 0)))
  (dSeq (dDo wM (ci_X11_sum (grp_X11_sum 24)) (dA1 dA0 (dLoc 0)))
  (dSeq (dSet 2 (dBo (dAnd (dCmp .eq (dFld wM 11 4 (dLoc 0)) (dInt (-1))) (dCm0 .ne (dCal wM ci_X11_isSign (dA1 dA0 (dCal wM ci_X11_look (dA1 dA0 (dLoc 0)))))))))
  (dIf (dCm0 .ne (dLoc 2)) (dSeq (dDo wM ci_X11_compare (dA1 dA0 (dLoc 0)))
  (dSeq (dDo wM (ci_X11_goOnAnd (grp_X11_condition 30)) (dA1 dA0 (dLoc 0)))
  (dDo wM (ci_X11_goOnOr (grp_X11_condition 30)) (dA1 dA0 (dLoc 0)))))))))
  (dSeq (dPutA wM 0 (dFld wM 11 11 (dLoc 0)) (dLoc 1) (dAr wM 0 (dFld wM 11 10 (dLoc 0)) (dLoc 1)))
  (dSeq (dIf (dAnd (dCm0 .ne (dLoc 2)) (dCmp .eq (dFld wM 11 4 (dLoc 0)) (dInt (-1)))) (dSeq (dIf (dCmp .ne (dCal wM ci_X11_look (dA1 dA0 (dLoc 0))) (dInt 63)) (dSeq (dDo wM ci_X11_bad (dA1 dA0 (dLoc 0)))
  dReV))
  (dSeq (dUpdF wM 0 11 3 (dLoc 0) (dInt 1))
  (dSeq (dPutA wM 0 (dFld wM 11 11 (dLoc 0)) (dLoc 1) (dAr wM 0 (dFld wM 11 8 (dLoc 0)) (dFld wM 11 14 (dLoc 0))))
  (dDo wM (ci_X11_sum (grp_X11_sum 24)) (dA1 dA0 (dLoc 0)))))))
  (dSeq (dPutA wM 0 (dFld wM 11 12 (dLoc 0)) (dLoc 1) (dAr wM 0 (dFld wM 11 8 (dLoc 0)) (dFld wM 11 14 (dLoc 0))))
  (dUpdA wM 0 (dFld wM 11 9 (dLoc 0)) (dFld wM 11 14 (dLoc 0)) (dInt 1))))))))))))))
  dReV) := by simp only [a_X11_clause, p_sSet, p_sInc, p_sPutF, p_sUpdF, p_sPutA, p_sUpdA, sDo, p_sCpy, p_sSeq, p_sIf, p_sIfE, p_sWh, p_sRet, p_sReV, p_sBlk, p_sSw, p_wDf, p_wCs, p_eInt, p_eLng, p_eNll, p_eStr, p_eSta, p_eLoc, p_eBin, p_eDiv, p_eI2L, p_eL2I, p_eFld, p_eAr, p_eRo, p_eLen, eCal, p_eMt, p_eAbs, p_eBo, p_eCon, p_aA0, p_aA1, p_oCmp, p_oCm0, p_oCmpL, p_oNul, p_oAnd, p_oOr, p_oNot]
  exact congrArg (fun z => fin false (z [v0, 0, 0] M)) h
set_option maxRecDepth 100000 in
theorem u_X11_open (v0 v1 : Int) (M : Mem) : ci_X11_open.2.2.2.2 [v0, v1] M = fin false ((dSeq (dSeq (dPutF wM 11 14 (dLoc 0) (dLoc 1))
  (dSeq (dPutF wM 11 3 (dLoc 0) (dInt 0))
  (dSeq (dPutF wM 11 4 (dLoc 0) (dInt (-1)))
  (dSeq (dPutF wM 11 5 (dLoc 0) (dInt 0))
  (dSeq (dPutA wM 0 (dFld wM 11 8 (dLoc 0)) (dLoc 1) (dInt 0))
  (dPutA wM 0 (dFld wM 11 9 (dLoc 0)) (dLoc 1) (dInt 0)))))))
  dReV) [v0, v1] M) := by
  have h : a_X11_open.1.1 = (dSeq (dSeq (dPutF wM 11 14 (dLoc 0) (dLoc 1))
  (dSeq (dPutF wM 11 3 (dLoc 0) (dInt 0))
  (dSeq (dPutF wM 11 4 (dLoc 0) (dInt (-1)))
  (dSeq (dPutF wM 11 5 (dLoc 0) (dInt 0))
  (dSeq (dPutA wM 0 (dFld wM 11 8 (dLoc 0)) (dLoc 1) (dInt 0))
  (dPutA wM 0 (dFld wM 11 9 (dLoc 0)) (dLoc 1) (dInt 0)))))))
  dReV) := by simp only [a_X11_open, p_sSet, p_sInc, p_sPutF, p_sUpdF, p_sPutA, p_sUpdA, sDo, p_sCpy, p_sSeq, p_sIf, p_sIfE, p_sWh, p_sRet, p_sReV, p_sBlk, p_sSw, p_wDf, p_wCs, p_eInt, p_eLng, p_eNll, p_eStr, p_eSta, p_eLoc, p_eBin, p_eDiv, p_eI2L, p_eL2I, p_eFld, p_eAr, p_eRo, p_eLen, eCal, p_eMt, p_eAbs, p_eBo, p_eCon, p_aA0, p_aA1, p_oCmp, p_oCm0, p_oCmpL, p_oNul, p_oAnd, p_oOr, p_oNot]
  exact congrArg (fun z => fin false (z [v0, v1] M)) h
set_option maxRecDepth 100000 in
theorem u_X11_atEnd (v0 : Int) (M : Mem) : ci_X11_atEnd.2.2.2.2 [v0] M = fin false ((dSeq (dIf (dAnd (dCmp .eq (dFld wM 11 4 (dLoc 0)) (dInt (-1))) (dCmp .ne (dCal wM ci_X11_look (dA1 dA0 (dLoc 0))) (dInt (-1)))) (dDo wM ci_X11_bad (dA1 dA0 (dLoc 0))))
  (dRet (dFld wM 11 4 (dLoc 0)))) [v0] M) := by
  have h : a_X11_atEnd.1.1 = (dSeq (dIf (dAnd (dCmp .eq (dFld wM 11 4 (dLoc 0)) (dInt (-1))) (dCmp .ne (dCal wM ci_X11_look (dA1 dA0 (dLoc 0))) (dInt (-1)))) (dDo wM ci_X11_bad (dA1 dA0 (dLoc 0))))
  (dRet (dFld wM 11 4 (dLoc 0)))) := by simp only [a_X11_atEnd, p_sSet, p_sInc, p_sPutF, p_sUpdF, p_sPutA, p_sUpdA, sDo, p_sCpy, p_sSeq, p_sIf, p_sIfE, p_sWh, p_sRet, p_sReV, p_sBlk, p_sSw, p_wDf, p_wCs, p_eInt, p_eLng, p_eNll, p_eStr, p_eSta, p_eLoc, p_eBin, p_eDiv, p_eI2L, p_eL2I, p_eFld, p_eAr, p_eRo, p_eLen, eCal, p_eMt, p_eAbs, p_eBo, p_eCon, p_aA0, p_aA1, p_oCmp, p_oCm0, p_oCmpL, p_oNul, p_oAnd, p_oOr, p_oNot]
  exact congrArg (fun z => fin false (z [v0] M)) h
noncomputable def wc1_X11_readLaw : CoD := (dAnd (dCmp .eq (dFld wM 11 4 (dLoc 0)) (dInt (-1))) (dCmp .eq (dCal wM ci_X11_look (dA1 dA0 (dLoc 0))) (dInt 59)))
noncomputable def wb1_X11_readLaw : StD := (dSeq (dUpdF wM 0 11 3 (dLoc 0) (dInt 1))
  (dDo wM ci_X11_clause (dA1 dA0 (dLoc 0))))
set_option maxRecDepth 100000 in
theorem u_X11_readLaw (v0 v1 : Int) (M : Mem) : ci_X11_readLaw.2.2.2.2 [v0, v1] M = fin false ((dSeq (dDo wM ci_X11_open (dA1 (dA1 dA0 (dLoc 0)) (dLoc 1)))
  (dSeq (dDo wM ci_X11_clause (dA1 dA0 (dLoc 0)))
  (dSeq (dWh (wc1_X11_readLaw) (wb1_X11_readLaw))
  (dRet (dCal wM ci_X11_atEnd (dA1 dA0 (dLoc 0))))))) [v0, v1] M) := by
  have h : a_X11_readLaw.1.1 = (dSeq (dDo wM ci_X11_open (dA1 (dA1 dA0 (dLoc 0)) (dLoc 1)))
  (dSeq (dDo wM ci_X11_clause (dA1 dA0 (dLoc 0)))
  (dSeq (dWh (wc1_X11_readLaw) (wb1_X11_readLaw))
  (dRet (dCal wM ci_X11_atEnd (dA1 dA0 (dLoc 0))))))) := by simp only [a_X11_readLaw, wc1_X11_readLaw, wb1_X11_readLaw, p_sSet, p_sInc, p_sPutF, p_sUpdF, p_sPutA, p_sUpdA, sDo, p_sCpy, p_sSeq, p_sIf, p_sIfE, p_sWh, p_sRet, p_sReV, p_sBlk, p_sSw, p_wDf, p_wCs, p_eInt, p_eLng, p_eNll, p_eStr, p_eSta, p_eLoc, p_eBin, p_eDiv, p_eI2L, p_eL2I, p_eFld, p_eAr, p_eRo, p_eLen, eCal, p_eMt, p_eAbs, p_eBo, p_eCon, p_aA0, p_aA1, p_oCmp, p_oCm0, p_oCmpL, p_oNul, p_oAnd, p_oOr, p_oNot]
  exact congrArg (fun z => fin false (z [v0, v1] M)) h
set_option maxRecDepth 100000 in
theorem u_X11_bounded (v0 : Int) (M : Mem) : ci_X11_bounded.2.2.2.2 [v0] M = fin false ((dRet (dUn id (dBin (mtF 3) (dInt (-1000000)) (dBin (mtF 4) (dInt 1000000) (dLoc 0))))) [v0, 0] M) := by
  have h : a_X11_bounded.1.1 = (dRet (dUn id (dBin (mtF 3) (dInt (-1000000)) (dBin (mtF 4) (dInt 1000000) (dLoc 0))))) := by simp only [a_X11_bounded, p_sSet, p_sInc, p_sPutF, p_sUpdF, p_sPutA, p_sUpdA, sDo, p_sCpy, p_sSeq, p_sIf, p_sIfE, p_sWh, p_sRet, p_sReV, p_sBlk, p_sSw, p_wDf, p_wCs, p_eInt, p_eLng, p_eNll, p_eStr, p_eSta, p_eLoc, p_eBin, p_eDiv, p_eI2L, p_eL2I, p_eFld, p_eAr, p_eRo, p_eLen, eCal, p_eMt, p_eAbs, p_eBo, p_eCon, p_aA0, p_aA1, p_oCmp, p_oCm0, p_oCmpL, p_oNul, p_oAnd, p_oOr, p_oNot]
  exact congrArg (fun z => fin false (z [v0, 0] M)) h
set_option maxRecDepth 100000 in
theorem u_X11_worked (v0 v1 v2 : Int) (M : Mem) : ci_X11_worked.2.2.2.2 [v0, v1, v2] M = fin false ((dSw (dLoc 0) (dCs 2 (dRet (dCal wM ci_X11_bounded (dA1 dA0 (dBin (opF 9) (dLoc 1) (dLoc 3)))))
  (dCs 3 (dRet (dCal wM ci_X11_bounded (dA1 dA0 (dBin (opF 10) (dLoc 1) (dLoc 3)))))
  (dCs 4 (dRet (dCal wM ci_X11_bounded (dA1 dA0 (dBin (opF 11) (dLoc 1) (dLoc 3)))))
  (dCs 5 (dRet (dCon (dCmpL .eq (dLoc 3) (dInt 0)) (dInt 0) (dCal wM ci_X11_bounded (dA1 dA0 (dDiv (dvF 2) (dvW 2) (dLoc 1) (dLoc 3))))))
  (dCs 6 (dRet (dCon (dCmpL .eq (dLoc 1) (dLoc 3)) (dInt 1) (dInt 0)))
  (dCs 7 (dRet (dCon (dCmpL .lt (dLoc 1) (dLoc 3)) (dInt 1) (dInt 0)))
  (dCs 8 (dRet (dCon (dCmpL .gt (dLoc 1) (dLoc 3)) (dInt 1) (dInt 0)))
  (dCs 10 (dRet (dCon (dAnd (dCmpL .ne (dLoc 1) (dInt 0)) (dCmpL .ne (dLoc 3) (dInt 0))) (dInt 1) (dInt 0)))
  (fun _ => (dRet (dCon (dOr (dCmpL .ne (dLoc 1) (dInt 0)) (dCmpL .ne (dLoc 3) (dInt 0))) (dInt 1) (dInt 0))))))))))))) [v0, v1, 0, v2, 0] M) := by
  have h : a_X11_worked.1.1 = (dSw (dLoc 0) (dCs 2 (dRet (dCal wM ci_X11_bounded (dA1 dA0 (dBin (opF 9) (dLoc 1) (dLoc 3)))))
  (dCs 3 (dRet (dCal wM ci_X11_bounded (dA1 dA0 (dBin (opF 10) (dLoc 1) (dLoc 3)))))
  (dCs 4 (dRet (dCal wM ci_X11_bounded (dA1 dA0 (dBin (opF 11) (dLoc 1) (dLoc 3)))))
  (dCs 5 (dRet (dCon (dCmpL .eq (dLoc 3) (dInt 0)) (dInt 0) (dCal wM ci_X11_bounded (dA1 dA0 (dDiv (dvF 2) (dvW 2) (dLoc 1) (dLoc 3))))))
  (dCs 6 (dRet (dCon (dCmpL .eq (dLoc 1) (dLoc 3)) (dInt 1) (dInt 0)))
  (dCs 7 (dRet (dCon (dCmpL .lt (dLoc 1) (dLoc 3)) (dInt 1) (dInt 0)))
  (dCs 8 (dRet (dCon (dCmpL .gt (dLoc 1) (dLoc 3)) (dInt 1) (dInt 0)))
  (dCs 10 (dRet (dCon (dAnd (dCmpL .ne (dLoc 1) (dInt 0)) (dCmpL .ne (dLoc 3) (dInt 0))) (dInt 1) (dInt 0)))
  (fun _ => (dRet (dCon (dOr (dCmpL .ne (dLoc 1) (dInt 0)) (dCmpL .ne (dLoc 3) (dInt 0))) (dInt 1) (dInt 0))))))))))))) := by simp only [a_X11_worked, p_sSet, p_sInc, p_sPutF, p_sUpdF, p_sPutA, p_sUpdA, sDo, p_sCpy, p_sSeq, p_sIf, p_sIfE, p_sWh, p_sRet, p_sReV, p_sBlk, p_sSw, p_wDf, p_wCs, p_eInt, p_eLng, p_eNll, p_eStr, p_eSta, p_eLoc, p_eBin, p_eDiv, p_eI2L, p_eL2I, p_eFld, p_eAr, p_eRo, p_eLen, eCal, p_eMt, p_eAbs, p_eBo, p_eCon, p_aA0, p_aA1, p_oCmp, p_oCm0, p_oCmpL, p_oNul, p_oAnd, p_oOr, p_oNot]
  exact congrArg (fun z => fin false (z [v0, v1, 0, v2, 0] M)) h
noncomputable def wc1_X11_workOut : CoD := (dCmp .lt (dLoc 5) (dBin (opF 0) (dBin (opF 2) (dInt 520) (dLoc 1)) (dLoc 3)))
noncomputable def wb1_X11_workOut : StD := (dSeq (dIfE (dOr (dCm0 .eq (dAr wM 0 (dFld wM 11 6 (dLoc 0)) (dLoc 5))) (dCmp .eq (dAr wM 0 (dFld wM 11 6 (dLoc 0)) (dLoc 5)) (dInt 1))) (dSeq (dPutA wM 0 (dFld wM 11 16 (dLoc 0)) (dLoc 4) (dCon (dCm0 .eq (dAr wM 0 (dFld wM 11 6 (dLoc 0)) (dLoc 5))) (dAr wM 0 (dFld wM 11 7 (dLoc 0)) (dLoc 5)) (dAr wM 0 (dFld wM 11 15 (dLoc 0)) (dAr wM 0 (dFld wM 11 7 (dLoc 0)) (dLoc 5)))))
  (dInc 4 1))
  (dIfE (dCmp .eq (dAr wM 0 (dFld wM 11 6 (dLoc 0)) (dLoc 5)) (dInt 9)) (dPutA wM 0 (dFld wM 11 16 (dLoc 0)) (dBin (opF 1) (dLoc 4) (dInt 1)) (dBin (opF 1) (dInt 1) (dAr wM 0 (dFld wM 11 16 (dLoc 0)) (dBin (opF 1) (dLoc 4) (dInt 1)))))
  (dSeq (dInc 4 (-1))
  (dPutA wM 0 (dFld wM 11 16 (dLoc 0)) (dBin (opF 1) (dLoc 4) (dInt 1)) (dCal wM ci_X11_worked (dA1 (dA1 (dA1 dA0 (dAr wM 0 (dFld wM 11 6 (dLoc 0)) (dLoc 5))) (dUn wr (dAr wM 0 (dFld wM 11 16 (dLoc 0)) (dBin (opF 1) (dLoc 4) (dInt 1))))) (dUn wr (dAr wM 0 (dFld wM 11 16 (dLoc 0)) (dLoc 4)))))))))
  (dInc 5 1))
set_option maxRecDepth 100000 in
theorem u_X11_workOut (v0 v1 v2 v3 : Int) (M : Mem) : ci_X11_workOut.2.2.2.2 [v0, v1, v2, v3] M = fin false ((dSeq (dSet 4 (dInt 0))
  (dSeq (dSeq (dSet 5 (dBin (opF 0) (dBin (opF 2) (dInt 520) (dLoc 1)) (dLoc 2)))
  (dWh (wc1_X11_workOut) (wb1_X11_workOut)))
  (dRet (dAr wM 0 (dFld wM 11 16 (dLoc 0)) (dInt 0))))) [v0, v1, v2, v3, 0, 0] M) := by
  have h : a_X11_workOut.1.1 = (dSeq (dSet 4 (dInt 0))
  (dSeq (dSeq (dSet 5 (dBin (opF 0) (dBin (opF 2) (dInt 520) (dLoc 1)) (dLoc 2)))
  (dWh (wc1_X11_workOut) (wb1_X11_workOut)))
  (dRet (dAr wM 0 (dFld wM 11 16 (dLoc 0)) (dInt 0))))) := by simp only [a_X11_workOut, wc1_X11_workOut, wb1_X11_workOut, p_sSet, p_sInc, p_sPutF, p_sUpdF, p_sPutA, p_sUpdA, sDo, p_sCpy, p_sSeq, p_sIf, p_sIfE, p_sWh, p_sRet, p_sReV, p_sBlk, p_sSw, p_wDf, p_wCs, p_eInt, p_eLng, p_eNll, p_eStr, p_eSta, p_eLoc, p_eBin, p_eDiv, p_eI2L, p_eL2I, p_eFld, p_eAr, p_eRo, p_eLen, eCal, p_eMt, p_eAbs, p_eBo, p_eCon, p_aA0, p_aA1, p_oCmp, p_oCm0, p_oCmpL, p_oNul, p_oAnd, p_oOr, p_oNot]
  exact congrArg (fun z => fin false (z [v0, v1, v2, v3, 0, 0] M)) h
noncomputable def wc1_X11_worthOf : CoD := (dCmp .lt (dLoc 2) (dBin (opF 0) (dBin (opF 2) (dInt 140) (dLoc 1)) (dAr wM 0 (dFld wM 11 9 (dLoc 0)) (dLoc 1))))
noncomputable def wb1_X11_worthOf : StD := (dSeq (dIf (dOr (dCmp .eq (dAr wM 0 (dFld wM 11 10 (dLoc 0)) (dLoc 2)) (dAr wM 0 (dFld wM 11 11 (dLoc 0)) (dLoc 2))) (dCm0 .ne (dCal wM ci_X11_workOut (dA1 (dA1 (dA1 (dA1 dA0 (dLoc 0)) (dLoc 1)) (dAr wM 0 (dFld wM 11 10 (dLoc 0)) (dLoc 2))) (dAr wM 0 (dFld wM 11 11 (dLoc 0)) (dLoc 2)))))) (dRet (dCal wM ci_X11_workOut (dA1 (dA1 (dA1 (dA1 dA0 (dLoc 0)) (dLoc 1)) (dAr wM 0 (dFld wM 11 11 (dLoc 0)) (dLoc 2))) (dAr wM 0 (dFld wM 11 12 (dLoc 0)) (dLoc 2))))))
  (dInc 2 1))
set_option maxRecDepth 100000 in
theorem u_X11_worthOf (v0 v1 : Int) (M : Mem) : ci_X11_worthOf.2.2.2.2 [v0, v1] M = fin false ((dSeq (dSeq (dSet 2 (dBin (opF 2) (dInt 140) (dLoc 1)))
  (dWh (wc1_X11_worthOf) (wb1_X11_worthOf)))
  (dRet (dInt 0))) [v0, v1, 0] M) := by
  have h : a_X11_worthOf.1.1 = (dSeq (dSeq (dSet 2 (dBin (opF 2) (dInt 140) (dLoc 1)))
  (dWh (wc1_X11_worthOf) (wb1_X11_worthOf)))
  (dRet (dInt 0))) := by simp only [a_X11_worthOf, wc1_X11_worthOf, wb1_X11_worthOf, p_sSet, p_sInc, p_sPutF, p_sUpdF, p_sPutA, p_sUpdA, sDo, p_sCpy, p_sSeq, p_sIf, p_sIfE, p_sWh, p_sRet, p_sReV, p_sBlk, p_sSw, p_wDf, p_wCs, p_eInt, p_eLng, p_eNll, p_eStr, p_eSta, p_eLoc, p_eBin, p_eDiv, p_eI2L, p_eL2I, p_eFld, p_eAr, p_eRo, p_eLen, eCal, p_eMt, p_eAbs, p_eBo, p_eCon, p_aA0, p_aA1, p_oCmp, p_oCm0, p_oCmpL, p_oNul, p_oAnd, p_oOr, p_oNot]
  exact congrArg (fun z => fin false (z [v0, v1, 0] M)) h
set_option maxRecDepth 100000 in
theorem u_X11_number (v0 v1 v2 : Int) (M : Mem) : ci_X11_number.2.2.2.2 [v0, v1, v2] M = fin false ((dSeq (dIf (dNot (dCm0 .ne (dCal wM ci_X11_isDigit (dA1 dA0 (dCal wM ci_X11_look (dA1 dA0 (dLoc 0))))))) (dSeq (dDo wM ci_X11_bad (dA1 dA0 (dLoc 0)))
  (dRet (dLoc 1))))
  (dSeq (dSet 3 (dBin (opF 1) (dCal wM ci_X11_here (dA1 dA0 (dLoc 0))) (dInt 48)))
  (dSeq (dUpdF wM 0 11 3 (dLoc 0) (dInt 1))
  (dSeq (dIf (dCm0 .ne (dCal wM ci_X11_isDigit (dA1 dA0 (dCal wM ci_X11_here (dA1 dA0 (dLoc 0)))))) (dSeq (dSet 3 (dBin (opF 1) (dBin (opF 0) (dBin (opF 2) (dInt 10) (dLoc 3)) (dCal wM ci_X11_here (dA1 dA0 (dLoc 0)))) (dInt 48)))
  (dUpdF wM 0 11 3 (dLoc 0) (dInt 1))))
  (dSeq (dIfE (dCm0 .ne (dCal wM ci_X11_isDigit (dA1 dA0 (dCal wM ci_X11_here (dA1 dA0 (dLoc 0)))))) (dDo wM ci_X11_bad (dA1 dA0 (dLoc 0)))
  (dIf (dNot (dCm0 .ne (dCal wM ci_X11_in (dA1 (dA1 (dA1 dA0 (dLoc 3)) (dLoc 1)) (dLoc 2))))) (dSeq (dUpdF wM 1 11 3 (dLoc 0) (dInt 1))
  (dDo wM ci_X11_bad (dA1 dA0 (dLoc 0))))))
  (dRet (dLoc 3))))))) [v0, v1, v2, 0] M) := by
  have h : a_X11_number.1.1 = (dSeq (dIf (dNot (dCm0 .ne (dCal wM ci_X11_isDigit (dA1 dA0 (dCal wM ci_X11_look (dA1 dA0 (dLoc 0))))))) (dSeq (dDo wM ci_X11_bad (dA1 dA0 (dLoc 0)))
  (dRet (dLoc 1))))
  (dSeq (dSet 3 (dBin (opF 1) (dCal wM ci_X11_here (dA1 dA0 (dLoc 0))) (dInt 48)))
  (dSeq (dUpdF wM 0 11 3 (dLoc 0) (dInt 1))
  (dSeq (dIf (dCm0 .ne (dCal wM ci_X11_isDigit (dA1 dA0 (dCal wM ci_X11_here (dA1 dA0 (dLoc 0)))))) (dSeq (dSet 3 (dBin (opF 1) (dBin (opF 0) (dBin (opF 2) (dInt 10) (dLoc 3)) (dCal wM ci_X11_here (dA1 dA0 (dLoc 0)))) (dInt 48)))
  (dUpdF wM 0 11 3 (dLoc 0) (dInt 1))))
  (dSeq (dIfE (dCm0 .ne (dCal wM ci_X11_isDigit (dA1 dA0 (dCal wM ci_X11_here (dA1 dA0 (dLoc 0)))))) (dDo wM ci_X11_bad (dA1 dA0 (dLoc 0)))
  (dIf (dNot (dCm0 .ne (dCal wM ci_X11_in (dA1 (dA1 (dA1 dA0 (dLoc 3)) (dLoc 1)) (dLoc 2))))) (dSeq (dUpdF wM 1 11 3 (dLoc 0) (dInt 1))
  (dDo wM ci_X11_bad (dA1 dA0 (dLoc 0))))))
  (dRet (dLoc 3))))))) := by simp only [a_X11_number, p_sSet, p_sInc, p_sPutF, p_sUpdF, p_sPutA, p_sUpdA, sDo, p_sCpy, p_sSeq, p_sIf, p_sIfE, p_sWh, p_sRet, p_sReV, p_sBlk, p_sSw, p_wDf, p_wCs, p_eInt, p_eLng, p_eNll, p_eStr, p_eSta, p_eLoc, p_eBin, p_eDiv, p_eI2L, p_eL2I, p_eFld, p_eAr, p_eRo, p_eLen, eCal, p_eMt, p_eAbs, p_eBo, p_eCon, p_aA0, p_aA1, p_oCmp, p_oCm0, p_oCmpL, p_oNul, p_oAnd, p_oOr, p_oNot]
  exact congrArg (fun z => fin false (z [v0, v1, v2, 0] M)) h
set_option maxRecDepth 100000 in
theorem u_X11_itemOf (v0 v1 : Int) (M : Mem) : ci_X11_itemOf.2.2.2.2 [v0, v1] M = fin false ((dSw (dLoc 0) (dCs 115 (dRet (dCon (dCmp .eq (dLoc 1) (dInt 112)) (dInt 0) (dCon (dCmp .eq (dLoc 1) (dInt 108)) (dInt 1) (dCon (dCmp .eq (dLoc 1) (dInt 104)) (dInt 2) (dCon (dCmp .eq (dLoc 1) (dInt 121)) (dInt 3) (dInt (-1)))))))
  (dCs 108 (dRet (dCon (dCmp .eq (dLoc 1) (dInt 97)) (dInt 0) (dCon (dCmp .eq (dLoc 1) (dInt 115)) (dInt 1) (dCon (dCmp .eq (dLoc 1) (dInt 107)) (dInt 2) (dCon (dCmp .eq (dLoc 1) (dInt 102)) (dInt 3) (dCon (dCmp .eq (dLoc 1) (dInt 111)) (dInt 4) (dInt (-1))))))))
  (fun _ => (dRet (dCon (dCmp .eq (dLoc 1) (dInt 97)) (dInt 0) (dCon (dCmp .eq (dLoc 1) (dInt 98)) (dInt 1) (dCon (dCmp .eq (dLoc 1) (dInt 104)) (dInt 2) (dInt (-1)))))))))) [v0, v1] M) := by
  have h : a_X11_itemOf.1.1 = (dSw (dLoc 0) (dCs 115 (dRet (dCon (dCmp .eq (dLoc 1) (dInt 112)) (dInt 0) (dCon (dCmp .eq (dLoc 1) (dInt 108)) (dInt 1) (dCon (dCmp .eq (dLoc 1) (dInt 104)) (dInt 2) (dCon (dCmp .eq (dLoc 1) (dInt 121)) (dInt 3) (dInt (-1)))))))
  (dCs 108 (dRet (dCon (dCmp .eq (dLoc 1) (dInt 97)) (dInt 0) (dCon (dCmp .eq (dLoc 1) (dInt 115)) (dInt 1) (dCon (dCmp .eq (dLoc 1) (dInt 107)) (dInt 2) (dCon (dCmp .eq (dLoc 1) (dInt 102)) (dInt 3) (dCon (dCmp .eq (dLoc 1) (dInt 111)) (dInt 4) (dInt (-1))))))))
  (fun _ => (dRet (dCon (dCmp .eq (dLoc 1) (dInt 97)) (dInt 0) (dCon (dCmp .eq (dLoc 1) (dInt 98)) (dInt 1) (dCon (dCmp .eq (dLoc 1) (dInt 104)) (dInt 2) (dInt (-1)))))))))) := by simp only [a_X11_itemOf, p_sSet, p_sInc, p_sPutF, p_sUpdF, p_sPutA, p_sUpdA, sDo, p_sCpy, p_sSeq, p_sIf, p_sIfE, p_sWh, p_sRet, p_sReV, p_sBlk, p_sSw, p_wDf, p_wCs, p_eInt, p_eLng, p_eNll, p_eStr, p_eSta, p_eLoc, p_eBin, p_eDiv, p_eI2L, p_eL2I, p_eFld, p_eAr, p_eRo, p_eLen, eCal, p_eMt, p_eAbs, p_eBo, p_eCon, p_aA0, p_aA1, p_oCmp, p_oCm0, p_oCmpL, p_oNul, p_oAnd, p_oOr, p_oNot]
  exact congrArg (fun z => fin false (z [v0, v1] M)) h
set_option maxRecDepth 100000 in
theorem u_X11_lowest (v0 v1 : Int) (M : Mem) : ci_X11_lowest.2.2.2.2 [v0, v1] M = fin false ((dSw (dLoc 0) (dCs 115 (dRet (dInt 1))
  (dCs 108 (dRet (dCon (dCmp .eq (dLoc 1) (dInt 4)) (dInt 10) (dInt 0)))
  (fun _ => (dRet (dCon (dCmp .eq (dLoc 1) (dInt 2)) (dInt 1) (dInt 0))))))) [v0, v1] M) := by
  have h : a_X11_lowest.1.1 = (dSw (dLoc 0) (dCs 115 (dRet (dInt 1))
  (dCs 108 (dRet (dCon (dCmp .eq (dLoc 1) (dInt 4)) (dInt 10) (dInt 0)))
  (fun _ => (dRet (dCon (dCmp .eq (dLoc 1) (dInt 2)) (dInt 1) (dInt 0))))))) := by simp only [a_X11_lowest, p_sSet, p_sInc, p_sPutF, p_sUpdF, p_sPutA, p_sUpdA, sDo, p_sCpy, p_sSeq, p_sIf, p_sIfE, p_sWh, p_sRet, p_sReV, p_sBlk, p_sSw, p_wDf, p_wCs, p_eInt, p_eLng, p_eNll, p_eStr, p_eSta, p_eLoc, p_eBin, p_eDiv, p_eI2L, p_eL2I, p_eFld, p_eAr, p_eRo, p_eLen, eCal, p_eMt, p_eAbs, p_eBo, p_eCon, p_aA0, p_aA1, p_oCmp, p_oCm0, p_oCmpL, p_oNul, p_oAnd, p_oOr, p_oNot]
  exact congrArg (fun z => fin false (z [v0, v1] M)) h
set_option maxRecDepth 100000 in
theorem u_X11_highest (v0 v1 : Int) (M : Mem) : ci_X11_highest.2.2.2.2 [v0, v1] M = fin false ((dSw (dLoc 0) (dCs 115 (dRet (dCon (dCm0 .eq (dLoc 1)) (dInt 99) (dCon (dCmp .eq (dLoc 1) (dInt 2)) (dInt 20) (dInt 9))))
  (dCs 108 (dRet (dCon (dCmp .eq (dLoc 1) (dInt 2)) (dInt 3) (dCon (dCmp .eq (dLoc 1) (dInt 3)) (dInt 8) (dInt 60))))
  (fun _ => (dRet (dCon (dCmp .eq (dLoc 1) (dInt 2)) (dInt 9) (dInt 5))))))) [v0, v1] M) := by
  have h : a_X11_highest.1.1 = (dSw (dLoc 0) (dCs 115 (dRet (dCon (dCm0 .eq (dLoc 1)) (dInt 99) (dCon (dCmp .eq (dLoc 1) (dInt 2)) (dInt 20) (dInt 9))))
  (dCs 108 (dRet (dCon (dCmp .eq (dLoc 1) (dInt 2)) (dInt 3) (dCon (dCmp .eq (dLoc 1) (dInt 3)) (dInt 8) (dInt 60))))
  (fun _ => (dRet (dCon (dCmp .eq (dLoc 1) (dInt 2)) (dInt 9) (dInt 5))))))) := by simp only [a_X11_highest, p_sSet, p_sInc, p_sPutF, p_sUpdF, p_sPutA, p_sUpdA, sDo, p_sCpy, p_sSeq, p_sIf, p_sIfE, p_sWh, p_sRet, p_sReV, p_sBlk, p_sSw, p_wDf, p_wCs, p_eInt, p_eLng, p_eNll, p_eStr, p_eSta, p_eLoc, p_eBin, p_eDiv, p_eI2L, p_eL2I, p_eFld, p_eAr, p_eRo, p_eLen, eCal, p_eMt, p_eAbs, p_eBo, p_eCon, p_aA0, p_aA1, p_oCmp, p_oCm0, p_oCmpL, p_oNul, p_oAnd, p_oOr, p_oNot]
  exact congrArg (fun z => fin false (z [v0, v1] M)) h
set_option maxRecDepth 100000 in
theorem u_X11_usual (v0 v1 : Int) (M : Mem) : ci_X11_usual.2.2.2.2 [v0, v1] M = fin false ((dSw (dLoc 0) (dCs 115 (dRet (dCon (dCm0 .eq (dLoc 1)) (dInt 40) (dCon (dCmp .eq (dLoc 1) (dInt 1)) (dInt 2) (dCon (dCmp .eq (dLoc 1) (dInt 2)) (dInt 6) (dInt 3)))))
  (dCs 108 (dRet (dCon (dCm0 .eq (dLoc 1)) (dInt 10) (dCon (dCmp .eq (dLoc 1) (dInt 1)) (dInt 5) (dCon (dCmp .eq (dLoc 1) (dInt 2)) (dInt 0) (dCon (dCmp .eq (dLoc 1) (dInt 3)) (dInt 8) (dInt 14))))))
  (fun _ => (dRet (dLoc 1)))))) [v0, v1] M) := by
  have h : a_X11_usual.1.1 = (dSw (dLoc 0) (dCs 115 (dRet (dCon (dCm0 .eq (dLoc 1)) (dInt 40) (dCon (dCmp .eq (dLoc 1) (dInt 1)) (dInt 2) (dCon (dCmp .eq (dLoc 1) (dInt 2)) (dInt 6) (dInt 3)))))
  (dCs 108 (dRet (dCon (dCm0 .eq (dLoc 1)) (dInt 10) (dCon (dCmp .eq (dLoc 1) (dInt 1)) (dInt 5) (dCon (dCmp .eq (dLoc 1) (dInt 2)) (dInt 0) (dCon (dCmp .eq (dLoc 1) (dInt 3)) (dInt 8) (dInt 14))))))
  (fun _ => (dRet (dLoc 1)))))) := by simp only [a_X11_usual, p_sSet, p_sInc, p_sPutF, p_sUpdF, p_sPutA, p_sUpdA, sDo, p_sCpy, p_sSeq, p_sIf, p_sIfE, p_sWh, p_sRet, p_sReV, p_sBlk, p_sSw, p_wDf, p_wCs, p_eInt, p_eLng, p_eNll, p_eStr, p_eSta, p_eLoc, p_eBin, p_eDiv, p_eI2L, p_eL2I, p_eFld, p_eAr, p_eRo, p_eLen, eCal, p_eMt, p_eAbs, p_eBo, p_eCon, p_aA0, p_aA1, p_oCmp, p_oCm0, p_oCmpL, p_oNul, p_oAnd, p_oOr, p_oNot]
  exact congrArg (fun z => fin false (z [v0, v1] M)) h
noncomputable def wc1_X11_items : CoD := (dCmp .lt (dLoc 5) (dLoc 4))
noncomputable def wb1_X11_items : StD := (dSeq (dPutA wM 0 (dLoc 2) (dBin (opF 0) (dLoc 3) (dLoc 5)) (dCal wM ci_X11_usual (dA1 (dA1 dA0 (dLoc 1)) (dLoc 5))))
  (dInc 5 1))
noncomputable def wc2_X11_items : CoD := (dAnd (dAnd (dCmp .eq (dFld wM 11 4 (dLoc 0)) (dInt (-1))) (dCmp .ne (dLoc 6) (dInt (-1)))) (dNot (dCm0 .ne (dCal wM ci_X11_has (dA1 (dA1 dA0 (dLoc 5)) (dLoc 6))))))
noncomputable def wb2_X11_items : StD := (dSeq (dSet 5 (dBin (opF 4) (dLoc 5) (dBin (opF 6) (dInt 1) (dLoc 6))))
  (dSeq (dUpdF wM 0 11 3 (dLoc 0) (dInt 1))
  (dSeq (dPutA wM 0 (dLoc 2) (dBin (opF 0) (dLoc 3) (dLoc 6)) (dCal wM ci_X11_number (dA1 (dA1 (dA1 dA0 (dLoc 0)) (dCal wM ci_X11_lowest (dA1 (dA1 dA0 (dLoc 1)) (dLoc 6)))) (dCal wM ci_X11_highest (dA1 (dA1 dA0 (dLoc 1)) (dLoc 6))))))
  (dSet 6 (dCon (dCmp .eq (dFld wM 11 4 (dLoc 0)) (dInt (-1))) (dCal wM ci_X11_itemOf (dA1 (dA1 dA0 (dLoc 1)) (dCal wM ci_X11_look (dA1 dA0 (dLoc 0))))) (dInt (-1)))))))
set_option maxRecDepth 100000 in
theorem u_X11_items (v0 v1 v2 v3 v4 : Int) (M : Mem) : ci_X11_items.2.2.2.2 [v0, v1, v2, v3, v4] M = fin false ((dSeq (dSeq (dSeq (dSet 5 (dInt 0))
  (dWh (wc1_X11_items) (wb1_X11_items)))
  (dSeq (dSet 5 (dInt 0))
  (dSeq (dSet 6 (dCal wM ci_X11_itemOf (dA1 (dA1 dA0 (dLoc 1)) (dCal wM ci_X11_look (dA1 dA0 (dLoc 0))))))
  (dWh (wc2_X11_items) (wb2_X11_items)))))
  dReV) [v0, v1, v2, v3, v4, 0, 0] M) := by
  have h : a_X11_items.1.1 = (dSeq (dSeq (dSeq (dSet 5 (dInt 0))
  (dWh (wc1_X11_items) (wb1_X11_items)))
  (dSeq (dSet 5 (dInt 0))
  (dSeq (dSet 6 (dCal wM ci_X11_itemOf (dA1 (dA1 dA0 (dLoc 1)) (dCal wM ci_X11_look (dA1 dA0 (dLoc 0))))))
  (dWh (wc2_X11_items) (wb2_X11_items)))))
  dReV) := by simp only [a_X11_items, wc1_X11_items, wb1_X11_items, wc2_X11_items, wb2_X11_items, p_sSet, p_sInc, p_sPutF, p_sUpdF, p_sPutA, p_sUpdA, sDo, p_sCpy, p_sSeq, p_sIf, p_sIfE, p_sWh, p_sRet, p_sReV, p_sBlk, p_sSw, p_wDf, p_wCs, p_eInt, p_eLng, p_eNll, p_eStr, p_eSta, p_eLoc, p_eBin, p_eDiv, p_eI2L, p_eL2I, p_eFld, p_eAr, p_eRo, p_eLen, eCal, p_eMt, p_eAbs, p_eBo, p_eCon, p_aA0, p_aA1, p_oCmp, p_oCm0, p_oCmpL, p_oNul, p_oAnd, p_oOr, p_oNot]
  exact congrArg (fun z => fin false (z [v0, v1, v2, v3, v4, 0, 0] M)) h
noncomputable def wc1_X11_isWhole : CoD := (dCmp .lt (dLoc 2) (dFld wM 11 20 (dLoc 0)))
noncomputable def wb1_X11_isWhole : StD := (dSeq (dSeq (dSet 3 (dAr wM 0 (dFld wM 11 18 (dLoc 0)) (dBin (opF 0) (dBin (opF 2) (dInt 5) (dLoc 2)) (dInt 3))))
  (dSet 1 (dBo (dAnd (dAnd (dAnd (dCm0 .ne (dLoc 1)) (dCmp .le (dAr wM 0 (dFld wM 11 18 (dLoc 0)) (dBin (opF 0) (dBin (opF 2) (dInt 5) (dLoc 2)) (dInt 1))) (dAr wM 0 (dFld wM 11 18 (dLoc 0)) (dBin (opF 0) (dBin (opF 2) (dInt 5) (dLoc 2)) (dInt 0))))) (dCmp .ne (dLoc 3) (dLoc 2))) (dOr (dCmp .eq (dLoc 3) (dInt 8)) (dCmp .lt (dLoc 3) (dFld wM 11 20 (dLoc 0))))))))
  (dInc 2 1))
noncomputable def wc2_X11_isWhole : CoD := (dCmp .lt (dLoc 2) (dFld wM 11 21 (dLoc 0)))
noncomputable def wb2_X11_isWhole : StD := (dSeq (dSet 1 (dBo (dAnd (dCm0 .ne (dLoc 1)) (dCmp .ne (dAr wM 0 (dFld wM 11 19 (dLoc 0)) (dBin (opF 2) (dInt 3) (dLoc 2))) (dAr wM 0 (dFld wM 11 19 (dLoc 0)) (dBin (opF 0) (dBin (opF 2) (dInt 3) (dLoc 2)) (dInt 1)))))))
  (dInc 2 1))
set_option maxRecDepth 100000 in
theorem u_X11_isWhole (v0 : Int) (M : Mem) : ci_X11_isWhole.2.2.2.2 [v0] M = fin true ((dSeq (dSet 1 (dBo (dCmp .gt (dFld wM 11 20 (dLoc 0)) (dInt 1))))
  (dSeq (dSeq (dSet 2 (dInt 0))
  (dWh (wc1_X11_isWhole) (wb1_X11_isWhole)))
  (dSeq (dSeq (dSet 2 (dInt 0))
  (dWh (wc2_X11_isWhole) (wb2_X11_isWhole)))
  (dRet (dLoc 1))))) [v0, 0, 0, 0] M) := by
  have h : a_X11_isWhole.1.1 = (dSeq (dSet 1 (dBo (dCmp .gt (dFld wM 11 20 (dLoc 0)) (dInt 1))))
  (dSeq (dSeq (dSet 2 (dInt 0))
  (dWh (wc1_X11_isWhole) (wb1_X11_isWhole)))
  (dSeq (dSeq (dSet 2 (dInt 0))
  (dWh (wc2_X11_isWhole) (wb2_X11_isWhole)))
  (dRet (dLoc 1))))) := by simp only [a_X11_isWhole, wc1_X11_isWhole, wb1_X11_isWhole, wc2_X11_isWhole, wb2_X11_isWhole, p_sSet, p_sInc, p_sPutF, p_sUpdF, p_sPutA, p_sUpdA, sDo, p_sCpy, p_sSeq, p_sIf, p_sIfE, p_sWh, p_sRet, p_sReV, p_sBlk, p_sSw, p_wDf, p_wCs, p_eInt, p_eLng, p_eNll, p_eStr, p_eSta, p_eLoc, p_eBin, p_eDiv, p_eI2L, p_eL2I, p_eFld, p_eAr, p_eRo, p_eLen, eCal, p_eMt, p_eAbs, p_eBo, p_eCon, p_aA0, p_aA1, p_oCmp, p_oCm0, p_oCmpL, p_oNul, p_oAnd, p_oOr, p_oNot]
  exact congrArg (fun z => fin true (z [v0, 0, 0, 0] M)) h
noncomputable def wc1_X11_readMill : CoD := (dCmp .lt (dLoc 2) (dInt 4))
noncomputable def wb1_X11_readMill : StD := (dSeq (dPutA wM 0 (dFld wM 11 17 (dLoc 0)) (dLoc 2) (dCal wM ci_X11_usual (dA1 (dA1 dA0 (dInt 115)) (dLoc 2))))
  (dInc 2 1))
noncomputable def wc2_X11_readMill : CoD := (dAnd (dCm0 .ne (dLoc 2)) (dCmp .eq (dFld wM 11 4 (dLoc 0)) (dInt (-1))))
noncomputable def wb2_X11_readMill : StD := (dSeq (dSet 3 (dCal wM ci_X11_look (dA1 dA0 (dLoc 0))))
  (dSeq (dIfE (dAnd (dCmp .eq (dLoc 3) (dInt 115)) (dNot (dCm0 .ne (dLoc 1)))) (dSeq (dSet 1 (dInt 1))
  (dSeq (dUpdF wM 0 11 3 (dLoc 0) (dInt 1))
  (dDo wM ci_X11_items (dA1 (dA1 (dA1 (dA1 (dA1 dA0 (dLoc 0)) (dLoc 3)) (dFld wM 11 17 (dLoc 0))) (dInt 0)) (dInt 4)))))
  (dIfE (dAnd (dCmp .eq (dLoc 3) (dInt 108)) (dCmp .lt (dFld wM 11 20 (dLoc 0)) (dInt 8))) (dSeq (dUpdF wM 0 11 3 (dLoc 0) (dInt 1))
  (dSeq (dDo wM ci_X11_items (dA1 (dA1 (dA1 (dA1 (dA1 dA0 (dLoc 0)) (dLoc 3)) (dFld wM 11 18 (dLoc 0))) (dBin (opF 2) (dInt 5) (dFld wM 11 20 (dLoc 0)))) (dInt 5)))
  (dUpdF wM 0 11 20 (dLoc 0) (dInt 1))))
  (dIfE (dAnd (dCmp .eq (dLoc 3) (dInt 119)) (dCmp .lt (dFld wM 11 21 (dLoc 0)) (dInt 9))) (dSeq (dUpdF wM 0 11 3 (dLoc 0) (dInt 1))
  (dSeq (dDo wM ci_X11_items (dA1 (dA1 (dA1 (dA1 (dA1 dA0 (dLoc 0)) (dLoc 3)) (dFld wM 11 19 (dLoc 0))) (dBin (opF 2) (dInt 3) (dFld wM 11 21 (dLoc 0)))) (dInt 3)))
  (dUpdF wM 0 11 21 (dLoc 0) (dInt 1))))
  (dDo wM ci_X11_bad (dA1 dA0 (dLoc 0))))))
  (dSeq (dSet 2 (dBo (dAnd (dCmp .eq (dFld wM 11 4 (dLoc 0)) (dInt (-1))) (dCmp .eq (dCal wM ci_X11_look (dA1 dA0 (dLoc 0))) (dInt 59)))))
  (dUpdF wM 0 11 3 (dLoc 0) (dCon (dCm0 .ne (dLoc 2)) (dInt 1) (dInt 0))))))
set_option maxRecDepth 100000 in
theorem u_X11_readMill (v0 : Int) (M : Mem) : ci_X11_readMill.2.2.2.2 [v0] M = fin false ((dSeq (dPutF wM 11 3 (dLoc 0) (dInt 0))
  (dSeq (dPutF wM 11 4 (dLoc 0) (dInt (-1)))
  (dSeq (dPutF wM 11 20 (dLoc 0) (dInt 0))
  (dSeq (dPutF wM 11 21 (dLoc 0) (dInt 0))
  (dSeq (dSet 1 (dInt 0))
  (dSeq (dSeq (dSet 2 (dInt 0))
  (dWh (wc1_X11_readMill) (wb1_X11_readMill)))
  (dSeq (dSet 2 (dInt 1))
  (dSeq (dWh (wc2_X11_readMill) (wb2_X11_readMill))
  (dSeq (dIf (dAnd (dCmp .eq (dFld wM 11 4 (dLoc 0)) (dInt (-1))) (dOr (dCmp .ne (dCal wM ci_X11_look (dA1 dA0 (dLoc 0))) (dInt (-1))) (dNot (dCm0 .ne (dCal wM ci_X11_isWhole (dA1 dA0 (dLoc 0))))))) (dDo wM ci_X11_bad (dA1 dA0 (dLoc 0))))
  (dRet (dFld wM 11 4 (dLoc 0)))))))))))) [v0, 0, 0, 0] M) := by
  have h : a_X11_readMill.1.1 = (dSeq (dPutF wM 11 3 (dLoc 0) (dInt 0))
  (dSeq (dPutF wM 11 4 (dLoc 0) (dInt (-1)))
  (dSeq (dPutF wM 11 20 (dLoc 0) (dInt 0))
  (dSeq (dPutF wM 11 21 (dLoc 0) (dInt 0))
  (dSeq (dSet 1 (dInt 0))
  (dSeq (dSeq (dSet 2 (dInt 0))
  (dWh (wc1_X11_readMill) (wb1_X11_readMill)))
  (dSeq (dSet 2 (dInt 1))
  (dSeq (dWh (wc2_X11_readMill) (wb2_X11_readMill))
  (dSeq (dIf (dAnd (dCmp .eq (dFld wM 11 4 (dLoc 0)) (dInt (-1))) (dOr (dCmp .ne (dCal wM ci_X11_look (dA1 dA0 (dLoc 0))) (dInt (-1))) (dNot (dCm0 .ne (dCal wM ci_X11_isWhole (dA1 dA0 (dLoc 0))))))) (dDo wM ci_X11_bad (dA1 dA0 (dLoc 0))))
  (dRet (dFld wM 11 4 (dLoc 0)))))))))))) := by simp only [a_X11_readMill, wc1_X11_readMill, wb1_X11_readMill, wc2_X11_readMill, wb2_X11_readMill, p_sSet, p_sInc, p_sPutF, p_sUpdF, p_sPutA, p_sUpdA, sDo, p_sCpy, p_sSeq, p_sIf, p_sIfE, p_sWh, p_sRet, p_sReV, p_sBlk, p_sSw, p_wDf, p_wCs, p_eInt, p_eLng, p_eNll, p_eStr, p_eSta, p_eLoc, p_eBin, p_eDiv, p_eI2L, p_eL2I, p_eFld, p_eAr, p_eRo, p_eLen, eCal, p_eMt, p_eAbs, p_eBo, p_eCon, p_aA0, p_aA1, p_oCmp, p_oCm0, p_oCmpL, p_oNul, p_oAnd, p_oOr, p_oNot]
  exact congrArg (fun z => fin false (z [v0, 0, 0, 0] M)) h
set_option maxRecDepth 100000 in
theorem u_X11_fault (v0 v1 : Int) (M : Mem) : ci_X11_fault.2.2.2.2 [v0, v1] M = fin false ((dRet (dCon (dCm0 .eq (dLoc 1)) (dCal wM ci_X11_readMill (dA1 dA0 (dLoc 0))) (dCon (dCmp .eq (dLoc 1) (dInt 1)) (dCal wM ci_X11_readLaw (dA1 (dA1 dA0 (dLoc 0)) (dInt 4))) (dInt (-2))))) [v0, v1] M) := by
  have h : a_X11_fault.1.1 = (dRet (dCon (dCm0 .eq (dLoc 1)) (dCal wM ci_X11_readMill (dA1 dA0 (dLoc 0))) (dCon (dCmp .eq (dLoc 1) (dInt 1)) (dCal wM ci_X11_readLaw (dA1 (dA1 dA0 (dLoc 0)) (dInt 4))) (dInt (-2))))) := by simp only [a_X11_fault, p_sSet, p_sInc, p_sPutF, p_sUpdF, p_sPutA, p_sUpdA, sDo, p_sCpy, p_sSeq, p_sIf, p_sIfE, p_sWh, p_sRet, p_sReV, p_sBlk, p_sSw, p_wDf, p_wCs, p_eInt, p_eLng, p_eNll, p_eStr, p_eSta, p_eLoc, p_eBin, p_eDiv, p_eI2L, p_eL2I, p_eFld, p_eAr, p_eRo, p_eLen, eCal, p_eMt, p_eAbs, p_eBo, p_eCon, p_aA0, p_aA1, p_oCmp, p_oCm0, p_oCmpL, p_oNul, p_oAnd, p_oOr, p_oNot]
  exact congrArg (fun z => fin false (z [v0, v1] M)) h
set_option maxRecDepth 100000 in
theorem u_X11_lay (v0 v1 v2 v3 : Int) (M : Mem) : ci_X11_lay.2.2.2.2 [v0, v1, v2, v3] M = fin false ((dSeq (dPutA wM 0 (dFld wM 11 26 (dLoc 0)) (dBin (opF 0) (dBin (opF 2) (dInt 6) (dLoc 1)) (dLoc 2)) (dLoc 3))
  dReV) [v0, v1, v2, v3] M) := by
  have h : a_X11_lay.1.1 = (dSeq (dPutA wM 0 (dFld wM 11 26 (dLoc 0)) (dBin (opF 0) (dBin (opF 2) (dInt 6) (dLoc 1)) (dLoc 2)) (dLoc 3))
  dReV) := by simp only [a_X11_lay, p_sSet, p_sInc, p_sPutF, p_sUpdF, p_sPutA, p_sUpdA, sDo, p_sCpy, p_sSeq, p_sIf, p_sIfE, p_sWh, p_sRet, p_sReV, p_sBlk, p_sSw, p_wDf, p_wCs, p_eInt, p_eLng, p_eNll, p_eStr, p_eSta, p_eLoc, p_eBin, p_eDiv, p_eI2L, p_eL2I, p_eFld, p_eAr, p_eRo, p_eLen, eCal, p_eMt, p_eAbs, p_eBo, p_eCon, p_aA0, p_aA1, p_oCmp, p_oCm0, p_oCmpL, p_oNul, p_oAnd, p_oOr, p_oNot]
  exact congrArg (fun z => fin false (z [v0, v1, v2, v3] M)) h
set_option maxRecDepth 100000 in
theorem u_X11_of (v0 v1 v2 : Int) (M : Mem) : ci_X11_of.2.2.2.2 [v0, v1, v2] M = fin false ((dRet (dAr wM 0 (dFld wM 11 26 (dLoc 0)) (dBin (opF 0) (dBin (opF 2) (dInt 6) (dLoc 1)) (dLoc 2)))) [v0, v1, v2] M) := by
  have h : a_X11_of.1.1 = (dRet (dAr wM 0 (dFld wM 11 26 (dLoc 0)) (dBin (opF 0) (dBin (opF 2) (dInt 6) (dLoc 1)) (dLoc 2)))) := by simp only [a_X11_of, p_sSet, p_sInc, p_sPutF, p_sUpdF, p_sPutA, p_sUpdA, sDo, p_sCpy, p_sSeq, p_sIf, p_sIfE, p_sWh, p_sRet, p_sReV, p_sBlk, p_sSw, p_wDf, p_wCs, p_eInt, p_eLng, p_eNll, p_eStr, p_eSta, p_eLoc, p_eBin, p_eDiv, p_eI2L, p_eL2I, p_eFld, p_eAr, p_eRo, p_eLen, eCal, p_eMt, p_eAbs, p_eBo, p_eCon, p_aA0, p_aA1, p_oCmp, p_oCm0, p_oCmpL, p_oNul, p_oAnd, p_oOr, p_oNot]
  exact congrArg (fun z => fin false (z [v0, v1, v2] M)) h
noncomputable def wc1_X11_takeMill : CoD := (dCmp .lt (dLoc 1) (dInt 4))
noncomputable def wb1_X11_takeMill : StD := (dSeq (dPutA wM 0 (dFld wM 11 22 (dLoc 0)) (dLoc 1) (dAr wM 0 (dFld wM 11 17 (dLoc 0)) (dLoc 1)))
  (dInc 1 1))
noncomputable def wc2_X11_takeMill : CoD := (dCmp .lt (dLoc 1) (dInt 27))
noncomputable def wb2_X11_takeMill : StD := (dSeq (dPutA wM 0 (dFld wM 11 23 (dLoc 0)) (dLoc 1) (dAr wM 0 (dFld wM 11 19 (dLoc 0)) (dLoc 1)))
  (dInc 1 1))
noncomputable def wc3_X11_takeMill : CoD := (dCmp .lt (dLoc 1) (dInt 231))
noncomputable def wb3_X11_takeMill : StD := (dSeq (dPutA wM 0 (dFld wM 11 26 (dLoc 0)) (dLoc 1) (dInt 0))
  (dInc 1 1))
noncomputable def wc4_X11_takeMill : CoD := (dCmp .lt (dLoc 2) (dInt 5))
noncomputable def wb4_X11_takeMill : StD := (dSeq (dDo wM ci_X11_lay (dA1 (dA1 (dA1 (dA1 dA0 (dLoc 0)) (dLoc 1)) (dLoc 2)) (dAr wM 0 (dFld wM 11 18 (dLoc 0)) (dBin (opF 0) (dBin (opF 2) (dInt 5) (dLoc 1)) (dLoc 2)))))
  (dInc 2 1))
noncomputable def wc5_X11_takeMill : CoD := (dCmp .lt (dLoc 1) (dFld wM 11 24 (dLoc 0)))
noncomputable def wb5_X11_takeMill : StD := (dSeq (dSeq (dSeq (dSet 2 (dInt 0))
  (dWh (wc4_X11_takeMill) (wb4_X11_takeMill)))
  (dDo wM ci_X11_lay (dA1 (dA1 (dA1 (dA1 dA0 (dLoc 0)) (dLoc 1)) (dInt 3)) (dCon (dCmp .eq (dCal wM ci_X11_of (dA1 (dA1 (dA1 dA0 (dLoc 0)) (dLoc 1)) (dInt 3))) (dInt 8)) (dInt (-1)) (dCal wM ci_X11_of (dA1 (dA1 (dA1 dA0 (dLoc 0)) (dLoc 1)) (dInt 3)))))))
  (dInc 1 1))
set_option maxRecDepth 100000 in
theorem u_X11_takeMill (v0 : Int) (M : Mem) : ci_X11_takeMill.2.2.2.2 [v0] M = fin false ((dSeq (dPutF wM 11 24 (dLoc 0) (dFld wM 11 20 (dLoc 0)))
  (dSeq (dPutF wM 11 25 (dLoc 0) (dFld wM 11 21 (dLoc 0)))
  (dSeq (dSeq (dSet 1 (dInt 0))
  (dWh (wc1_X11_takeMill) (wb1_X11_takeMill)))
  (dSeq (dSeq (dSet 1 (dInt 0))
  (dWh (wc2_X11_takeMill) (wb2_X11_takeMill)))
  (dSeq (dSeq (dSet 1 (dInt 0))
  (dWh (wc3_X11_takeMill) (wb3_X11_takeMill)))
  (dSeq (dSeq (dSet 1 (dInt 0))
  (dWh (wc5_X11_takeMill) (wb5_X11_takeMill)))
  (dSeq (dPutF wM 11 38 (dLoc 0) (dInt 0))
  (dSeq (dPutF wM 11 43 (dLoc 0) (dInt 0))
  (dSeq (dPutF wM 11 31 (dLoc 0) (dInt 0))
  (dSeq (dPutF wM 11 45 (dLoc 0) (dInt 0))
  (dRet (dFld wM 11 24 (dLoc 0))))))))))))) [v0, 0, 0] M) := by
  have h : a_X11_takeMill.1.1 = (dSeq (dPutF wM 11 24 (dLoc 0) (dFld wM 11 20 (dLoc 0)))
  (dSeq (dPutF wM 11 25 (dLoc 0) (dFld wM 11 21 (dLoc 0)))
  (dSeq (dSeq (dSet 1 (dInt 0))
  (dWh (wc1_X11_takeMill) (wb1_X11_takeMill)))
  (dSeq (dSeq (dSet 1 (dInt 0))
  (dWh (wc2_X11_takeMill) (wb2_X11_takeMill)))
  (dSeq (dSeq (dSet 1 (dInt 0))
  (dWh (wc3_X11_takeMill) (wb3_X11_takeMill)))
  (dSeq (dSeq (dSet 1 (dInt 0))
  (dWh (wc5_X11_takeMill) (wb5_X11_takeMill)))
  (dSeq (dPutF wM 11 38 (dLoc 0) (dInt 0))
  (dSeq (dPutF wM 11 43 (dLoc 0) (dInt 0))
  (dSeq (dPutF wM 11 31 (dLoc 0) (dInt 0))
  (dSeq (dPutF wM 11 45 (dLoc 0) (dInt 0))
  (dRet (dFld wM 11 24 (dLoc 0))))))))))))) := by simp only [a_X11_takeMill, wc1_X11_takeMill, wb1_X11_takeMill, wc2_X11_takeMill, wb2_X11_takeMill, wc3_X11_takeMill, wb3_X11_takeMill, wc4_X11_takeMill, wb4_X11_takeMill, wc5_X11_takeMill, wb5_X11_takeMill, p_sSet, p_sInc, p_sPutF, p_sUpdF, p_sPutA, p_sUpdA, sDo, p_sCpy, p_sSeq, p_sIf, p_sIfE, p_sWh, p_sRet, p_sReV, p_sBlk, p_sSw, p_wDf, p_wCs, p_eInt, p_eLng, p_eNll, p_eStr, p_eSta, p_eLoc, p_eBin, p_eDiv, p_eI2L, p_eL2I, p_eFld, p_eAr, p_eRo, p_eLen, eCal, p_eMt, p_eAbs, p_eBo, p_eCon, p_aA0, p_aA1, p_oCmp, p_oCm0, p_oCmpL, p_oNul, p_oAnd, p_oOr, p_oNot]
  exact congrArg (fun z => fin false (z [v0, 0, 0] M)) h
set_option maxRecDepth 100000 in
theorem u_X11_text (v0 v1 : Int) (M : Mem) : ci_X11_text.2.2.2.2 [v0, v1] M = fin false ((dSeq (dIf (dAnd (dCm0 .eq (dLoc 1)) (dCmp .eq (dCal wM ci_X11_readMill (dA1 dA0 (dLoc 0))) (dInt (-1)))) (dSeq (dPutF wM 11 2 (dLoc 0) (dInt 0))
  (dRet (dCal wM ci_X11_takeMill (dA1 dA0 (dLoc 0))))))
  (dSeq (dIf (dAnd (dAnd (dCmp .eq (dLoc 1) (dInt 1)) (dCmp .lt (dFld wM 11 13 (dLoc 0)) (dInt 4))) (dCmp .eq (dCal wM ci_X11_readLaw (dA1 (dA1 dA0 (dLoc 0)) (dFld wM 11 13 (dLoc 0)))) (dInt (-1)))) (dSeq (dPutF wM 11 2 (dLoc 0) (dInt 0))
  (dSeq (dUpdF wM 0 11 13 (dLoc 0) (dInt 1))
  (dRet (dBin (opF 1) (dFld wM 11 13 (dLoc 0)) (dInt 1))))))
  (dRet (dInt (-1))))) [v0, v1] M) := by
  have h : a_X11_text.1.1 = (dSeq (dIf (dAnd (dCm0 .eq (dLoc 1)) (dCmp .eq (dCal wM ci_X11_readMill (dA1 dA0 (dLoc 0))) (dInt (-1)))) (dSeq (dPutF wM 11 2 (dLoc 0) (dInt 0))
  (dRet (dCal wM ci_X11_takeMill (dA1 dA0 (dLoc 0))))))
  (dSeq (dIf (dAnd (dAnd (dCmp .eq (dLoc 1) (dInt 1)) (dCmp .lt (dFld wM 11 13 (dLoc 0)) (dInt 4))) (dCmp .eq (dCal wM ci_X11_readLaw (dA1 (dA1 dA0 (dLoc 0)) (dFld wM 11 13 (dLoc 0)))) (dInt (-1)))) (dSeq (dPutF wM 11 2 (dLoc 0) (dInt 0))
  (dSeq (dUpdF wM 0 11 13 (dLoc 0) (dInt 1))
  (dRet (dBin (opF 1) (dFld wM 11 13 (dLoc 0)) (dInt 1))))))
  (dRet (dInt (-1))))) := by simp only [a_X11_text, p_sSet, p_sInc, p_sPutF, p_sUpdF, p_sPutA, p_sUpdA, sDo, p_sCpy, p_sSeq, p_sIf, p_sIfE, p_sWh, p_sRet, p_sReV, p_sBlk, p_sSw, p_wDf, p_wCs, p_eInt, p_eLng, p_eNll, p_eStr, p_eSta, p_eLoc, p_eBin, p_eDiv, p_eI2L, p_eL2I, p_eFld, p_eAr, p_eRo, p_eLen, eCal, p_eMt, p_eAbs, p_eBo, p_eCon, p_aA0, p_aA1, p_oCmp, p_oCm0, p_oCmpL, p_oNul, p_oAnd, p_oOr, p_oNot]
  exact congrArg (fun z => fin false (z [v0, v1] M)) h
set_option maxRecDepth 100000 in
theorem u_X11_isLad (v0 v1 : Int) (M : Mem) : ci_X11_isLad.2.2.2.2 [v0, v1] M = fin true ((dRet (dCal wM ci_X11_in (dA1 (dA1 (dA1 dA0 (dLoc 1)) (dInt 0)) (dBin (opF 1) (dFld wM 11 24 (dLoc 0)) (dInt 1))))) [v0, v1] M) := by
  have h : a_X11_isLad.1.1 = (dRet (dCal wM ci_X11_in (dA1 (dA1 (dA1 dA0 (dLoc 1)) (dInt 0)) (dBin (opF 1) (dFld wM 11 24 (dLoc 0)) (dInt 1))))) := by simp only [a_X11_isLad, p_sSet, p_sInc, p_sPutF, p_sUpdF, p_sPutA, p_sUpdA, sDo, p_sCpy, p_sSeq, p_sIf, p_sIfE, p_sWh, p_sRet, p_sReV, p_sBlk, p_sSw, p_wDf, p_wCs, p_eInt, p_eLng, p_eNll, p_eStr, p_eSta, p_eLoc, p_eBin, p_eDiv, p_eI2L, p_eL2I, p_eFld, p_eAr, p_eRo, p_eLen, eCal, p_eMt, p_eAbs, p_eBo, p_eCon, p_aA0, p_aA1, p_oCmp, p_oCm0, p_oCmpL, p_oNul, p_oAnd, p_oOr, p_oNot]
  exact congrArg (fun z => fin true (z [v0, v1] M)) h
set_option maxRecDepth 100000 in
theorem u_X11_lives (v0 v1 : Int) (M : Mem) : ci_X11_lives.2.2.2.2 [v0, v1] M = fin true ((dRet (dBo (dAnd (dCm0 .ne (dCal wM ci_X11_isLad (dA1 (dA1 dA0 (dLoc 0)) (dLoc 1)))) (dCm0 .eq (dCal wM ci_X11_of (dA1 (dA1 (dA1 dA0 (dLoc 0)) (dLoc 1)) (dInt 5))))))) [v0, v1] M) := by
  have h : a_X11_lives.1.1 = (dRet (dBo (dAnd (dCm0 .ne (dCal wM ci_X11_isLad (dA1 (dA1 dA0 (dLoc 0)) (dLoc 1)))) (dCm0 .eq (dCal wM ci_X11_of (dA1 (dA1 (dA1 dA0 (dLoc 0)) (dLoc 1)) (dInt 5))))))) := by simp only [a_X11_lives, p_sSet, p_sInc, p_sPutF, p_sUpdF, p_sPutA, p_sUpdA, sDo, p_sCpy, p_sSeq, p_sIf, p_sIfE, p_sWh, p_sRet, p_sReV, p_sBlk, p_sSw, p_wDf, p_wCs, p_eInt, p_eLng, p_eNll, p_eStr, p_eSta, p_eLoc, p_eBin, p_eDiv, p_eI2L, p_eL2I, p_eFld, p_eAr, p_eRo, p_eLen, eCal, p_eMt, p_eAbs, p_eBo, p_eCon, p_aA0, p_aA1, p_oCmp, p_oCm0, p_oCmpL, p_oNul, p_oAnd, p_oOr, p_oNot]
  exact congrArg (fun z => fin true (z [v0, v1] M)) h
noncomputable def wc1_X11_living : CoD := (dCmp .lt (dLoc 2) (dFld wM 11 24 (dLoc 0)))
noncomputable def wb1_X11_living : StD := (dSeq (dSet 1 (dBin (opF 4) (dLoc 1) (dCon (dCm0 .ne (dCal wM ci_X11_lives (dA1 (dA1 dA0 (dLoc 0)) (dLoc 2)))) (dBin (opF 6) (dInt 1) (dLoc 2)) (dInt 0))))
  (dInc 2 1))
set_option maxRecDepth 100000 in
theorem u_X11_living (v0 : Int) (M : Mem) : ci_X11_living.2.2.2.2 [v0] M = fin false ((dSeq (dSet 1 (dInt 0))
  (dSeq (dSeq (dSet 2 (dInt 0))
  (dWh (wc1_X11_living) (wb1_X11_living)))
  (dRet (dLoc 1)))) [v0, 0, 0] M) := by
  have h : a_X11_living.1.1 = (dSeq (dSet 1 (dInt 0))
  (dSeq (dSeq (dSet 2 (dInt 0))
  (dWh (wc1_X11_living) (wb1_X11_living)))
  (dRet (dLoc 1)))) := by simp only [a_X11_living, wc1_X11_living, wb1_X11_living, p_sSet, p_sInc, p_sPutF, p_sUpdF, p_sPutA, p_sUpdA, sDo, p_sCpy, p_sSeq, p_sIf, p_sIfE, p_sWh, p_sRet, p_sReV, p_sBlk, p_sSw, p_wDf, p_wCs, p_eInt, p_eLng, p_eNll, p_eStr, p_eSta, p_eLoc, p_eBin, p_eDiv, p_eI2L, p_eL2I, p_eFld, p_eAr, p_eRo, p_eLen, eCal, p_eMt, p_eAbs, p_eBo, p_eCon, p_aA0, p_aA1, p_oCmp, p_oCm0, p_oCmpL, p_oNul, p_oAnd, p_oOr, p_oNot]
  exact congrArg (fun z => fin false (z [v0, 0, 0] M)) h
set_option maxRecDepth 100000 in
theorem u_X11_manyLive (v0 : Int) (M : Mem) : ci_X11_manyLive.2.2.2.2 [v0] M = fin false ((dRet (dCal wM ci_J6_bitCount_0f7a4M (dA1 dA0 (dCal wM ci_X11_living (dA1 dA0 (dLoc 0)))))) [v0] M) := by
  have h : a_X11_manyLive.1.1 = (dRet (dCal wM ci_J6_bitCount_0f7a4M (dA1 dA0 (dCal wM ci_X11_living (dA1 dA0 (dLoc 0)))))) := by simp only [a_X11_manyLive, p_sSet, p_sInc, p_sPutF, p_sUpdF, p_sPutA, p_sUpdA, sDo, p_sCpy, p_sSeq, p_sIf, p_sIfE, p_sWh, p_sRet, p_sReV, p_sBlk, p_sSw, p_wDf, p_wCs, p_eInt, p_eLng, p_eNll, p_eStr, p_eSta, p_eLoc, p_eBin, p_eDiv, p_eI2L, p_eL2I, p_eFld, p_eAr, p_eRo, p_eLen, eCal, p_eMt, p_eAbs, p_eBo, p_eCon, p_aA0, p_aA1, p_oCmp, p_oCm0, p_oCmpL, p_oNul, p_oAnd, p_oOr, p_oNot]
  exact congrArg (fun z => fin false (z [v0] M)) h
set_option maxRecDepth 100000 in
theorem u_X11_fearBy (v0 v1 v2 : Int) (M : Mem) : ci_X11_fearBy.2.2.2.2 [v0, v1, v2] M = fin false ((dSeq (dSet 3 (dCon (dCmp .eq (dCal wM ci_X11_of (dA1 (dA1 (dA1 dA0 (dLoc 0)) (dLoc 1)) (dInt 2))) (dInt 1)) (dDiv (dvF 0) (dvW 0) (dLoc 2) (dInt 2)) (dLoc 2)))
  (dSeq (dSet 3 (dCon (dCm0 .ne (dCal wM ci_X11_has (dA1 (dA1 dA0 (dAr wM 0 (dFld wM 11 26 (dLoc 0)) (dInt 48))) (dLoc 1)))) (dDiv (dvF 0) (dvW 0) (dLoc 3) (dInt 2)) (dLoc 3)))
  (dRet (dCon (dCmp .eq (dCal wM ci_X11_of (dA1 (dA1 (dA1 dA0 (dLoc 0)) (dLoc 1)) (dInt 2))) (dInt 3)) (dInt (-1)) (dCon (dCmp .eq (dCal wM ci_X11_of (dA1 (dA1 (dA1 dA0 (dLoc 0)) (dLoc 1)) (dInt 2))) (dInt 2)) (dBin (opF 0) (dLoc 3) (dInt 10)) (dLoc 3)))))) [v0, v1, v2, 0] M) := by
  have h : a_X11_fearBy.1.1 = (dSeq (dSet 3 (dCon (dCmp .eq (dCal wM ci_X11_of (dA1 (dA1 (dA1 dA0 (dLoc 0)) (dLoc 1)) (dInt 2))) (dInt 1)) (dDiv (dvF 0) (dvW 0) (dLoc 2) (dInt 2)) (dLoc 2)))
  (dSeq (dSet 3 (dCon (dCm0 .ne (dCal wM ci_X11_has (dA1 (dA1 dA0 (dAr wM 0 (dFld wM 11 26 (dLoc 0)) (dInt 48))) (dLoc 1)))) (dDiv (dvF 0) (dvW 0) (dLoc 3) (dInt 2)) (dLoc 3)))
  (dRet (dCon (dCmp .eq (dCal wM ci_X11_of (dA1 (dA1 (dA1 dA0 (dLoc 0)) (dLoc 1)) (dInt 2))) (dInt 3)) (dInt (-1)) (dCon (dCmp .eq (dCal wM ci_X11_of (dA1 (dA1 (dA1 dA0 (dLoc 0)) (dLoc 1)) (dInt 2))) (dInt 2)) (dBin (opF 0) (dLoc 3) (dInt 10)) (dLoc 3)))))) := by simp only [a_X11_fearBy, p_sSet, p_sInc, p_sPutF, p_sUpdF, p_sPutA, p_sUpdA, sDo, p_sCpy, p_sSeq, p_sIf, p_sIfE, p_sWh, p_sRet, p_sReV, p_sBlk, p_sSw, p_wDf, p_wCs, p_eInt, p_eLng, p_eNll, p_eStr, p_eSta, p_eLoc, p_eBin, p_eDiv, p_eI2L, p_eL2I, p_eFld, p_eAr, p_eRo, p_eLen, eCal, p_eMt, p_eAbs, p_eBo, p_eCon, p_aA0, p_aA1, p_oCmp, p_oCm0, p_oCmpL, p_oNul, p_oAnd, p_oOr, p_oNot]
  exact congrArg (fun z => fin false (z [v0, v1, v2, 0] M)) h
set_option maxRecDepth 100000 in
theorem u_X11_fear (v0 v1 : Int) (M : Mem) : ci_X11_fear.2.2.2.2 [v0, v1] M = fin false ((dRet (dCal wM ci_X11_fearBy (dA1 (dA1 (dA1 dA0 (dLoc 0)) (dLoc 1)) (dCal wM ci_X11_of (dA1 (dA1 (dA1 dA0 (dLoc 0)) (dLoc 1)) (dInt 1)))))) [v0, v1] M) := by
  have h : a_X11_fear.1.1 = (dRet (dCal wM ci_X11_fearBy (dA1 (dA1 (dA1 dA0 (dLoc 0)) (dLoc 1)) (dCal wM ci_X11_of (dA1 (dA1 (dA1 dA0 (dLoc 0)) (dLoc 1)) (dInt 1)))))) := by simp only [a_X11_fear, p_sSet, p_sInc, p_sPutF, p_sUpdF, p_sPutA, p_sUpdA, sDo, p_sCpy, p_sSeq, p_sIf, p_sIfE, p_sWh, p_sRet, p_sReV, p_sBlk, p_sSw, p_wDf, p_wCs, p_eInt, p_eLng, p_eNll, p_eStr, p_eSta, p_eLoc, p_eBin, p_eDiv, p_eI2L, p_eL2I, p_eFld, p_eAr, p_eRo, p_eLen, eCal, p_eMt, p_eAbs, p_eBo, p_eCon, p_aA0, p_aA1, p_oCmp, p_oCm0, p_oCmpL, p_oNul, p_oAnd, p_oOr, p_oNot]
  exact congrArg (fun z => fin false (z [v0, v1] M)) h
noncomputable def wc1_X11_chosenNow : CoD := (dCmp .lt (dLoc 2) (dFld wM 11 24 (dLoc 0)))
noncomputable def wb1_X11_chosenNow : StD := (dSeq (dSet 1 (dCon (dAnd (dCm0 .ne (dCal wM ci_X11_lives (dA1 (dA1 dA0 (dLoc 0)) (dLoc 2)))) (dOr (dCmp .eq (dLoc 1) (dInt (-1))) (dCmp .gt (dCal wM ci_X11_fear (dA1 (dA1 dA0 (dLoc 0)) (dLoc 2))) (dCal wM ci_X11_fear (dA1 (dA1 dA0 (dLoc 0)) (dLoc 1)))))) (dLoc 2) (dLoc 1)))
  (dInc 2 1))
set_option maxRecDepth 100000 in
theorem u_X11_chosenNow (v0 : Int) (M : Mem) : ci_X11_chosenNow.2.2.2.2 [v0] M = fin false ((dSeq (dSet 1 (dInt (-1)))
  (dSeq (dSeq (dSet 2 (dInt 0))
  (dWh (wc1_X11_chosenNow) (wb1_X11_chosenNow)))
  (dRet (dLoc 1)))) [v0, 0, 0] M) := by
  have h : a_X11_chosenNow.1.1 = (dSeq (dSet 1 (dInt (-1)))
  (dSeq (dSeq (dSet 2 (dInt 0))
  (dWh (wc1_X11_chosenNow) (wb1_X11_chosenNow)))
  (dRet (dLoc 1)))) := by simp only [a_X11_chosenNow, wc1_X11_chosenNow, wb1_X11_chosenNow, p_sSet, p_sInc, p_sPutF, p_sUpdF, p_sPutA, p_sUpdA, sDo, p_sCpy, p_sSeq, p_sIf, p_sIfE, p_sWh, p_sRet, p_sReV, p_sBlk, p_sSw, p_wDf, p_wCs, p_eInt, p_eLng, p_eNll, p_eStr, p_eSta, p_eLoc, p_eBin, p_eDiv, p_eI2L, p_eL2I, p_eFld, p_eAr, p_eRo, p_eLen, eCal, p_eMt, p_eAbs, p_eBo, p_eCon, p_aA0, p_aA1, p_oCmp, p_oCm0, p_oCmpL, p_oNul, p_oAnd, p_oOr, p_oNot]
  exact congrArg (fun z => fin false (z [v0, 0, 0] M)) h
noncomputable def wc1_X11_friendsOf : CoD := (dCmp .lt (dLoc 3) (dFld wM 11 24 (dLoc 0)))
noncomputable def wb1_X11_friendsOf : StD := (dSeq (dSet 2 (dBin (opF 4) (dLoc 2) (dCon (dCmp .eq (dCal wM ci_X11_of (dA1 (dA1 (dA1 dA0 (dLoc 0)) (dLoc 3)) (dInt 3))) (dLoc 1)) (dBin (opF 6) (dInt 1) (dLoc 3)) (dInt 0))))
  (dInc 3 1))
set_option maxRecDepth 100000 in
theorem u_X11_friendsOf (v0 v1 : Int) (M : Mem) : ci_X11_friendsOf.2.2.2.2 [v0, v1] M = fin false ((dSeq (dSet 2 (dInt 0))
  (dSeq (dSeq (dSet 3 (dInt 0))
  (dWh (wc1_X11_friendsOf) (wb1_X11_friendsOf)))
  (dRet (dLoc 2)))) [v0, v1, 0, 0] M) := by
  have h : a_X11_friendsOf.1.1 = (dSeq (dSet 2 (dInt 0))
  (dSeq (dSeq (dSet 3 (dInt 0))
  (dWh (wc1_X11_friendsOf) (wb1_X11_friendsOf)))
  (dRet (dLoc 2)))) := by simp only [a_X11_friendsOf, wc1_X11_friendsOf, wb1_X11_friendsOf, p_sSet, p_sInc, p_sPutF, p_sUpdF, p_sPutA, p_sUpdA, sDo, p_sCpy, p_sSeq, p_sIf, p_sIfE, p_sWh, p_sRet, p_sReV, p_sBlk, p_sSw, p_wDf, p_wCs, p_eInt, p_eLng, p_eNll, p_eStr, p_eSta, p_eLoc, p_eBin, p_eDiv, p_eI2L, p_eL2I, p_eFld, p_eAr, p_eRo, p_eLen, eCal, p_eMt, p_eAbs, p_eBo, p_eCon, p_aA0, p_aA1, p_oCmp, p_oCm0, p_oCmpL, p_oNul, p_oAnd, p_oOr, p_oNot]
  exact congrArg (fun z => fin false (z [v0, v1, 0, 0] M)) h
set_option maxRecDepth 100000 in
theorem u_X11_signs (v0 v1 : Int) (M : Mem) : ci_X11_signs.2.2.2.2 [v0, v1] M = fin false ((dSeq (dSet 2 (dCon (dCmp .ge (dCal wM ci_X11_of (dA1 (dA1 (dA1 dA0 (dLoc 0)) (dLoc 1)) (dInt 0))) (dInt 20)) (dInt 1) (dInt 0)))
  (dSeq (dSet 2 (dBin (opF 4) (dLoc 2) (dCon (dCmp .ge (dCal wM ci_X11_of (dA1 (dA1 (dA1 dA0 (dLoc 0)) (dLoc 1)) (dInt 1))) (dInt 10)) (dInt 2) (dInt 0))))
  (dSeq (dSet 2 (dBin (opF 4) (dLoc 2) (dCon (dCmp .ge (dCal wM ci_X11_of (dA1 (dA1 (dA1 dA0 (dLoc 0)) (dLoc 1)) (dInt 4))) (dInt 20)) (dInt 4) (dInt 0))))
  (dSeq (dSet 2 (dBin (opF 4) (dLoc 2) (dCon (dCm0 .gt (dCal wM ci_X11_of (dA1 (dA1 (dA1 dA0 (dLoc 0)) (dLoc 1)) (dInt 2)))) (dInt 8) (dInt 0))))
  (dSeq (dSet 2 (dBin (opF 4) (dLoc 2) (dCon (dCm0 .ne (dCal wM ci_X11_lives (dA1 (dA1 dA0 (dLoc 0)) (dCal wM ci_X11_of (dA1 (dA1 (dA1 dA0 (dLoc 0)) (dLoc 1)) (dInt 3)))))) (dInt 16) (dInt 0))))
  (dRet (dBin (opF 4) (dLoc 2) (dCon (dCm0 .ne (dBin (opF 3) (dCal wM ci_X11_friendsOf (dA1 (dA1 dA0 (dLoc 0)) (dLoc 1))) (dCal wM ci_X11_living (dA1 dA0 (dLoc 0))))) (dInt 32) (dInt 0))))))))) [v0, v1, 0] M) := by
  have h : a_X11_signs.1.1 = (dSeq (dSet 2 (dCon (dCmp .ge (dCal wM ci_X11_of (dA1 (dA1 (dA1 dA0 (dLoc 0)) (dLoc 1)) (dInt 0))) (dInt 20)) (dInt 1) (dInt 0)))
  (dSeq (dSet 2 (dBin (opF 4) (dLoc 2) (dCon (dCmp .ge (dCal wM ci_X11_of (dA1 (dA1 (dA1 dA0 (dLoc 0)) (dLoc 1)) (dInt 1))) (dInt 10)) (dInt 2) (dInt 0))))
  (dSeq (dSet 2 (dBin (opF 4) (dLoc 2) (dCon (dCmp .ge (dCal wM ci_X11_of (dA1 (dA1 (dA1 dA0 (dLoc 0)) (dLoc 1)) (dInt 4))) (dInt 20)) (dInt 4) (dInt 0))))
  (dSeq (dSet 2 (dBin (opF 4) (dLoc 2) (dCon (dCm0 .gt (dCal wM ci_X11_of (dA1 (dA1 (dA1 dA0 (dLoc 0)) (dLoc 1)) (dInt 2)))) (dInt 8) (dInt 0))))
  (dSeq (dSet 2 (dBin (opF 4) (dLoc 2) (dCon (dCm0 .ne (dCal wM ci_X11_lives (dA1 (dA1 dA0 (dLoc 0)) (dCal wM ci_X11_of (dA1 (dA1 (dA1 dA0 (dLoc 0)) (dLoc 1)) (dInt 3)))))) (dInt 16) (dInt 0))))
  (dRet (dBin (opF 4) (dLoc 2) (dCon (dCm0 .ne (dBin (opF 3) (dCal wM ci_X11_friendsOf (dA1 (dA1 dA0 (dLoc 0)) (dLoc 1))) (dCal wM ci_X11_living (dA1 dA0 (dLoc 0))))) (dInt 32) (dInt 0))))))))) := by simp only [a_X11_signs, p_sSet, p_sInc, p_sPutF, p_sUpdF, p_sPutA, p_sUpdA, sDo, p_sCpy, p_sSeq, p_sIf, p_sIfE, p_sWh, p_sRet, p_sReV, p_sBlk, p_sSw, p_wDf, p_wCs, p_eInt, p_eLng, p_eNll, p_eStr, p_eSta, p_eLoc, p_eBin, p_eDiv, p_eI2L, p_eL2I, p_eFld, p_eAr, p_eRo, p_eLen, eCal, p_eMt, p_eAbs, p_eBo, p_eCon, p_aA0, p_aA1, p_oCmp, p_oCm0, p_oCmpL, p_oNul, p_oAnd, p_oOr, p_oNot]
  exact congrArg (fun z => fin false (z [v0, v1, 0] M)) h
set_option maxRecDepth 100000 in
theorem u_X11_master (v0 v1 : Int) (M : Mem) : ci_X11_master.2.2.2.2 [v0, v1] M = fin false ((dRet (dCon (dAnd (dCm0 .gt (dFld wM 11 24 (dLoc 0))) (dCm0 .ne (dCal wM ci_X11_in (dA1 (dA1 (dA1 dA0 (dLoc 1)) (dInt 0)) (dInt 3))))) (dAr wM 0 (dFld wM 11 22 (dLoc 0)) (dLoc 1)) (dInt (-1)))) [v0, v1] M) := by
  have h : a_X11_master.1.1 = (dRet (dCon (dAnd (dCm0 .gt (dFld wM 11 24 (dLoc 0))) (dCm0 .ne (dCal wM ci_X11_in (dA1 (dA1 (dA1 dA0 (dLoc 1)) (dInt 0)) (dInt 3))))) (dAr wM 0 (dFld wM 11 22 (dLoc 0)) (dLoc 1)) (dInt (-1)))) := by simp only [a_X11_master, p_sSet, p_sInc, p_sPutF, p_sUpdF, p_sPutA, p_sUpdA, sDo, p_sCpy, p_sSeq, p_sIf, p_sIfE, p_sWh, p_sRet, p_sReV, p_sBlk, p_sSw, p_wDf, p_wCs, p_eInt, p_eLng, p_eNll, p_eStr, p_eSta, p_eLoc, p_eBin, p_eDiv, p_eI2L, p_eL2I, p_eFld, p_eAr, p_eRo, p_eLen, eCal, p_eMt, p_eAbs, p_eBo, p_eCon, p_aA0, p_aA1, p_oCmp, p_oCm0, p_oCmpL, p_oNul, p_oAnd, p_oOr, p_oNot]
  exact congrArg (fun z => fin false (z [v0, v1] M)) h
set_option maxRecDepth 100000 in
theorem u_X11_lad (v0 v1 v2 : Int) (M : Mem) : ci_X11_lad.2.2.2.2 [v0, v1, v2] M = fin false ((dSeq (dPutF wM 11 0 (dLoc 0) (dCon (dAnd (dCm0 .ne (dCal wM ci_X11_isLad (dA1 (dA1 dA0 (dLoc 0)) (dLoc 1)))) (dCm0 .ne (dCal wM ci_X11_in (dA1 (dA1 (dA1 dA0 (dLoc 2)) (dInt 0)) (dInt 8))))) (dInt 0) (dInt 1)))
  (dSeq (dIf (dCmp .eq (dFld wM 11 0 (dLoc 0)) (dInt 1)) (dRet (dInt 0)))
  (dRet (dCon (dCmp .lt (dLoc 2) (dInt 6)) (dCal wM ci_X11_of (dA1 (dA1 (dA1 dA0 (dLoc 0)) (dLoc 1)) (dLoc 2))) (dCon (dCmp .eq (dLoc 2) (dInt 6)) (dBin (opF 3) (dBin (opF 7) (dAr wM 0 (dFld wM 11 26 (dLoc 0)) (dInt 48)) (dLoc 1)) (dInt 1)) (dCon (dCmp .eq (dLoc 2) (dInt 7)) (dCal wM ci_X11_fear (dA1 (dA1 dA0 (dLoc 0)) (dLoc 1))) (dCal wM ci_X11_signs (dA1 (dA1 dA0 (dLoc 0)) (dLoc 1))))))))) [v0, v1, v2] M) := by
  have h : a_X11_lad.1.1 = (dSeq (dPutF wM 11 0 (dLoc 0) (dCon (dAnd (dCm0 .ne (dCal wM ci_X11_isLad (dA1 (dA1 dA0 (dLoc 0)) (dLoc 1)))) (dCm0 .ne (dCal wM ci_X11_in (dA1 (dA1 (dA1 dA0 (dLoc 2)) (dInt 0)) (dInt 8))))) (dInt 0) (dInt 1)))
  (dSeq (dIf (dCmp .eq (dFld wM 11 0 (dLoc 0)) (dInt 1)) (dRet (dInt 0)))
  (dRet (dCon (dCmp .lt (dLoc 2) (dInt 6)) (dCal wM ci_X11_of (dA1 (dA1 (dA1 dA0 (dLoc 0)) (dLoc 1)) (dLoc 2))) (dCon (dCmp .eq (dLoc 2) (dInt 6)) (dBin (opF 3) (dBin (opF 7) (dAr wM 0 (dFld wM 11 26 (dLoc 0)) (dInt 48)) (dLoc 1)) (dInt 1)) (dCon (dCmp .eq (dLoc 2) (dInt 7)) (dCal wM ci_X11_fear (dA1 (dA1 dA0 (dLoc 0)) (dLoc 1))) (dCal wM ci_X11_signs (dA1 (dA1 dA0 (dLoc 0)) (dLoc 1))))))))) := by simp only [a_X11_lad, p_sSet, p_sInc, p_sPutF, p_sUpdF, p_sPutA, p_sUpdA, sDo, p_sCpy, p_sSeq, p_sIf, p_sIfE, p_sWh, p_sRet, p_sReV, p_sBlk, p_sSw, p_wDf, p_wCs, p_eInt, p_eLng, p_eNll, p_eStr, p_eSta, p_eLoc, p_eBin, p_eDiv, p_eI2L, p_eL2I, p_eFld, p_eAr, p_eRo, p_eLen, eCal, p_eMt, p_eAbs, p_eBo, p_eCon, p_aA0, p_aA1, p_oCmp, p_oCm0, p_oCmpL, p_oNul, p_oAnd, p_oOr, p_oNot]
  exact congrArg (fun z => fin false (z [v0, v1, v2] M)) h
set_option maxRecDepth 100000 in
theorem u_X11_way (v0 v1 v2 : Int) (M : Mem) : ci_X11_way.2.2.2.2 [v0, v1, v2] M = fin false ((dRet (dCon (dAnd (dCm0 .ne (dCal wM ci_X11_in (dA1 (dA1 (dA1 dA0 (dLoc 1)) (dInt 0)) (dBin (opF 1) (dFld wM 11 25 (dLoc 0)) (dInt 1))))) (dCm0 .ne (dCal wM ci_X11_in (dA1 (dA1 (dA1 dA0 (dLoc 2)) (dInt 0)) (dInt 2))))) (dAr wM 0 (dFld wM 11 23 (dLoc 0)) (dBin (opF 0) (dBin (opF 2) (dInt 3) (dLoc 1)) (dLoc 2))) (dInt (-1)))) [v0, v1, v2] M) := by
  have h : a_X11_way.1.1 = (dRet (dCon (dAnd (dCm0 .ne (dCal wM ci_X11_in (dA1 (dA1 (dA1 dA0 (dLoc 1)) (dInt 0)) (dBin (opF 1) (dFld wM 11 25 (dLoc 0)) (dInt 1))))) (dCm0 .ne (dCal wM ci_X11_in (dA1 (dA1 (dA1 dA0 (dLoc 2)) (dInt 0)) (dInt 2))))) (dAr wM 0 (dFld wM 11 23 (dLoc 0)) (dBin (opF 0) (dBin (opF 2) (dInt 3) (dLoc 1)) (dLoc 2))) (dInt (-1)))) := by simp only [a_X11_way, p_sSet, p_sInc, p_sPutF, p_sUpdF, p_sPutA, p_sUpdA, sDo, p_sCpy, p_sSeq, p_sIf, p_sIfE, p_sWh, p_sRet, p_sReV, p_sBlk, p_sSw, p_wDf, p_wCs, p_eInt, p_eLng, p_eNll, p_eStr, p_eSta, p_eLoc, p_eBin, p_eDiv, p_eI2L, p_eL2I, p_eFld, p_eAr, p_eRo, p_eLen, eCal, p_eMt, p_eAbs, p_eBo, p_eCon, p_aA0, p_aA1, p_oCmp, p_oCm0, p_oCmpL, p_oNul, p_oAnd, p_oOr, p_oNot]
  exact congrArg (fun z => fin false (z [v0, v1, v2] M)) h
set_option maxRecDepth 100000 in
theorem u_X11_law (v0 v1 : Int) (M : Mem) : ci_X11_law.2.2.2.2 [v0, v1] M = fin true ((dSeq (dIf (dNot (dCm0 .ne (dCal wM ci_X11_in (dA1 (dA1 (dA1 dA0 (dLoc 1)) (dInt (-1))) (dBin (opF 1) (dFld wM 11 13 (dLoc 0)) (dInt 1)))))) (dRet (dInt 0)))
  (dSeq (dPutF wM 11 28 (dLoc 0) (dLoc 1))
  (dRet (dInt 1)))) [v0, v1] M) := by
  have h : a_X11_law.1.1 = (dSeq (dIf (dNot (dCm0 .ne (dCal wM ci_X11_in (dA1 (dA1 (dA1 dA0 (dLoc 1)) (dInt (-1))) (dBin (opF 1) (dFld wM 11 13 (dLoc 0)) (dInt 1)))))) (dRet (dInt 0)))
  (dSeq (dPutF wM 11 28 (dLoc 0) (dLoc 1))
  (dRet (dInt 1)))) := by simp only [a_X11_law, p_sSet, p_sInc, p_sPutF, p_sUpdF, p_sPutA, p_sUpdA, sDo, p_sCpy, p_sSeq, p_sIf, p_sIfE, p_sWh, p_sRet, p_sReV, p_sBlk, p_sSw, p_wDf, p_wCs, p_eInt, p_eLng, p_eNll, p_eStr, p_eSta, p_eLoc, p_eBin, p_eDiv, p_eI2L, p_eL2I, p_eFld, p_eAr, p_eRo, p_eLen, eCal, p_eMt, p_eAbs, p_eBo, p_eCon, p_aA0, p_aA1, p_oCmp, p_oCm0, p_oCmpL, p_oNul, p_oAnd, p_oOr, p_oNot]
  exact congrArg (fun z => fin true (z [v0, v1] M)) h
set_option maxRecDepth 100000 in
theorem u_X11_learnsBy (v0 v1 v2 v3 : Int) (M : Mem) : ci_X11_learnsBy.2.2.2.2 [v0, v1, v2, v3] M = fin false ((dSeq (dSet 4 (dBin (opF 0) (dAr wM 0 (dFld wM 11 22 (dLoc 0)) (dInt 1)) (dDiv (dvF 0) (dvW 0) (dLoc 2) (dInt 10))))
  (dSeq (dIf (dCmp .ne (dFld wM 11 28 (dLoc 0)) (dInt (-1))) (dSeq (dPutA wM 0 (dFld wM 11 15 (dLoc 0)) (dInt 0) (dCal wM ci_X11_of (dA1 (dA1 (dA1 dA0 (dLoc 0)) (dLoc 1)) (dInt 0))))
  (dSeq (dPutA wM 0 (dFld wM 11 15 (dLoc 0)) (dInt 1) (dLoc 2))
  (dSeq (dPutA wM 0 (dFld wM 11 15 (dLoc 0)) (dInt 2) (dCal wM ci_X11_of (dA1 (dA1 (dA1 dA0 (dLoc 0)) (dLoc 1)) (dInt 2))))
  (dSeq (dPutA wM 0 (dFld wM 11 15 (dLoc 0)) (dInt 3) (dCal wM ci_X11_of (dA1 (dA1 (dA1 dA0 (dLoc 0)) (dLoc 1)) (dInt 4))))
  (dSeq (dPutA wM 0 (dFld wM 11 15 (dLoc 0)) (dInt 4) (dAr wM 0 (dFld wM 11 26 (dLoc 0)) (dInt 49)))
  (dSeq (dPutA wM 0 (dFld wM 11 15 (dLoc 0)) (dInt 5) (dLoc 3))
  (dSet 4 (dCal wM ci_X11_worthOf (dA1 (dA1 dA0 (dLoc 0)) (dFld wM 11 28 (dLoc 0))))))))))))
  (dRet (dBin (mtF 0) (dInt 0) (dBin (mtF 1) (dInt 9) (dLoc 4)))))) [v0, v1, v2, v3, 0] M) := by
  have h : a_X11_learnsBy.1.1 = (dSeq (dSet 4 (dBin (opF 0) (dAr wM 0 (dFld wM 11 22 (dLoc 0)) (dInt 1)) (dDiv (dvF 0) (dvW 0) (dLoc 2) (dInt 10))))
  (dSeq (dIf (dCmp .ne (dFld wM 11 28 (dLoc 0)) (dInt (-1))) (dSeq (dPutA wM 0 (dFld wM 11 15 (dLoc 0)) (dInt 0) (dCal wM ci_X11_of (dA1 (dA1 (dA1 dA0 (dLoc 0)) (dLoc 1)) (dInt 0))))
  (dSeq (dPutA wM 0 (dFld wM 11 15 (dLoc 0)) (dInt 1) (dLoc 2))
  (dSeq (dPutA wM 0 (dFld wM 11 15 (dLoc 0)) (dInt 2) (dCal wM ci_X11_of (dA1 (dA1 (dA1 dA0 (dLoc 0)) (dLoc 1)) (dInt 2))))
  (dSeq (dPutA wM 0 (dFld wM 11 15 (dLoc 0)) (dInt 3) (dCal wM ci_X11_of (dA1 (dA1 (dA1 dA0 (dLoc 0)) (dLoc 1)) (dInt 4))))
  (dSeq (dPutA wM 0 (dFld wM 11 15 (dLoc 0)) (dInt 4) (dAr wM 0 (dFld wM 11 26 (dLoc 0)) (dInt 49)))
  (dSeq (dPutA wM 0 (dFld wM 11 15 (dLoc 0)) (dInt 5) (dLoc 3))
  (dSet 4 (dCal wM ci_X11_worthOf (dA1 (dA1 dA0 (dLoc 0)) (dFld wM 11 28 (dLoc 0))))))))))))
  (dRet (dBin (mtF 0) (dInt 0) (dBin (mtF 1) (dInt 9) (dLoc 4)))))) := by simp only [a_X11_learnsBy, p_sSet, p_sInc, p_sPutF, p_sUpdF, p_sPutA, p_sUpdA, sDo, p_sCpy, p_sSeq, p_sIf, p_sIfE, p_sWh, p_sRet, p_sReV, p_sBlk, p_sSw, p_wDf, p_wCs, p_eInt, p_eLng, p_eNll, p_eStr, p_eSta, p_eLoc, p_eBin, p_eDiv, p_eI2L, p_eL2I, p_eFld, p_eAr, p_eRo, p_eLen, eCal, p_eMt, p_eAbs, p_eBo, p_eCon, p_aA0, p_aA1, p_oCmp, p_oCm0, p_oCmpL, p_oNul, p_oAnd, p_oOr, p_oNot]
  exact congrArg (fun z => fin false (z [v0, v1, v2, v3, 0] M)) h
noncomputable def wc1_X11_live : CoD := (dCmp .lt (dLoc 2) (dFld wM 11 24 (dLoc 0)))
noncomputable def wb1_X11_live : StD := (dSeq (dIf (dCm0 .ne (dCal wM ci_X11_lives (dA1 (dA1 dA0 (dLoc 0)) (dLoc 2)))) (dSeq (dSet 3 (dCal wM ci_X11_learnsBy (dA1 (dA1 (dA1 (dA1 dA0 (dLoc 0)) (dLoc 2)) (dCal wM ci_X11_of (dA1 (dA1 (dA1 dA0 (dLoc 0)) (dLoc 2)) (dInt 1)))) (dLoc 1))))
  (dSeq (dSet 4 (dCon (dCmp .eq (dCal wM ci_X11_of (dA1 (dA1 (dA1 dA0 (dLoc 0)) (dLoc 2)) (dInt 2))) (dInt 2)) (dBin (opF 2) (dInt 2) (dAr wM 0 (dFld wM 11 22 (dLoc 0)) (dInt 3))) (dAr wM 0 (dFld wM 11 22 (dLoc 0)) (dInt 3))))
  (dSeq (dDo wM ci_X11_lay (dA1 (dA1 (dA1 (dA1 dA0 (dLoc 0)) (dLoc 2)) (dInt 0)) (dBin (mtF 1) (dInt 99) (dBin (opF 0) (dCal wM ci_X11_of (dA1 (dA1 (dA1 dA0 (dLoc 0)) (dLoc 2)) (dInt 0))) (dLoc 3)))))
  (dDo wM ci_X11_lay (dA1 (dA1 (dA1 (dA1 dA0 (dLoc 0)) (dLoc 2)) (dInt 4)) (dBin (mtF 1) (dInt 99) (dBin (opF 0) (dCal wM ci_X11_of (dA1 (dA1 (dA1 dA0 (dLoc 0)) (dLoc 2)) (dInt 4))) (dLoc 4)))))))))
  (dInc 2 1))
set_option maxRecDepth 100000 in
theorem u_X11_live (v0 : Int) (M : Mem) : ci_X11_live.2.2.2.2 [v0] M = fin false ((dSeq (dSet 1 (dCal wM ci_X11_manyLive (dA1 dA0 (dLoc 0))))
  (dSeq (dSeq (dSet 2 (dInt 0))
  (dWh (wc1_X11_live) (wb1_X11_live)))
  (dSeq (dSet 2 (dCon (dCmp .gt (dLoc 1) (dInt 1)) (dCal wM ci_X11_chosenNow (dA1 dA0 (dLoc 0))) (dInt (-1))))
  (dSeq (dIf (dCmp .ne (dLoc 2) (dInt (-1))) (dDo wM ci_X11_lay (dA1 (dA1 (dA1 (dA1 dA0 (dLoc 0)) (dLoc 2)) (dInt 5)) (dInt 1))))
  (dSeq (dPutA wM 0 (dFld wM 11 26 (dLoc 0)) (dInt 48) (dInt 0))
  (dSeq (dUpdA wM 0 (dFld wM 11 26 (dLoc 0)) (dInt 49) (dInt 1))
  (dRet (dLoc 2)))))))) [v0, 0, 0, 0, 0] M) := by
  have h : a_X11_live.1.1 = (dSeq (dSet 1 (dCal wM ci_X11_manyLive (dA1 dA0 (dLoc 0))))
  (dSeq (dSeq (dSet 2 (dInt 0))
  (dWh (wc1_X11_live) (wb1_X11_live)))
  (dSeq (dSet 2 (dCon (dCmp .gt (dLoc 1) (dInt 1)) (dCal wM ci_X11_chosenNow (dA1 dA0 (dLoc 0))) (dInt (-1))))
  (dSeq (dIf (dCmp .ne (dLoc 2) (dInt (-1))) (dDo wM ci_X11_lay (dA1 (dA1 (dA1 (dA1 dA0 (dLoc 0)) (dLoc 2)) (dInt 5)) (dInt 1))))
  (dSeq (dPutA wM 0 (dFld wM 11 26 (dLoc 0)) (dInt 48) (dInt 0))
  (dSeq (dUpdA wM 0 (dFld wM 11 26 (dLoc 0)) (dInt 49) (dInt 1))
  (dRet (dLoc 2)))))))) := by simp only [a_X11_live, wc1_X11_live, wb1_X11_live, p_sSet, p_sInc, p_sPutF, p_sUpdF, p_sPutA, p_sUpdA, sDo, p_sCpy, p_sSeq, p_sIf, p_sIfE, p_sWh, p_sRet, p_sReV, p_sBlk, p_sSw, p_wDf, p_wCs, p_eInt, p_eLng, p_eNll, p_eStr, p_eSta, p_eLoc, p_eBin, p_eDiv, p_eI2L, p_eL2I, p_eFld, p_eAr, p_eRo, p_eLen, eCal, p_eMt, p_eAbs, p_eBo, p_eCon, p_aA0, p_aA1, p_oCmp, p_oCm0, p_oCmpL, p_oNul, p_oAnd, p_oOr, p_oNot]
  exact congrArg (fun z => fin false (z [v0, 0, 0, 0, 0] M)) h
noncomputable def wc1_X11_artOf : CoD := (dCmp .lt (dLoc 3) (dFld wM 11 24 (dLoc 0)))
noncomputable def wb1_X11_artOf : StD := (dSeq (dSet 2 (dBin (opF 0) (dLoc 2) (dCon (dCm0 .ne (dCal wM ci_X11_has (dA1 (dA1 dA0 (dLoc 1)) (dLoc 3)))) (dCal wM ci_X11_of (dA1 (dA1 (dA1 dA0 (dLoc 0)) (dLoc 3)) (dInt 0))) (dInt 0))))
  (dInc 3 1))
set_option maxRecDepth 100000 in
theorem u_X11_artOf (v0 v1 : Int) (M : Mem) : ci_X11_artOf.2.2.2.2 [v0, v1] M = fin false ((dSeq (dSet 2 (dInt 0))
  (dSeq (dSeq (dSet 3 (dInt 0))
  (dWh (wc1_X11_artOf) (wb1_X11_artOf)))
  (dRet (dLoc 2)))) [v0, v1, 0, 0] M) := by
  have h : a_X11_artOf.1.1 = (dSeq (dSet 2 (dInt 0))
  (dSeq (dSeq (dSet 3 (dInt 0))
  (dWh (wc1_X11_artOf) (wb1_X11_artOf)))
  (dRet (dLoc 2)))) := by simp only [a_X11_artOf, wc1_X11_artOf, wb1_X11_artOf, p_sSet, p_sInc, p_sPutF, p_sUpdF, p_sPutA, p_sUpdA, sDo, p_sCpy, p_sSeq, p_sIf, p_sIfE, p_sWh, p_sRet, p_sReV, p_sBlk, p_sSw, p_wDf, p_wCs, p_eInt, p_eLng, p_eNll, p_eStr, p_eSta, p_eLoc, p_eBin, p_eDiv, p_eI2L, p_eL2I, p_eFld, p_eAr, p_eRo, p_eLen, eCal, p_eMt, p_eAbs, p_eBo, p_eCon, p_aA0, p_aA1, p_oCmp, p_oCm0, p_oCmpL, p_oNul, p_oAnd, p_oOr, p_oNot]
  exact congrArg (fun z => fin false (z [v0, v1, 0, 0] M)) h
noncomputable def wc1_X11_passYear : CoD := (dCmp .lt (dLoc 2) (dInt 180))
noncomputable def wb1_X11_passYear : StD := (dSeq (dPutA wM 0 (dFld wM 11 26 (dLoc 0)) (dBin (opF 1) (dBin (opF 0) (dInt 51) (dLoc 2)) (dInt 3)) (dAr wM 0 (dFld wM 11 26 (dLoc 0)) (dBin (opF 0) (dInt 51) (dLoc 2))))
  (dInc 2 1))
set_option maxRecDepth 100000 in
theorem u_X11_passYear (v0 : Int) (M : Mem) : ci_X11_passYear.2.2.2.2 [v0] M = fin false ((dSeq (dSeq (dSet 1 (dCal wM ci_X11_live (dA1 dA0 (dLoc 0))))
  (dSeq (dIf (dCmp .eq (dAr wM 0 (dFld wM 11 26 (dLoc 0)) (dInt 50)) (dInt 60)) (dSeq (dSeq (dSet 2 (dInt 3))
  (dWh (wc1_X11_passYear) (wb1_X11_passYear)))
  (dUpdA wM 1 (dFld wM 11 26 (dLoc 0)) (dInt 50) (dInt 1))))
  (dSeq (dSet 2 (dBin (opF 0) (dInt 51) (dBin (opF 2) (dInt 3) (dAr wM 0 (dFld wM 11 26 (dLoc 0)) (dInt 50)))))
  (dSeq (dPutA wM 0 (dFld wM 11 26 (dLoc 0)) (dLoc 2) (dLoc 1))
  (dSeq (dPutA wM 0 (dFld wM 11 26 (dLoc 0)) (dBin (opF 0) (dLoc 2) (dInt 1)) (dCal wM ci_X11_manyLive (dA1 dA0 (dLoc 0))))
  (dSeq (dPutA wM 0 (dFld wM 11 26 (dLoc 0)) (dBin (opF 0) (dLoc 2) (dInt 2)) (dCal wM ci_X11_artOf (dA1 (dA1 dA0 (dLoc 0)) (dCal wM ci_X11_living (dA1 dA0 (dLoc 0))))))
  (dUpdA wM 0 (dFld wM 11 26 (dLoc 0)) (dInt 50) (dInt 1))))))))
  dReV) [v0, 0, 0] M) := by
  have h : a_X11_passYear.1.1 = (dSeq (dSeq (dSet 1 (dCal wM ci_X11_live (dA1 dA0 (dLoc 0))))
  (dSeq (dIf (dCmp .eq (dAr wM 0 (dFld wM 11 26 (dLoc 0)) (dInt 50)) (dInt 60)) (dSeq (dSeq (dSet 2 (dInt 3))
  (dWh (wc1_X11_passYear) (wb1_X11_passYear)))
  (dUpdA wM 1 (dFld wM 11 26 (dLoc 0)) (dInt 50) (dInt 1))))
  (dSeq (dSet 2 (dBin (opF 0) (dInt 51) (dBin (opF 2) (dInt 3) (dAr wM 0 (dFld wM 11 26 (dLoc 0)) (dInt 50)))))
  (dSeq (dPutA wM 0 (dFld wM 11 26 (dLoc 0)) (dLoc 2) (dLoc 1))
  (dSeq (dPutA wM 0 (dFld wM 11 26 (dLoc 0)) (dBin (opF 0) (dLoc 2) (dInt 1)) (dCal wM ci_X11_manyLive (dA1 dA0 (dLoc 0))))
  (dSeq (dPutA wM 0 (dFld wM 11 26 (dLoc 0)) (dBin (opF 0) (dLoc 2) (dInt 2)) (dCal wM ci_X11_artOf (dA1 (dA1 dA0 (dLoc 0)) (dCal wM ci_X11_living (dA1 dA0 (dLoc 0))))))
  (dUpdA wM 0 (dFld wM 11 26 (dLoc 0)) (dInt 50) (dInt 1))))))))
  dReV) := by simp only [a_X11_passYear, wc1_X11_passYear, wb1_X11_passYear, p_sSet, p_sInc, p_sPutF, p_sUpdF, p_sPutA, p_sUpdA, sDo, p_sCpy, p_sSeq, p_sIf, p_sIfE, p_sWh, p_sRet, p_sReV, p_sBlk, p_sSw, p_wDf, p_wCs, p_eInt, p_eLng, p_eNll, p_eStr, p_eSta, p_eLoc, p_eBin, p_eDiv, p_eI2L, p_eL2I, p_eFld, p_eAr, p_eRo, p_eLen, eCal, p_eMt, p_eAbs, p_eBo, p_eCon, p_aA0, p_aA1, p_oCmp, p_oCm0, p_oCmpL, p_oNul, p_oAnd, p_oOr, p_oNot]
  exact congrArg (fun z => fin false (z [v0, 0, 0] M)) h
noncomputable def wc1_X11_keep : CoD := (dCmp .lt (dLoc 1) (dInt 9240))
noncomputable def wb1_X11_keep : StD := (dSeq (dPutA wM 0 (dFld wM 11 30 (dLoc 0)) (dBin (opF 1) (dLoc 1) (dInt 231)) (dAr wM 0 (dFld wM 11 30 (dLoc 0)) (dLoc 1)))
  (dInc 1 1))
noncomputable def wc2_X11_keep : CoD := (dCmp .lt (dLoc 1) (dInt 231))
noncomputable def wb2_X11_keep : StD := (dSeq (dPutA wM 0 (dFld wM 11 30 (dLoc 0)) (dBin (opF 0) (dBin (opF 2) (dInt 231) (dFld wM 11 31 (dLoc 0))) (dLoc 1)) (dAr wM 0 (dFld wM 11 26 (dLoc 0)) (dLoc 1)))
  (dInc 1 1))
set_option maxRecDepth 100000 in
theorem u_X11_keep (v0 : Int) (M : Mem) : ci_X11_keep.2.2.2.2 [v0] M = fin false ((dSeq (dSeq (dIf (dCmp .eq (dFld wM 11 31 (dLoc 0)) (dInt 40)) (dSeq (dSeq (dSet 1 (dInt 231))
  (dWh (wc1_X11_keep) (wb1_X11_keep)))
  (dUpdF wM 1 11 31 (dLoc 0) (dInt 1))))
  (dSeq (dSeq (dSet 1 (dInt 0))
  (dWh (wc2_X11_keep) (wb2_X11_keep)))
  (dUpdF wM 0 11 31 (dLoc 0) (dInt 1))))
  dReV) [v0, 0] M) := by
  have h : a_X11_keep.1.1 = (dSeq (dSeq (dIf (dCmp .eq (dFld wM 11 31 (dLoc 0)) (dInt 40)) (dSeq (dSeq (dSet 1 (dInt 231))
  (dWh (wc1_X11_keep) (wb1_X11_keep)))
  (dUpdF wM 1 11 31 (dLoc 0) (dInt 1))))
  (dSeq (dSeq (dSet 1 (dInt 0))
  (dWh (wc2_X11_keep) (wb2_X11_keep)))
  (dUpdF wM 0 11 31 (dLoc 0) (dInt 1))))
  dReV) := by simp only [a_X11_keep, wc1_X11_keep, wb1_X11_keep, wc2_X11_keep, wb2_X11_keep, p_sSet, p_sInc, p_sPutF, p_sUpdF, p_sPutA, p_sUpdA, sDo, p_sCpy, p_sSeq, p_sIf, p_sIfE, p_sWh, p_sRet, p_sReV, p_sBlk, p_sSw, p_wDf, p_wCs, p_eInt, p_eLng, p_eNll, p_eStr, p_eSta, p_eLoc, p_eBin, p_eDiv, p_eI2L, p_eL2I, p_eFld, p_eAr, p_eRo, p_eLen, eCal, p_eMt, p_eAbs, p_eBo, p_eCon, p_aA0, p_aA1, p_oCmp, p_oCm0, p_oCmpL, p_oNul, p_oAnd, p_oOr, p_oNot]
  exact congrArg (fun z => fin false (z [v0, 0] M)) h
set_option maxRecDepth 100000 in
theorem u_X11_isRefused (v0 v1 : Int) (M : Mem) : ci_X11_isRefused.2.2.2.2 [v0, v1] M = fin true ((dSeq (dIf (dCmp .ne (dLoc 1) (dInt (-1))) (dUpdA wM 0 (dFld wM 11 27 (dLoc 0)) (dLoc 1) (dInt 1)))
  (dRet (dBo (dCmp .ne (dLoc 1) (dInt (-1)))))) [v0, v1] M) := by
  have h : a_X11_isRefused.1.1 = (dSeq (dIf (dCmp .ne (dLoc 1) (dInt (-1))) (dUpdA wM 0 (dFld wM 11 27 (dLoc 0)) (dLoc 1) (dInt 1)))
  (dRet (dBo (dCmp .ne (dLoc 1) (dInt (-1)))))) := by simp only [a_X11_isRefused, p_sSet, p_sInc, p_sPutF, p_sUpdF, p_sPutA, p_sUpdA, sDo, p_sCpy, p_sSeq, p_sIf, p_sIfE, p_sWh, p_sRet, p_sReV, p_sBlk, p_sSw, p_wDf, p_wCs, p_eInt, p_eLng, p_eNll, p_eStr, p_eSta, p_eLoc, p_eBin, p_eDiv, p_eI2L, p_eL2I, p_eFld, p_eAr, p_eRo, p_eLen, eCal, p_eMt, p_eAbs, p_eBo, p_eCon, p_aA0, p_aA1, p_oCmp, p_oCm0, p_oCmpL, p_oNul, p_oAnd, p_oOr, p_oNot]
  exact congrArg (fun z => fin true (z [v0, v1] M)) h
set_option maxRecDepth 100000 in
theorem u_X11_show (v0 v1 v2 : Int) (M : Mem) : ci_X11_show.2.2.2.2 [v0, v1, v2] M = fin false ((dSeq (dIf (dCm0 .ne (dCal wM ci_X11_isRefused (dA1 (dA1 dA0 (dLoc 0)) (dCon (dNot (dCm0 .ne (dCal wM ci_X11_isLad (dA1 (dA1 dA0 (dLoc 0)) (dLoc 1))))) (dInt 0) (dCon (dNot (dCm0 .ne (dCal wM ci_X11_lives (dA1 (dA1 dA0 (dLoc 0)) (dLoc 1))))) (dInt 1) (dCon (dNot (dCm0 .ne (dCal wM ci_X11_in (dA1 (dA1 (dA1 dA0 (dLoc 2)) (dInt 0)) (dCal wM ci_X11_of (dA1 (dA1 (dA1 dA0 (dLoc 0)) (dLoc 1)) (dInt 0))))))) (dInt 2) (dInt (-1)))))))) (dRet (dInt (-1000000))))
  (dSeq (dDo wM ci_X11_keep (dA1 dA0 (dLoc 0)))
  (dSeq (dDo wM ci_X11_lay (dA1 (dA1 (dA1 (dA1 dA0 (dLoc 0)) (dLoc 1)) (dInt 1)) (dLoc 2)))
  (dRet (dCal wM ci_X11_fear (dA1 (dA1 dA0 (dLoc 0)) (dLoc 1))))))) [v0, v1, v2] M) := by
  have h : a_X11_show.1.1 = (dSeq (dIf (dCm0 .ne (dCal wM ci_X11_isRefused (dA1 (dA1 dA0 (dLoc 0)) (dCon (dNot (dCm0 .ne (dCal wM ci_X11_isLad (dA1 (dA1 dA0 (dLoc 0)) (dLoc 1))))) (dInt 0) (dCon (dNot (dCm0 .ne (dCal wM ci_X11_lives (dA1 (dA1 dA0 (dLoc 0)) (dLoc 1))))) (dInt 1) (dCon (dNot (dCm0 .ne (dCal wM ci_X11_in (dA1 (dA1 (dA1 dA0 (dLoc 2)) (dInt 0)) (dCal wM ci_X11_of (dA1 (dA1 (dA1 dA0 (dLoc 0)) (dLoc 1)) (dInt 0))))))) (dInt 2) (dInt (-1)))))))) (dRet (dInt (-1000000))))
  (dSeq (dDo wM ci_X11_keep (dA1 dA0 (dLoc 0)))
  (dSeq (dDo wM ci_X11_lay (dA1 (dA1 (dA1 (dA1 dA0 (dLoc 0)) (dLoc 1)) (dInt 1)) (dLoc 2)))
  (dRet (dCal wM ci_X11_fear (dA1 (dA1 dA0 (dLoc 0)) (dLoc 1))))))) := by simp only [a_X11_show, p_sSet, p_sInc, p_sPutF, p_sUpdF, p_sPutA, p_sUpdA, sDo, p_sCpy, p_sSeq, p_sIf, p_sIfE, p_sWh, p_sRet, p_sReV, p_sBlk, p_sSw, p_wDf, p_wCs, p_eInt, p_eLng, p_eNll, p_eStr, p_eSta, p_eLoc, p_eBin, p_eDiv, p_eI2L, p_eL2I, p_eFld, p_eAr, p_eRo, p_eLen, eCal, p_eMt, p_eAbs, p_eBo, p_eCon, p_aA0, p_aA1, p_oCmp, p_oCm0, p_oCmpL, p_oNul, p_oAnd, p_oOr, p_oNot]
  exact congrArg (fun z => fin false (z [v0, v1, v2] M)) h
set_option maxRecDepth 100000 in
theorem u_X11_warn (v0 v1 : Int) (M : Mem) : ci_X11_warn.2.2.2.2 [v0, v1] M = fin false ((dSeq (dSet 2 (dInt 0))
  (dSeq (dIf (dCm0 .ne (dCal wM ci_X11_isLad (dA1 (dA1 dA0 (dLoc 0)) (dLoc 1)))) (dSeq (dSet 3 (dCal wM ci_X11_of (dA1 (dA1 (dA1 dA0 (dLoc 0)) (dLoc 1)) (dInt 3))))
  (dSet 2 (dCon (dOr (dNot (dCm0 .ne (dCal wM ci_X11_lives (dA1 (dA1 dA0 (dLoc 0)) (dLoc 1))))) (dAnd (dCmp .ne (dLoc 3) (dInt (-1))) (dNot (dCm0 .ne (dCal wM ci_X11_lives (dA1 (dA1 dA0 (dLoc 0)) (dLoc 3))))))) (dInt 1) (dCon (dOr (dCmp .eq (dLoc 3) (dInt (-1))) (dCm0 .ne (dCal wM ci_X11_has (dA1 (dA1 dA0 (dAr wM 0 (dFld wM 11 26 (dLoc 0)) (dInt 48))) (dLoc 3))))) (dInt 3) (dInt (-1)))))))
  (dSeq (dIf (dCm0 .ne (dCal wM ci_X11_isRefused (dA1 (dA1 dA0 (dLoc 0)) (dLoc 2)))) (dRet (dInt (-1))))
  (dSeq (dDo wM ci_X11_keep (dA1 dA0 (dLoc 0)))
  (dSeq (dUpdA wM 4 (dFld wM 11 26 (dLoc 0)) (dInt 48) (dBin (opF 6) (dInt 1) (dCal wM ci_X11_of (dA1 (dA1 (dA1 dA0 (dLoc 0)) (dLoc 1)) (dInt 3)))))
  (dRet (dCal wM ci_X11_of (dA1 (dA1 (dA1 dA0 (dLoc 0)) (dLoc 1)) (dInt 3))))))))) [v0, v1, 0, 0] M) := by
  have h : a_X11_warn.1.1 = (dSeq (dSet 2 (dInt 0))
  (dSeq (dIf (dCm0 .ne (dCal wM ci_X11_isLad (dA1 (dA1 dA0 (dLoc 0)) (dLoc 1)))) (dSeq (dSet 3 (dCal wM ci_X11_of (dA1 (dA1 (dA1 dA0 (dLoc 0)) (dLoc 1)) (dInt 3))))
  (dSet 2 (dCon (dOr (dNot (dCm0 .ne (dCal wM ci_X11_lives (dA1 (dA1 dA0 (dLoc 0)) (dLoc 1))))) (dAnd (dCmp .ne (dLoc 3) (dInt (-1))) (dNot (dCm0 .ne (dCal wM ci_X11_lives (dA1 (dA1 dA0 (dLoc 0)) (dLoc 3))))))) (dInt 1) (dCon (dOr (dCmp .eq (dLoc 3) (dInt (-1))) (dCm0 .ne (dCal wM ci_X11_has (dA1 (dA1 dA0 (dAr wM 0 (dFld wM 11 26 (dLoc 0)) (dInt 48))) (dLoc 3))))) (dInt 3) (dInt (-1)))))))
  (dSeq (dIf (dCm0 .ne (dCal wM ci_X11_isRefused (dA1 (dA1 dA0 (dLoc 0)) (dLoc 2)))) (dRet (dInt (-1))))
  (dSeq (dDo wM ci_X11_keep (dA1 dA0 (dLoc 0)))
  (dSeq (dUpdA wM 4 (dFld wM 11 26 (dLoc 0)) (dInt 48) (dBin (opF 6) (dInt 1) (dCal wM ci_X11_of (dA1 (dA1 (dA1 dA0 (dLoc 0)) (dLoc 1)) (dInt 3)))))
  (dRet (dCal wM ci_X11_of (dA1 (dA1 (dA1 dA0 (dLoc 0)) (dLoc 1)) (dInt 3))))))))) := by simp only [a_X11_warn, p_sSet, p_sInc, p_sPutF, p_sUpdF, p_sPutA, p_sUpdA, sDo, p_sCpy, p_sSeq, p_sIf, p_sIfE, p_sWh, p_sRet, p_sReV, p_sBlk, p_sSw, p_wDf, p_wCs, p_eInt, p_eLng, p_eNll, p_eStr, p_eSta, p_eLoc, p_eBin, p_eDiv, p_eI2L, p_eL2I, p_eFld, p_eAr, p_eRo, p_eLen, eCal, p_eMt, p_eAbs, p_eBo, p_eCon, p_aA0, p_aA1, p_oCmp, p_oCm0, p_oCmpL, p_oNul, p_oAnd, p_oOr, p_oNot]
  exact congrArg (fun z => fin false (z [v0, v1, 0, 0] M)) h
set_option maxRecDepth 100000 in
theorem u_X11_leave (v0 v1 : Int) (M : Mem) : ci_X11_leave.2.2.2.2 [v0, v1] M = fin false ((dSeq (dIf (dCm0 .ne (dCal wM ci_X11_isRefused (dA1 (dA1 dA0 (dLoc 0)) (dCon (dNot (dCm0 .ne (dCal wM ci_X11_isLad (dA1 (dA1 dA0 (dLoc 0)) (dLoc 1))))) (dInt 0) (dCon (dNot (dCm0 .ne (dCal wM ci_X11_lives (dA1 (dA1 dA0 (dLoc 0)) (dLoc 1))))) (dInt 1) (dCon (dCmp .eq (dCal wM ci_X11_manyLive (dA1 dA0 (dLoc 0))) (dInt 1)) (dInt 3) (dInt (-1)))))))) (dRet (dInt (-1))))
  (dSeq (dDo wM ci_X11_keep (dA1 dA0 (dLoc 0)))
  (dSeq (dDo wM ci_X11_lay (dA1 (dA1 (dA1 (dA1 dA0 (dLoc 0)) (dLoc 1)) (dInt 5)) (dInt 2)))
  (dRet (dCal wM ci_X11_manyLive (dA1 dA0 (dLoc 0))))))) [v0, v1] M) := by
  have h : a_X11_leave.1.1 = (dSeq (dIf (dCm0 .ne (dCal wM ci_X11_isRefused (dA1 (dA1 dA0 (dLoc 0)) (dCon (dNot (dCm0 .ne (dCal wM ci_X11_isLad (dA1 (dA1 dA0 (dLoc 0)) (dLoc 1))))) (dInt 0) (dCon (dNot (dCm0 .ne (dCal wM ci_X11_lives (dA1 (dA1 dA0 (dLoc 0)) (dLoc 1))))) (dInt 1) (dCon (dCmp .eq (dCal wM ci_X11_manyLive (dA1 dA0 (dLoc 0))) (dInt 1)) (dInt 3) (dInt (-1)))))))) (dRet (dInt (-1))))
  (dSeq (dDo wM ci_X11_keep (dA1 dA0 (dLoc 0)))
  (dSeq (dDo wM ci_X11_lay (dA1 (dA1 (dA1 (dA1 dA0 (dLoc 0)) (dLoc 1)) (dInt 5)) (dInt 2)))
  (dRet (dCal wM ci_X11_manyLive (dA1 dA0 (dLoc 0))))))) := by simp only [a_X11_leave, p_sSet, p_sInc, p_sPutF, p_sUpdF, p_sPutA, p_sUpdA, sDo, p_sCpy, p_sSeq, p_sIf, p_sIfE, p_sWh, p_sRet, p_sReV, p_sBlk, p_sSw, p_wDf, p_wCs, p_eInt, p_eLng, p_eNll, p_eStr, p_eSta, p_eLoc, p_eBin, p_eDiv, p_eI2L, p_eL2I, p_eFld, p_eAr, p_eRo, p_eLen, eCal, p_eMt, p_eAbs, p_eBo, p_eCon, p_aA0, p_aA1, p_oCmp, p_oCm0, p_oCmpL, p_oNul, p_oAnd, p_oOr, p_oNot]
  exact congrArg (fun z => fin false (z [v0, v1] M)) h
noncomputable def wc1_X11_comeNow : CoD := (dCmp .lt (dLoc 2) (dInt 6))
noncomputable def wb1_X11_comeNow : StD := (dSeq (dDo wM ci_X11_lay (dA1 (dA1 (dA1 (dA1 dA0 (dLoc 0)) (dLoc 1)) (dLoc 2)) (dInt 0)))
  (dInc 2 1))
set_option maxRecDepth 100000 in
theorem u_X11_comeNow (v0 v1 : Int) (M : Mem) : ci_X11_comeNow.2.2.2.2 [v0, v1] M = fin false ((dSeq (dSeq (dSeq (dSet 2 (dInt 0))
  (dWh (wc1_X11_comeNow) (wb1_X11_comeNow)))
  (dSeq (dDo wM ci_X11_lay (dA1 (dA1 (dA1 (dA1 dA0 (dLoc 0)) (dLoc 1)) (dInt 3)) (dInt (-1))))
  (dSeq (dDo wM ci_X11_lay (dA1 (dA1 (dA1 (dA1 dA0 (dLoc 0)) (dLoc 1)) (dInt 4)) (dInt 14)))
  (dUpdA wM 3 (dFld wM 11 26 (dLoc 0)) (dInt 48) (dBin (opF 5) (dBin (opF 6) (dInt 1) (dLoc 1)) (dInt (-1)))))))
  dReV) [v0, v1, 0] M) := by
  have h : a_X11_comeNow.1.1 = (dSeq (dSeq (dSeq (dSet 2 (dInt 0))
  (dWh (wc1_X11_comeNow) (wb1_X11_comeNow)))
  (dSeq (dDo wM ci_X11_lay (dA1 (dA1 (dA1 (dA1 dA0 (dLoc 0)) (dLoc 1)) (dInt 3)) (dInt (-1))))
  (dSeq (dDo wM ci_X11_lay (dA1 (dA1 (dA1 (dA1 dA0 (dLoc 0)) (dLoc 1)) (dInt 4)) (dInt 14)))
  (dUpdA wM 3 (dFld wM 11 26 (dLoc 0)) (dInt 48) (dBin (opF 5) (dBin (opF 6) (dInt 1) (dLoc 1)) (dInt (-1)))))))
  dReV) := by simp only [a_X11_comeNow, wc1_X11_comeNow, wb1_X11_comeNow, p_sSet, p_sInc, p_sPutF, p_sUpdF, p_sPutA, p_sUpdA, sDo, p_sCpy, p_sSeq, p_sIf, p_sIfE, p_sWh, p_sRet, p_sReV, p_sBlk, p_sSw, p_wDf, p_wCs, p_eInt, p_eLng, p_eNll, p_eStr, p_eSta, p_eLoc, p_eBin, p_eDiv, p_eI2L, p_eL2I, p_eFld, p_eAr, p_eRo, p_eLen, eCal, p_eMt, p_eAbs, p_eBo, p_eCon, p_aA0, p_aA1, p_oCmp, p_oCm0, p_oCmpL, p_oNul, p_oAnd, p_oOr, p_oNot]
  exact congrArg (fun z => fin false (z [v0, v1, 0] M)) h
set_option maxRecDepth 100000 in
theorem u_X11_come (v0 v1 : Int) (M : Mem) : ci_X11_come.2.2.2.2 [v0, v1] M = fin false ((dSeq (dIf (dCm0 .ne (dCal wM ci_X11_isRefused (dA1 (dA1 dA0 (dLoc 0)) (dCon (dNot (dCm0 .ne (dCal wM ci_X11_isLad (dA1 (dA1 dA0 (dLoc 0)) (dLoc 1))))) (dInt 0) (dCon (dCm0 .ne (dCal wM ci_X11_lives (dA1 (dA1 dA0 (dLoc 0)) (dLoc 1)))) (dInt 1) (dInt (-1))))))) (dRet (dInt (-1))))
  (dSeq (dDo wM ci_X11_keep (dA1 dA0 (dLoc 0)))
  (dSeq (dDo wM ci_X11_comeNow (dA1 (dA1 dA0 (dLoc 0)) (dLoc 1)))
  (dRet (dCal wM ci_X11_manyLive (dA1 dA0 (dLoc 0))))))) [v0, v1] M) := by
  have h : a_X11_come.1.1 = (dSeq (dIf (dCm0 .ne (dCal wM ci_X11_isRefused (dA1 (dA1 dA0 (dLoc 0)) (dCon (dNot (dCm0 .ne (dCal wM ci_X11_isLad (dA1 (dA1 dA0 (dLoc 0)) (dLoc 1))))) (dInt 0) (dCon (dCm0 .ne (dCal wM ci_X11_lives (dA1 (dA1 dA0 (dLoc 0)) (dLoc 1)))) (dInt 1) (dInt (-1))))))) (dRet (dInt (-1))))
  (dSeq (dDo wM ci_X11_keep (dA1 dA0 (dLoc 0)))
  (dSeq (dDo wM ci_X11_comeNow (dA1 (dA1 dA0 (dLoc 0)) (dLoc 1)))
  (dRet (dCal wM ci_X11_manyLive (dA1 dA0 (dLoc 0))))))) := by simp only [a_X11_come, p_sSet, p_sInc, p_sPutF, p_sUpdF, p_sPutA, p_sUpdA, sDo, p_sCpy, p_sSeq, p_sIf, p_sIfE, p_sWh, p_sRet, p_sReV, p_sBlk, p_sSw, p_wDf, p_wCs, p_eInt, p_eLng, p_eNll, p_eStr, p_eSta, p_eLoc, p_eBin, p_eDiv, p_eI2L, p_eL2I, p_eFld, p_eAr, p_eRo, p_eLen, eCal, p_eMt, p_eAbs, p_eBo, p_eCon, p_aA0, p_aA1, p_oCmp, p_oCm0, p_oCmpL, p_oNul, p_oAnd, p_oOr, p_oNot]
  exact congrArg (fun z => fin false (z [v0, v1] M)) h
noncomputable def wc1_X11_years : CoD := (dCmp .lt (dLoc 2) (dLoc 1))
noncomputable def wb1_X11_years : StD := (dSeq (dSeq (dDo wM ci_X11_keep (dA1 dA0 (dLoc 0)))
  (dDo wM ci_X11_passYear (dA1 dA0 (dLoc 0))))
  (dInc 2 1))
set_option maxRecDepth 100000 in
theorem u_X11_years (v0 v1 : Int) (M : Mem) : ci_X11_years.2.2.2.2 [v0, v1] M = fin false ((dSeq (dIf (dCm0 .ne (dCal wM ci_X11_isRefused (dA1 (dA1 dA0 (dLoc 0)) (dCon (dCm0 .eq (dFld wM 11 24 (dLoc 0))) (dInt 0) (dCon (dNot (dCm0 .ne (dCal wM ci_X11_in (dA1 (dA1 (dA1 dA0 (dLoc 1)) (dInt 1)) (dInt 60))))) (dInt 2) (dCon (dCmp .gt (dBin (opF 0) (dAr wM 0 (dFld wM 11 26 (dLoc 0)) (dInt 49)) (dLoc 1)) (dInt 999)) (dInt 4) (dInt (-1)))))))) (dRet (dInt (-1))))
  (dSeq (dSeq (dSet 2 (dInt 0))
  (dWh (wc1_X11_years) (wb1_X11_years)))
  (dRet (dAr wM 0 (dFld wM 11 26 (dLoc 0)) (dInt 49))))) [v0, v1, 0] M) := by
  have h : a_X11_years.1.1 = (dSeq (dIf (dCm0 .ne (dCal wM ci_X11_isRefused (dA1 (dA1 dA0 (dLoc 0)) (dCon (dCm0 .eq (dFld wM 11 24 (dLoc 0))) (dInt 0) (dCon (dNot (dCm0 .ne (dCal wM ci_X11_in (dA1 (dA1 (dA1 dA0 (dLoc 1)) (dInt 1)) (dInt 60))))) (dInt 2) (dCon (dCmp .gt (dBin (opF 0) (dAr wM 0 (dFld wM 11 26 (dLoc 0)) (dInt 49)) (dLoc 1)) (dInt 999)) (dInt 4) (dInt (-1)))))))) (dRet (dInt (-1))))
  (dSeq (dSeq (dSet 2 (dInt 0))
  (dWh (wc1_X11_years) (wb1_X11_years)))
  (dRet (dAr wM 0 (dFld wM 11 26 (dLoc 0)) (dInt 49))))) := by simp only [a_X11_years, wc1_X11_years, wb1_X11_years, p_sSet, p_sInc, p_sPutF, p_sUpdF, p_sPutA, p_sUpdA, sDo, p_sCpy, p_sSeq, p_sIf, p_sIfE, p_sWh, p_sRet, p_sReV, p_sBlk, p_sSw, p_wDf, p_wCs, p_eInt, p_eLng, p_eNll, p_eStr, p_eSta, p_eLoc, p_eBin, p_eDiv, p_eI2L, p_eL2I, p_eFld, p_eAr, p_eRo, p_eLen, eCal, p_eMt, p_eAbs, p_eBo, p_eCon, p_aA0, p_aA1, p_oCmp, p_oCm0, p_oCmpL, p_oNul, p_oAnd, p_oOr, p_oNot]
  exact congrArg (fun z => fin false (z [v0, v1, 0] M)) h
set_option maxRecDepth 100000 in
theorem u_X11_bold (v0 v1 : Int) (M : Mem) : ci_X11_bold.2.2.2.2 [v0, v1] M = fin true ((dSeq (dIf (dOr (dNot (dCm0 .ne (dCal wM ci_X11_in (dA1 (dA1 (dA1 dA0 (dLoc 1)) (dInt 0)) (dInt 9))))) (dCmp .eq (dLoc 1) (dFld wM 11 29 (dLoc 0)))) (dRet (dInt 0)))
  (dSeq (dPutF wM 11 29 (dLoc 0) (dLoc 1))
  (dRet (dInt 1)))) [v0, v1] M) := by
  have h : a_X11_bold.1.1 = (dSeq (dIf (dOr (dNot (dCm0 .ne (dCal wM ci_X11_in (dA1 (dA1 (dA1 dA0 (dLoc 1)) (dInt 0)) (dInt 9))))) (dCmp .eq (dLoc 1) (dFld wM 11 29 (dLoc 0)))) (dRet (dInt 0)))
  (dSeq (dPutF wM 11 29 (dLoc 0) (dLoc 1))
  (dRet (dInt 1)))) := by simp only [a_X11_bold, p_sSet, p_sInc, p_sPutF, p_sUpdF, p_sPutA, p_sUpdA, sDo, p_sCpy, p_sSeq, p_sIf, p_sIfE, p_sWh, p_sRet, p_sReV, p_sBlk, p_sSw, p_wDf, p_wCs, p_eInt, p_eLng, p_eNll, p_eStr, p_eSta, p_eLoc, p_eBin, p_eDiv, p_eI2L, p_eL2I, p_eFld, p_eAr, p_eRo, p_eLen, eCal, p_eMt, p_eAbs, p_eBo, p_eCon, p_aA0, p_aA1, p_oCmp, p_oCm0, p_oCmpL, p_oNul, p_oAnd, p_oOr, p_oNot]
  exact congrArg (fun z => fin true (z [v0, v1] M)) h
set_option maxRecDepth 100000 in
theorem u_X11_draw (v0 v1 : Int) (M : Mem) : ci_X11_draw.2.2.2.2 [v0, v1] M = fin false ((dSeq (dPutF wM 11 32 (dLoc 0) (dBin (opF 9) (dBin (opF 11) (dFld wM 11 32 (dLoc 0)) (dInt 6364136223846793005)) (dInt 1442695040888963407)))
  (dRet (dUn id (dDiv (dvF 3) (dvW 3) (dBin (opF 15) (dFld wM 11 32 (dLoc 0)) (dInt 33)) (dUn wr (dLoc 1)))))) [v0, v1] M) := by
  have h : a_X11_draw.1.1 = (dSeq (dPutF wM 11 32 (dLoc 0) (dBin (opF 9) (dBin (opF 11) (dFld wM 11 32 (dLoc 0)) (dInt 6364136223846793005)) (dInt 1442695040888963407)))
  (dRet (dUn id (dDiv (dvF 3) (dvW 3) (dBin (opF 15) (dFld wM 11 32 (dLoc 0)) (dInt 33)) (dUn wr (dLoc 1)))))) := by simp only [a_X11_draw, p_sSet, p_sInc, p_sPutF, p_sUpdF, p_sPutA, p_sUpdA, sDo, p_sCpy, p_sSeq, p_sIf, p_sIfE, p_sWh, p_sRet, p_sReV, p_sBlk, p_sSw, p_wDf, p_wCs, p_eInt, p_eLng, p_eNll, p_eStr, p_eSta, p_eLoc, p_eBin, p_eDiv, p_eI2L, p_eL2I, p_eFld, p_eAr, p_eRo, p_eLen, eCal, p_eMt, p_eAbs, p_eBo, p_eCon, p_aA0, p_aA1, p_oCmp, p_oCm0, p_oCmpL, p_oNul, p_oAnd, p_oOr, p_oNot]
  exact congrArg (fun z => fin false (z [v0, v1] M)) h
noncomputable def wc1_X11_drawLads : CoD := (dCmp .lt (dLoc 2) (dFld wM 11 24 (dLoc 0)))
noncomputable def wb1_X11_drawLads : StD := (dSeq (dIf (dCm0 .ne (dCal wM ci_X11_has (dA1 (dA1 dA0 (dLoc 1)) (dLoc 2)))) (dDo wM ci_X11_lay (dA1 (dA1 (dA1 (dA1 dA0 (dLoc 0)) (dLoc 2)) (dInt 1)) (dCon (dCmp .lt (dCal wM ci_X11_draw (dA1 (dA1 dA0 (dLoc 0)) (dInt 10))) (dFld wM 11 29 (dLoc 0))) (dDiv (dvF 0) (dvW 0) (dCal wM ci_X11_of (dA1 (dA1 (dA1 dA0 (dLoc 0)) (dLoc 2)) (dInt 0))) (dInt 2)) (dInt 0)))))
  (dInc 2 1))
noncomputable def wc2_X11_drawLads : CoD := (dCmp .lt (dLoc 2) (dFld wM 11 24 (dLoc 0)))
noncomputable def wb2_X11_drawLads : StD := (dSeq (dIf (dAnd (dNot (dCm0 .ne (dCal wM ci_X11_has (dA1 (dA1 dA0 (dLoc 1)) (dLoc 2))))) (dCmp .eq (dCal wM ci_X11_draw (dA1 (dA1 dA0 (dLoc 0)) (dInt 2))) (dInt 1))) (dDo wM ci_X11_comeNow (dA1 (dA1 dA0 (dLoc 0)) (dLoc 2))))
  (dInc 2 1))
set_option maxRecDepth 100000 in
theorem u_X11_drawLads (v0 : Int) (M : Mem) : ci_X11_drawLads.2.2.2.2 [v0] M = fin false ((dSeq (dSeq (dSet 1 (dCal wM ci_X11_living (dA1 dA0 (dLoc 0))))
  (dSeq (dSeq (dSet 2 (dInt 0))
  (dWh (wc1_X11_drawLads) (wb1_X11_drawLads)))
  (dSeq (dSet 2 (dInt 0))
  (dWh (wc2_X11_drawLads) (wb2_X11_drawLads)))))
  dReV) [v0, 0, 0] M) := by
  have h : a_X11_drawLads.1.1 = (dSeq (dSeq (dSet 1 (dCal wM ci_X11_living (dA1 dA0 (dLoc 0))))
  (dSeq (dSeq (dSet 2 (dInt 0))
  (dWh (wc1_X11_drawLads) (wb1_X11_drawLads)))
  (dSeq (dSet 2 (dInt 0))
  (dWh (wc2_X11_drawLads) (wb2_X11_drawLads)))))
  dReV) := by simp only [a_X11_drawLads, wc1_X11_drawLads, wb1_X11_drawLads, wc2_X11_drawLads, wb2_X11_drawLads, p_sSet, p_sInc, p_sPutF, p_sUpdF, p_sPutA, p_sUpdA, sDo, p_sCpy, p_sSeq, p_sIf, p_sIfE, p_sWh, p_sRet, p_sReV, p_sBlk, p_sSw, p_wDf, p_wCs, p_eInt, p_eLng, p_eNll, p_eStr, p_eSta, p_eLoc, p_eBin, p_eDiv, p_eI2L, p_eL2I, p_eFld, p_eAr, p_eRo, p_eLen, eCal, p_eMt, p_eAbs, p_eBo, p_eCon, p_aA0, p_aA1, p_oCmp, p_oCm0, p_oCmpL, p_oNul, p_oAnd, p_oOr, p_oNot]
  exact congrArg (fun z => fin false (z [v0, 0, 0] M)) h
noncomputable def wc1_X11_winters : CoD := (dCmp .lt (dLoc 4) (dLoc 1))
noncomputable def wb1_X11_winters : StD := (dSeq (dSeq (dDo wM ci_X11_keep (dA1 dA0 (dLoc 0)))
  (dSeq (dDo wM ci_X11_drawLads (dA1 dA0 (dLoc 0)))
  (dDo wM ci_X11_passYear (dA1 dA0 (dLoc 0)))))
  (dInc 4 1))
set_option maxRecDepth 100000 in
theorem u_X11_winters (v0 v1 v2 : Int) (M : Mem) : ci_X11_winters.2.2.2.2 [v0, v1, v2] M = fin false ((dSeq (dIf (dOr (dOr (dCm0 .eq (dFld wM 11 24 (dLoc 0))) (dNot (dCm0 .ne (dCal wM ci_X11_in (dA1 (dA1 (dA1 dA0 (dLoc 1)) (dInt 1)) (dInt 60)))))) (dCmp .gt (dBin (opF 0) (dAr wM 0 (dFld wM 11 26 (dLoc 0)) (dInt 49)) (dLoc 1)) (dInt 999))) (dRet (dInt (-1))))
  (dSeq (dPutF wM 11 32 (dLoc 0) (dLoc 2))
  (dSeq (dSeq (dSet 4 (dInt 0))
  (dWh (wc1_X11_winters) (wb1_X11_winters)))
  (dRet (dAr wM 0 (dFld wM 11 26 (dLoc 0)) (dInt 49)))))) [v0, v1, v2, 0, 0] M) := by
  have h : a_X11_winters.1.1 = (dSeq (dIf (dOr (dOr (dCm0 .eq (dFld wM 11 24 (dLoc 0))) (dNot (dCm0 .ne (dCal wM ci_X11_in (dA1 (dA1 (dA1 dA0 (dLoc 1)) (dInt 1)) (dInt 60)))))) (dCmp .gt (dBin (opF 0) (dAr wM 0 (dFld wM 11 26 (dLoc 0)) (dInt 49)) (dLoc 1)) (dInt 999))) (dRet (dInt (-1))))
  (dSeq (dPutF wM 11 32 (dLoc 0) (dLoc 2))
  (dSeq (dSeq (dSet 4 (dInt 0))
  (dWh (wc1_X11_winters) (wb1_X11_winters)))
  (dRet (dAr wM 0 (dFld wM 11 26 (dLoc 0)) (dInt 49)))))) := by simp only [a_X11_winters, wc1_X11_winters, wb1_X11_winters, p_sSet, p_sInc, p_sPutF, p_sUpdF, p_sPutA, p_sUpdA, sDo, p_sCpy, p_sSeq, p_sIf, p_sIfE, p_sWh, p_sRet, p_sReV, p_sBlk, p_sSw, p_wDf, p_wCs, p_eInt, p_eLng, p_eNll, p_eStr, p_eSta, p_eLoc, p_eBin, p_eDiv, p_eI2L, p_eL2I, p_eFld, p_eAr, p_eRo, p_eLen, eCal, p_eMt, p_eAbs, p_eBo, p_eCon, p_aA0, p_aA1, p_oCmp, p_oCm0, p_oCmpL, p_oNul, p_oAnd, p_oOr, p_oNot]
  exact congrArg (fun z => fin false (z [v0, v1, v2, 0, 0] M)) h
set_option maxRecDepth 100000 in
theorem u_X11_status (v0 v1 : Int) (M : Mem) : ci_X11_status.2.2.2.2 [v0, v1] M = fin false ((dRet (dCon (dCm0 .ne (dCal wM ci_X11_in (dA1 (dA1 (dA1 dA0 (dLoc 1)) (dInt 0)) (dInt 4)))) (dAr wM 0 (dFld wM 11 27 (dLoc 0)) (dLoc 1)) (dInt (-1)))) [v0, v1] M) := by
  have h : a_X11_status.1.1 = (dRet (dCon (dCm0 .ne (dCal wM ci_X11_in (dA1 (dA1 (dA1 dA0 (dLoc 1)) (dInt 0)) (dInt 4)))) (dAr wM 0 (dFld wM 11 27 (dLoc 0)) (dLoc 1)) (dInt (-1)))) := by simp only [a_X11_status, p_sSet, p_sInc, p_sPutF, p_sUpdF, p_sPutA, p_sUpdA, sDo, p_sCpy, p_sSeq, p_sIf, p_sIfE, p_sWh, p_sRet, p_sReV, p_sBlk, p_sSw, p_wDf, p_wCs, p_eInt, p_eLng, p_eNll, p_eStr, p_eSta, p_eLoc, p_eBin, p_eDiv, p_eI2L, p_eL2I, p_eFld, p_eAr, p_eRo, p_eLen, eCal, p_eMt, p_eAbs, p_eBo, p_eCon, p_aA0, p_aA1, p_oCmp, p_oCm0, p_oCmpL, p_oNul, p_oAnd, p_oOr, p_oNot]
  exact congrArg (fun z => fin false (z [v0, v1] M)) h
noncomputable def wc1_X11_undo : CoD := (dCmp .lt (dLoc 1) (dInt 231))
noncomputable def wb1_X11_undo : StD := (dSeq (dPutA wM 0 (dFld wM 11 26 (dLoc 0)) (dLoc 1) (dAr wM 0 (dFld wM 11 30 (dLoc 0)) (dBin (opF 0) (dBin (opF 2) (dInt 231) (dFld wM 11 31 (dLoc 0))) (dLoc 1))))
  (dInc 1 1))
set_option maxRecDepth 100000 in
theorem u_X11_undo (v0 : Int) (M : Mem) : ci_X11_undo.2.2.2.2 [v0] M = fin false ((dSeq (dIf (dCm0 .eq (dFld wM 11 31 (dLoc 0))) (dRet (dInt (-1))))
  (dSeq (dUpdF wM 1 11 31 (dLoc 0) (dInt 1))
  (dSeq (dSeq (dSet 1 (dInt 0))
  (dWh (wc1_X11_undo) (wb1_X11_undo)))
  (dRet (dFld wM 11 31 (dLoc 0)))))) [v0, 0] M) := by
  have h : a_X11_undo.1.1 = (dSeq (dIf (dCm0 .eq (dFld wM 11 31 (dLoc 0))) (dRet (dInt (-1))))
  (dSeq (dUpdF wM 1 11 31 (dLoc 0) (dInt 1))
  (dSeq (dSeq (dSet 1 (dInt 0))
  (dWh (wc1_X11_undo) (wb1_X11_undo)))
  (dRet (dFld wM 11 31 (dLoc 0)))))) := by simp only [a_X11_undo, wc1_X11_undo, wb1_X11_undo, p_sSet, p_sInc, p_sPutF, p_sUpdF, p_sPutA, p_sUpdA, sDo, p_sCpy, p_sSeq, p_sIf, p_sIfE, p_sWh, p_sRet, p_sReV, p_sBlk, p_sSw, p_wDf, p_wCs, p_eInt, p_eLng, p_eNll, p_eStr, p_eSta, p_eLoc, p_eBin, p_eDiv, p_eI2L, p_eL2I, p_eFld, p_eAr, p_eRo, p_eLen, eCal, p_eMt, p_eAbs, p_eBo, p_eCon, p_aA0, p_aA1, p_oCmp, p_oCm0, p_oCmpL, p_oNul, p_oAnd, p_oOr, p_oNot]
  exact congrArg (fun z => fin false (z [v0, 0] M)) h
set_option maxRecDepth 100000 in
theorem u_X11_log (v0 v1 v2 : Int) (M : Mem) : ci_X11_log.2.2.2.2 [v0, v1, v2] M = fin false ((dRet (dCon (dAnd (dCm0 .ne (dCal wM ci_X11_in (dA1 (dA1 (dA1 dA0 (dLoc 1)) (dInt 0)) (dBin (opF 1) (dAr wM 0 (dFld wM 11 26 (dLoc 0)) (dInt 50)) (dInt 1))))) (dCm0 .ne (dCal wM ci_X11_in (dA1 (dA1 (dA1 dA0 (dLoc 2)) (dInt 0)) (dInt 2))))) (dAr wM 0 (dFld wM 11 26 (dLoc 0)) (dBin (opF 0) (dBin (opF 0) (dInt 51) (dBin (opF 2) (dInt 3) (dBin (opF 1) (dBin (opF 1) (dAr wM 0 (dFld wM 11 26 (dLoc 0)) (dInt 50)) (dInt 1)) (dLoc 1)))) (dLoc 2))) (dInt (-1000000)))) [v0, v1, v2] M) := by
  have h : a_X11_log.1.1 = (dRet (dCon (dAnd (dCm0 .ne (dCal wM ci_X11_in (dA1 (dA1 (dA1 dA0 (dLoc 1)) (dInt 0)) (dBin (opF 1) (dAr wM 0 (dFld wM 11 26 (dLoc 0)) (dInt 50)) (dInt 1))))) (dCm0 .ne (dCal wM ci_X11_in (dA1 (dA1 (dA1 dA0 (dLoc 2)) (dInt 0)) (dInt 2))))) (dAr wM 0 (dFld wM 11 26 (dLoc 0)) (dBin (opF 0) (dBin (opF 0) (dInt 51) (dBin (opF 2) (dInt 3) (dBin (opF 1) (dBin (opF 1) (dAr wM 0 (dFld wM 11 26 (dLoc 0)) (dInt 50)) (dInt 1)) (dLoc 1)))) (dLoc 2))) (dInt (-1000000)))) := by simp only [a_X11_log, p_sSet, p_sInc, p_sPutF, p_sUpdF, p_sPutA, p_sUpdA, sDo, p_sCpy, p_sSeq, p_sIf, p_sIfE, p_sWh, p_sRet, p_sReV, p_sBlk, p_sSw, p_wDf, p_wCs, p_eInt, p_eLng, p_eNll, p_eStr, p_eSta, p_eLoc, p_eBin, p_eDiv, p_eI2L, p_eL2I, p_eFld, p_eAr, p_eRo, p_eLen, eCal, p_eMt, p_eAbs, p_eBo, p_eCon, p_aA0, p_aA1, p_oCmp, p_oCm0, p_oCmpL, p_oNul, p_oAnd, p_oOr, p_oNot]
  exact congrArg (fun z => fin false (z [v0, v1, v2] M)) h
set_option maxRecDepth 100000 in
theorem u_X11_chosen (v0 : Int) (M : Mem) : ci_X11_chosen.2.2.2.2 [v0] M = fin false ((dRet (dCal wM ci_X11_chosenNow (dA1 dA0 (dLoc 0)))) [v0] M) := by
  have h : a_X11_chosen.1.1 = (dRet (dCal wM ci_X11_chosenNow (dA1 dA0 (dLoc 0)))) := by simp only [a_X11_chosen, p_sSet, p_sInc, p_sPutF, p_sUpdF, p_sPutA, p_sUpdA, sDo, p_sCpy, p_sSeq, p_sIf, p_sIfE, p_sWh, p_sRet, p_sReV, p_sBlk, p_sSw, p_wDf, p_wCs, p_eInt, p_eLng, p_eNll, p_eStr, p_eSta, p_eLoc, p_eBin, p_eDiv, p_eI2L, p_eL2I, p_eFld, p_eAr, p_eRo, p_eLen, eCal, p_eMt, p_eAbs, p_eBo, p_eCon, p_aA0, p_aA1, p_oCmp, p_oCm0, p_oCmpL, p_oNul, p_oAnd, p_oOr, p_oNot]
  exact congrArg (fun z => fin false (z [v0] M)) h
noncomputable def wc1_X11_putAside : CoD := (dCmp .lt (dLoc 2) (dInt 50))
noncomputable def wb1_X11_putAside : StD := (dSeq (dPutA wM 0 (dFld wM 11 33 (dLoc 0)) (dBin (opF 0) (dBin (opF 2) (dInt 50) (dLoc 1)) (dLoc 2)) (dAr wM 0 (dFld wM 11 26 (dLoc 0)) (dLoc 2)))
  (dInc 2 1))
set_option maxRecDepth 100000 in
theorem u_X11_putAside (v0 v1 : Int) (M : Mem) : ci_X11_putAside.2.2.2.2 [v0, v1] M = fin false ((dSeq (dSeq (dSet 2 (dInt 0))
  (dWh (wc1_X11_putAside) (wb1_X11_putAside)))
  dReV) [v0, v1, 0] M) := by
  have h : a_X11_putAside.1.1 = (dSeq (dSeq (dSet 2 (dInt 0))
  (dWh (wc1_X11_putAside) (wb1_X11_putAside)))
  dReV) := by simp only [a_X11_putAside, wc1_X11_putAside, wb1_X11_putAside, p_sSet, p_sInc, p_sPutF, p_sUpdF, p_sPutA, p_sUpdA, sDo, p_sCpy, p_sSeq, p_sIf, p_sIfE, p_sWh, p_sRet, p_sReV, p_sBlk, p_sSw, p_wDf, p_wCs, p_eInt, p_eLng, p_eNll, p_eStr, p_eSta, p_eLoc, p_eBin, p_eDiv, p_eI2L, p_eL2I, p_eFld, p_eAr, p_eRo, p_eLen, eCal, p_eMt, p_eAbs, p_eBo, p_eCon, p_aA0, p_aA1, p_oCmp, p_oCm0, p_oCmpL, p_oNul, p_oAnd, p_oOr, p_oNot]
  exact congrArg (fun z => fin false (z [v0, v1, 0] M)) h
noncomputable def wc1_X11_takeBack : CoD := (dCmp .lt (dLoc 2) (dInt 50))
noncomputable def wb1_X11_takeBack : StD := (dSeq (dPutA wM 0 (dFld wM 11 26 (dLoc 0)) (dLoc 2) (dAr wM 0 (dFld wM 11 33 (dLoc 0)) (dBin (opF 0) (dBin (opF 2) (dInt 50) (dLoc 1)) (dLoc 2))))
  (dInc 2 1))
set_option maxRecDepth 100000 in
theorem u_X11_takeBack (v0 v1 : Int) (M : Mem) : ci_X11_takeBack.2.2.2.2 [v0, v1] M = fin false ((dSeq (dSeq (dSet 2 (dInt 0))
  (dWh (wc1_X11_takeBack) (wb1_X11_takeBack)))
  dReV) [v0, v1, 0] M) := by
  have h : a_X11_takeBack.1.1 = (dSeq (dSeq (dSet 2 (dInt 0))
  (dWh (wc1_X11_takeBack) (wb1_X11_takeBack)))
  dReV) := by simp only [a_X11_takeBack, wc1_X11_takeBack, wb1_X11_takeBack, p_sSet, p_sInc, p_sPutF, p_sUpdF, p_sPutA, p_sUpdA, sDo, p_sCpy, p_sSeq, p_sIf, p_sIfE, p_sWh, p_sRet, p_sReV, p_sBlk, p_sSw, p_wDf, p_wCs, p_eInt, p_eLng, p_eNll, p_eStr, p_eSta, p_eLoc, p_eBin, p_eDiv, p_eI2L, p_eL2I, p_eFld, p_eAr, p_eRo, p_eLen, eCal, p_eMt, p_eAbs, p_eBo, p_eCon, p_aA0, p_aA1, p_oCmp, p_oCm0, p_oCmpL, p_oNul, p_oAnd, p_oOr, p_oNot]
  exact congrArg (fun z => fin false (z [v0, v1, 0] M)) h
noncomputable def wc1_X11_tryPath (D : Nat → Den) : CoD := (dCmp .lt (dLoc 5) (dInt 3))
noncomputable def wb1_X11_tryPath (D : Nat → Den) : StD := (dSeq (dSeq (dDo wM ci_X11_lay (dA1 (dA1 (dA1 (dA1 dA0 (dLoc 0)) (dLoc 1)) (dInt 1)) (dCon (dCm0 .eq (dLoc 5)) (dInt 0) (dCon (dCmp .eq (dLoc 5) (dInt 1)) (dDiv (dvF 0) (dvW 0) (dCal wM ci_X11_of (dA1 (dA1 (dA1 dA0 (dLoc 0)) (dLoc 1)) (dInt 0))) (dInt 2)) (dCal wM ci_X11_of (dA1 (dA1 (dA1 dA0 (dLoc 0)) (dLoc 1)) (dInt 0)))))))
  (dSeq (dIf (dCmp .ne (dCal wM ci_X11_live (dA1 dA0 (dLoc 0))) (dLoc 1)) (dDo wM (ci_X11_tryPath D) (dA1 (dA1 (dA1 (dA1 (dA1 dA0 (dLoc 0)) (dLoc 1)) (dBin (opF 0) (dLoc 2) (dInt 1))) (dBin (opF 1) (dLoc 3) (dInt 1))) (dBin (opF 0) (dBin (opF 2) (dInt 10) (dLoc 4)) (dLoc 5)))))
  (dDo wM ci_X11_takeBack (dA1 (dA1 dA0 (dLoc 0)) (dLoc 2)))))
  (dInc 5 1))
set_option maxRecDepth 100000 in
theorem u_X11_tryPath (d : Nat) (v0 v1 v2 v3 v4 : Int) (M : Mem) : grp_X11_tryPath (d + 1) 0 [v0, v1, v2, v3, v4] M = fin false ((dSeq (dSeq (dIf (dCm0 .eq (dLoc 3)) (dSeq (dIf (dOr (dCmp .eq (dFld wM 11 34 (dLoc 0)) (dInt (-1))) (dCmp .gt (dCal wM ci_X11_of (dA1 (dA1 (dA1 dA0 (dLoc 0)) (dLoc 1)) (dInt 0))) (dFld wM 11 35 (dLoc 0)))) (dSeq (dPutF wM 11 34 (dLoc 0) (dLoc 4))
  (dPutF wM 11 35 (dLoc 0) (dCal wM ci_X11_of (dA1 (dA1 (dA1 dA0 (dLoc 0)) (dLoc 1)) (dInt 0))))))
  dReV))
  (dSeq (dDo wM ci_X11_putAside (dA1 (dA1 dA0 (dLoc 0)) (dLoc 2)))
  (dSeq (dSet 5 (dInt 0))
  (dWh (wc1_X11_tryPath (grp_X11_tryPath d)) (wb1_X11_tryPath (grp_X11_tryPath d))))))
  dReV) [v0, v1, v2, v3, v4, 0] M) := by
  have h : (a_X11_tryPath (grp_X11_tryPath d)).1.1 = (dSeq (dSeq (dIf (dCm0 .eq (dLoc 3)) (dSeq (dIf (dOr (dCmp .eq (dFld wM 11 34 (dLoc 0)) (dInt (-1))) (dCmp .gt (dCal wM ci_X11_of (dA1 (dA1 (dA1 dA0 (dLoc 0)) (dLoc 1)) (dInt 0))) (dFld wM 11 35 (dLoc 0)))) (dSeq (dPutF wM 11 34 (dLoc 0) (dLoc 4))
  (dPutF wM 11 35 (dLoc 0) (dCal wM ci_X11_of (dA1 (dA1 (dA1 dA0 (dLoc 0)) (dLoc 1)) (dInt 0))))))
  dReV))
  (dSeq (dDo wM ci_X11_putAside (dA1 (dA1 dA0 (dLoc 0)) (dLoc 2)))
  (dSeq (dSet 5 (dInt 0))
  (dWh (wc1_X11_tryPath (grp_X11_tryPath d)) (wb1_X11_tryPath (grp_X11_tryPath d))))))
  dReV) := by simp only [a_X11_tryPath, wc1_X11_tryPath, wb1_X11_tryPath, p_sSet, p_sInc, p_sPutF, p_sUpdF, p_sPutA, p_sUpdA, sDo, p_sCpy, p_sSeq, p_sIf, p_sIfE, p_sWh, p_sRet, p_sReV, p_sBlk, p_sSw, p_wDf, p_wCs, p_eInt, p_eLng, p_eNll, p_eStr, p_eSta, p_eLoc, p_eBin, p_eDiv, p_eI2L, p_eL2I, p_eFld, p_eAr, p_eRo, p_eLen, eCal, p_eMt, p_eAbs, p_eBo, p_eCon, p_aA0, p_aA1, p_oCmp, p_oCm0, p_oCmpL, p_oNul, p_oAnd, p_oOr, p_oNot]
  exact congrArg (fun z => fin false (z [v0, v1, v2, v3, v4, 0] M)) h
set_option maxRecDepth 100000 in
theorem g_X11_tryPath (d : Nat) : (ci_X11_tryPath (grp_X11_tryPath d)).2.2.2.2 = grp_X11_tryPath d 0 := rfl
set_option maxRecDepth 100000 in
theorem u_X11_path (v0 v1 v2 v3 : Int) (M : Mem) : ci_X11_path.2.2.2.2 [v0, v1, v2, v3] M = fin false ((dSeq (dIf (dOr (dOr (dNot (dCm0 .ne (dCal wM ci_X11_lives (dA1 (dA1 dA0 (dLoc 0)) (dLoc 1))))) (dNot (dCm0 .ne (dCal wM ci_X11_in (dA1 (dA1 (dA1 dA0 (dLoc 2)) (dInt 1)) (dInt 5)))))) (dNot (dCm0 .ne (dCal wM ci_X11_in (dA1 (dA1 (dA1 dA0 (dLoc 3)) (dInt 0)) (dInt 1)))))) (dRet (dInt (-1))))
  (dSeq (dPutF wM 11 34 (dLoc 0) (dInt (-1)))
  (dSeq (dDo wM (ci_X11_tryPath (grp_X11_tryPath 7)) (dA1 (dA1 (dA1 (dA1 (dA1 dA0 (dLoc 0)) (dLoc 1)) (dInt 0)) (dLoc 2)) (dInt 0)))
  (dRet (dCon (dOr (dCmp .eq (dFld wM 11 34 (dLoc 0)) (dInt (-1))) (dCm0 .eq (dLoc 3))) (dFld wM 11 34 (dLoc 0)) (dFld wM 11 35 (dLoc 0))))))) [v0, v1, v2, v3] M) := by
  have h : a_X11_path.1.1 = (dSeq (dIf (dOr (dOr (dNot (dCm0 .ne (dCal wM ci_X11_lives (dA1 (dA1 dA0 (dLoc 0)) (dLoc 1))))) (dNot (dCm0 .ne (dCal wM ci_X11_in (dA1 (dA1 (dA1 dA0 (dLoc 2)) (dInt 1)) (dInt 5)))))) (dNot (dCm0 .ne (dCal wM ci_X11_in (dA1 (dA1 (dA1 dA0 (dLoc 3)) (dInt 0)) (dInt 1)))))) (dRet (dInt (-1))))
  (dSeq (dPutF wM 11 34 (dLoc 0) (dInt (-1)))
  (dSeq (dDo wM (ci_X11_tryPath (grp_X11_tryPath 7)) (dA1 (dA1 (dA1 (dA1 (dA1 dA0 (dLoc 0)) (dLoc 1)) (dInt 0)) (dLoc 2)) (dInt 0)))
  (dRet (dCon (dOr (dCmp .eq (dFld wM 11 34 (dLoc 0)) (dInt (-1))) (dCm0 .eq (dLoc 3))) (dFld wM 11 34 (dLoc 0)) (dFld wM 11 35 (dLoc 0))))))) := by simp only [a_X11_path, p_sSet, p_sInc, p_sPutF, p_sUpdF, p_sPutA, p_sUpdA, sDo, p_sCpy, p_sSeq, p_sIf, p_sIfE, p_sWh, p_sRet, p_sReV, p_sBlk, p_sSw, p_wDf, p_wCs, p_eInt, p_eLng, p_eNll, p_eStr, p_eSta, p_eLoc, p_eBin, p_eDiv, p_eI2L, p_eL2I, p_eFld, p_eAr, p_eRo, p_eLen, eCal, p_eMt, p_eAbs, p_eBo, p_eCon, p_aA0, p_aA1, p_oCmp, p_oCm0, p_oCmpL, p_oNul, p_oAnd, p_oOr, p_oNot]
  exact congrArg (fun z => fin false (z [v0, v1, v2, v3] M)) h
noncomputable def wc1_X11_holds : CoD := (dAnd (dCmp .lt (dLoc 2) (dInt 30)) (dCm0 .ne (dCal wM ci_X11_lives (dA1 (dA1 dA0 (dLoc 0)) (dLoc 1)))))
noncomputable def wb1_X11_holds : StD := (dSeq (dDo wM ci_X11_live (dA1 dA0 (dLoc 0)))
  (dInc 2 1))
set_option maxRecDepth 100000 in
theorem u_X11_holds (v0 v1 : Int) (M : Mem) : ci_X11_holds.2.2.2.2 [v0, v1] M = fin false ((dSeq (dIf (dNot (dCm0 .ne (dCal wM ci_X11_lives (dA1 (dA1 dA0 (dLoc 0)) (dLoc 1))))) (dRet (dInt (-1))))
  (dSeq (dDo wM ci_X11_putAside (dA1 (dA1 dA0 (dLoc 0)) (dInt 0)))
  (dSeq (dSet 2 (dInt 0))
  (dSeq (dWh (wc1_X11_holds) (wb1_X11_holds))
  (dSeq (dSet 3 (dBo (dNot (dCm0 .ne (dCal wM ci_X11_lives (dA1 (dA1 dA0 (dLoc 0)) (dLoc 1)))))))
  (dSeq (dDo wM ci_X11_takeBack (dA1 (dA1 dA0 (dLoc 0)) (dInt 0)))
  (dRet (dCon (dCm0 .ne (dLoc 3)) (dLoc 2) (dInt (-1)))))))))) [v0, v1, 0, 0] M) := by
  have h : a_X11_holds.1.1 = (dSeq (dIf (dNot (dCm0 .ne (dCal wM ci_X11_lives (dA1 (dA1 dA0 (dLoc 0)) (dLoc 1))))) (dRet (dInt (-1))))
  (dSeq (dDo wM ci_X11_putAside (dA1 (dA1 dA0 (dLoc 0)) (dInt 0)))
  (dSeq (dSet 2 (dInt 0))
  (dSeq (dWh (wc1_X11_holds) (wb1_X11_holds))
  (dSeq (dSet 3 (dBo (dNot (dCm0 .ne (dCal wM ci_X11_lives (dA1 (dA1 dA0 (dLoc 0)) (dLoc 1)))))))
  (dSeq (dDo wM ci_X11_takeBack (dA1 (dA1 dA0 (dLoc 0)) (dInt 0)))
  (dRet (dCon (dCm0 .ne (dLoc 3)) (dLoc 2) (dInt (-1)))))))))) := by simp only [a_X11_holds, wc1_X11_holds, wb1_X11_holds, p_sSet, p_sInc, p_sPutF, p_sUpdF, p_sPutA, p_sUpdA, sDo, p_sCpy, p_sSeq, p_sIf, p_sIfE, p_sWh, p_sRet, p_sReV, p_sBlk, p_sSw, p_wDf, p_wCs, p_eInt, p_eLng, p_eNll, p_eStr, p_eSta, p_eLoc, p_eBin, p_eDiv, p_eI2L, p_eL2I, p_eFld, p_eAr, p_eRo, p_eLen, eCal, p_eMt, p_eAbs, p_eBo, p_eCon, p_aA0, p_aA1, p_oCmp, p_oCm0, p_oCmpL, p_oNul, p_oAnd, p_oOr, p_oNot]
  exact congrArg (fun z => fin false (z [v0, v1, 0, 0] M)) h
noncomputable def wc1_X11_tells : CoD := (dAnd (dCmp .lt (dLoc 5) (dFld wM 11 24 (dLoc 0))) (dCm0 .ne (dLoc 4)))
noncomputable def wb1_X11_tells : StD := (dSeq (dSet 4 (dBo (dOr (dOr (dCmp .eq (dLoc 5) (dLoc 1)) (dNot (dCm0 .ne (dCal wM ci_X11_lives (dA1 (dA1 dA0 (dLoc 0)) (dLoc 5)))))) (dCm0 .ne (dBin (opF 3) (dBin (opF 5) (dCal wM ci_X11_signs (dA1 (dA1 dA0 (dLoc 0)) (dLoc 5))) (dCal wM ci_X11_signs (dA1 (dA1 dA0 (dLoc 0)) (dLoc 1)))) (dLoc 3))))))
  (dInc 5 1))
noncomputable def wc2_X11_tells : CoD := (dCmp .lt (dLoc 3) (dInt 64))
noncomputable def wb2_X11_tells : StD := (dSeq (dSeq (dSet 4 (dBo (dOr (dCmp .eq (dLoc 2) (dInt (-1))) (dCmp .lt (dCal wM ci_J6_bitCount_0f7a4M (dA1 dA0 (dLoc 3))) (dCal wM ci_J6_bitCount_0f7a4M (dA1 dA0 (dLoc 2)))))))
  (dSeq (dSeq (dSet 5 (dInt 0))
  (dWh (wc1_X11_tells) (wb1_X11_tells)))
  (dSet 2 (dCon (dCm0 .ne (dLoc 4)) (dLoc 3) (dLoc 2)))))
  (dInc 3 1))
set_option maxRecDepth 100000 in
theorem u_X11_tells (v0 v1 : Int) (M : Mem) : ci_X11_tells.2.2.2.2 [v0, v1] M = fin false ((dSeq (dIf (dNot (dCm0 .ne (dCal wM ci_X11_lives (dA1 (dA1 dA0 (dLoc 0)) (dLoc 1))))) (dRet (dInt (-1))))
  (dSeq (dSet 2 (dInt (-1)))
  (dSeq (dSeq (dSet 3 (dInt 0))
  (dWh (wc2_X11_tells) (wb2_X11_tells)))
  (dRet (dLoc 2))))) [v0, v1, 0, 0, 0, 0] M) := by
  have h : a_X11_tells.1.1 = (dSeq (dIf (dNot (dCm0 .ne (dCal wM ci_X11_lives (dA1 (dA1 dA0 (dLoc 0)) (dLoc 1))))) (dRet (dInt (-1))))
  (dSeq (dSet 2 (dInt (-1)))
  (dSeq (dSeq (dSet 3 (dInt 0))
  (dWh (wc2_X11_tells) (wb2_X11_tells)))
  (dRet (dLoc 2))))) := by simp only [a_X11_tells, wc1_X11_tells, wb1_X11_tells, wc2_X11_tells, wb2_X11_tells, p_sSet, p_sInc, p_sPutF, p_sUpdF, p_sPutA, p_sUpdA, sDo, p_sCpy, p_sSeq, p_sIf, p_sIfE, p_sWh, p_sRet, p_sReV, p_sBlk, p_sSw, p_wDf, p_wCs, p_eInt, p_eLng, p_eNll, p_eStr, p_eSta, p_eLoc, p_eBin, p_eDiv, p_eI2L, p_eL2I, p_eFld, p_eAr, p_eRo, p_eLen, eCal, p_eMt, p_eAbs, p_eBo, p_eCon, p_aA0, p_aA1, p_oCmp, p_oCm0, p_oCmpL, p_oNul, p_oAnd, p_oOr, p_oNot]
  exact congrArg (fun z => fin false (z [v0, v1, 0, 0, 0, 0] M)) h
noncomputable def wc1_X11_twins : CoD := (dCmp .lt (dLoc 4) (dFld wM 11 24 (dLoc 0)))
noncomputable def wb1_X11_twins : StD := (dSeq (dIf (dAnd (dAnd (dCm0 .ne (dCal wM ci_X11_lives (dA1 (dA1 dA0 (dLoc 0)) (dLoc 3)))) (dCm0 .ne (dCal wM ci_X11_lives (dA1 (dA1 dA0 (dLoc 0)) (dLoc 4))))) (dCmp .eq (dCal wM ci_X11_signs (dA1 (dA1 dA0 (dLoc 0)) (dLoc 3))) (dCal wM ci_X11_signs (dA1 (dA1 dA0 (dLoc 0)) (dLoc 4))))) (dSeq (dIf (dCmp .eq (dLoc 2) (dLoc 1)) (dRet (dBin (opF 0) (dBin (opF 2) (dInt 10) (dLoc 3)) (dLoc 4))))
  (dInc 2 1)))
  (dInc 4 1))
noncomputable def wc2_X11_twins : CoD := (dCmp .lt (dLoc 3) (dFld wM 11 24 (dLoc 0)))
noncomputable def wb2_X11_twins : StD := (dSeq (dSeq (dSet 4 (dBin (opF 0) (dLoc 3) (dInt 1)))
  (dWh (wc1_X11_twins) (wb1_X11_twins)))
  (dInc 3 1))
set_option maxRecDepth 100000 in
theorem u_X11_twins (v0 v1 : Int) (M : Mem) : ci_X11_twins.2.2.2.2 [v0, v1] M = fin false ((dSeq (dIf (dOr (dCm0 .eq (dFld wM 11 24 (dLoc 0))) (dCmp .lt (dLoc 1) (dInt (-1)))) (dRet (dInt (-1))))
  (dSeq (dSet 2 (dInt 0))
  (dSeq (dSeq (dSet 3 (dInt 0))
  (dWh (wc2_X11_twins) (wb2_X11_twins)))
  (dRet (dCon (dCmp .eq (dLoc 1) (dInt (-1))) (dLoc 2) (dInt (-1))))))) [v0, v1, 0, 0, 0] M) := by
  have h : a_X11_twins.1.1 = (dSeq (dIf (dOr (dCm0 .eq (dFld wM 11 24 (dLoc 0))) (dCmp .lt (dLoc 1) (dInt (-1)))) (dRet (dInt (-1))))
  (dSeq (dSet 2 (dInt 0))
  (dSeq (dSeq (dSet 3 (dInt 0))
  (dWh (wc2_X11_twins) (wb2_X11_twins)))
  (dRet (dCon (dCmp .eq (dLoc 1) (dInt (-1))) (dLoc 2) (dInt (-1))))))) := by simp only [a_X11_twins, wc1_X11_twins, wb1_X11_twins, wc2_X11_twins, wb2_X11_twins, p_sSet, p_sInc, p_sPutF, p_sUpdF, p_sPutA, p_sUpdA, sDo, p_sCpy, p_sSeq, p_sIf, p_sIfE, p_sWh, p_sRet, p_sReV, p_sBlk, p_sSw, p_wDf, p_wCs, p_eInt, p_eLng, p_eNll, p_eStr, p_eSta, p_eLoc, p_eBin, p_eDiv, p_eI2L, p_eL2I, p_eFld, p_eAr, p_eRo, p_eLen, eCal, p_eMt, p_eAbs, p_eBo, p_eCon, p_aA0, p_aA1, p_oCmp, p_oCm0, p_oCmpL, p_oNul, p_oAnd, p_oOr, p_oNot]
  exact congrArg (fun z => fin false (z [v0, v1, 0, 0, 0] M)) h
noncomputable def wc1_X11_chain : CoD := (dAnd (dCmp .lt (dLoc 4) (dInt 8)) (dCm0 .ne (dCal wM ci_X11_lives (dA1 (dA1 dA0 (dLoc 0)) (dLoc 3)))))
noncomputable def wb1_X11_chain : StD := (dSeq (dSeq (dIf (dCmp .eq (dLoc 3) (dLoc 2)) (dRet (dLoc 4)))
  (dSet 3 (dCal wM ci_X11_of (dA1 (dA1 (dA1 dA0 (dLoc 0)) (dLoc 3)) (dInt 3)))))
  (dInc 4 1))
set_option maxRecDepth 100000 in
theorem u_X11_chain (v0 v1 v2 : Int) (M : Mem) : ci_X11_chain.2.2.2.2 [v0, v1, v2] M = fin false ((dSeq (dIf (dOr (dNot (dCm0 .ne (dCal wM ci_X11_lives (dA1 (dA1 dA0 (dLoc 0)) (dLoc 1))))) (dNot (dCm0 .ne (dCal wM ci_X11_lives (dA1 (dA1 dA0 (dLoc 0)) (dLoc 2)))))) (dRet (dInt (-1))))
  (dSeq (dSet 3 (dLoc 1))
  (dSeq (dSeq (dSet 4 (dInt 0))
  (dWh (wc1_X11_chain) (wb1_X11_chain)))
  (dRet (dInt (-1)))))) [v0, v1, v2, 0, 0] M) := by
  have h : a_X11_chain.1.1 = (dSeq (dIf (dOr (dNot (dCm0 .ne (dCal wM ci_X11_lives (dA1 (dA1 dA0 (dLoc 0)) (dLoc 1))))) (dNot (dCm0 .ne (dCal wM ci_X11_lives (dA1 (dA1 dA0 (dLoc 0)) (dLoc 2)))))) (dRet (dInt (-1))))
  (dSeq (dSet 3 (dLoc 1))
  (dSeq (dSeq (dSet 4 (dInt 0))
  (dWh (wc1_X11_chain) (wb1_X11_chain)))
  (dRet (dInt (-1)))))) := by simp only [a_X11_chain, wc1_X11_chain, wb1_X11_chain, p_sSet, p_sInc, p_sPutF, p_sUpdF, p_sPutA, p_sUpdA, sDo, p_sCpy, p_sSeq, p_sIf, p_sIfE, p_sWh, p_sRet, p_sReV, p_sBlk, p_sSw, p_wDf, p_wCs, p_eInt, p_eLng, p_eNll, p_eStr, p_eSta, p_eLoc, p_eBin, p_eDiv, p_eI2L, p_eL2I, p_eFld, p_eAr, p_eRo, p_eLen, eCal, p_eMt, p_eAbs, p_eBo, p_eCon, p_aA0, p_aA1, p_oCmp, p_oCm0, p_oCmpL, p_oNul, p_oAnd, p_oOr, p_oNot]
  exact congrArg (fun z => fin false (z [v0, v1, v2, 0, 0] M)) h
noncomputable def wc1_X11_trusts : CoD := (dAnd (dAnd (dCm0 .ne (dCal wM ci_X11_lives (dA1 (dA1 dA0 (dLoc 0)) (dLoc 3)))) (dCmp .ne (dCal wM ci_X11_of (dA1 (dA1 (dA1 dA0 (dLoc 0)) (dLoc 3)) (dInt 2))) (dInt 3))) (dNot (dCm0 .ne (dCal wM ci_X11_has (dA1 (dA1 dA0 (dLoc 2)) (dLoc 3))))))
noncomputable def wb1_X11_trusts : StD := (dSeq (dSet 2 (dBin (opF 4) (dLoc 2) (dBin (opF 6) (dInt 1) (dLoc 3))))
  (dSet 3 (dCal wM ci_X11_of (dA1 (dA1 (dA1 dA0 (dLoc 0)) (dLoc 3)) (dInt 3)))))
set_option maxRecDepth 100000 in
theorem u_X11_trusts (v0 v1 : Int) (M : Mem) : ci_X11_trusts.2.2.2.2 [v0, v1] M = fin false ((dSeq (dIf (dNot (dCm0 .ne (dCal wM ci_X11_lives (dA1 (dA1 dA0 (dLoc 0)) (dLoc 1))))) (dRet (dInt (-1))))
  (dSeq (dSet 2 (dBin (opF 6) (dInt 1) (dLoc 1)))
  (dSeq (dSet 3 (dCal wM ci_X11_of (dA1 (dA1 (dA1 dA0 (dLoc 0)) (dLoc 1)) (dInt 3))))
  (dSeq (dWh (wc1_X11_trusts) (wb1_X11_trusts))
  (dRet (dLoc 2)))))) [v0, v1, 0, 0] M) := by
  have h : a_X11_trusts.1.1 = (dSeq (dIf (dNot (dCm0 .ne (dCal wM ci_X11_lives (dA1 (dA1 dA0 (dLoc 0)) (dLoc 1))))) (dRet (dInt (-1))))
  (dSeq (dSet 2 (dBin (opF 6) (dInt 1) (dLoc 1)))
  (dSeq (dSet 3 (dCal wM ci_X11_of (dA1 (dA1 (dA1 dA0 (dLoc 0)) (dLoc 1)) (dInt 3))))
  (dSeq (dWh (wc1_X11_trusts) (wb1_X11_trusts))
  (dRet (dLoc 2)))))) := by simp only [a_X11_trusts, wc1_X11_trusts, wb1_X11_trusts, p_sSet, p_sInc, p_sPutF, p_sUpdF, p_sPutA, p_sUpdA, sDo, p_sCpy, p_sSeq, p_sIf, p_sIfE, p_sWh, p_sRet, p_sReV, p_sBlk, p_sSw, p_wDf, p_wCs, p_eInt, p_eLng, p_eNll, p_eStr, p_eSta, p_eLoc, p_eBin, p_eDiv, p_eI2L, p_eL2I, p_eFld, p_eAr, p_eRo, p_eLen, eCal, p_eMt, p_eAbs, p_eBo, p_eCon, p_aA0, p_aA1, p_oCmp, p_oCm0, p_oCmpL, p_oNul, p_oAnd, p_oOr, p_oNot]
  exact congrArg (fun z => fin false (z [v0, v1, 0, 0] M)) h
set_option maxRecDepth 100000 in
theorem u_X11_out (v0 v1 v2 : Int) (M : Mem) : ci_X11_out.2.2.2.2 [v0, v1, v2] M = fin false ((dSeq (dIf (dOr (dOr (dCm0 .eq (dFld wM 11 24 (dLoc 0))) (dNot (dCm0 .ne (dCal wM ci_X11_in (dA1 (dA1 (dA1 dA0 (dLoc 1)) (dInt 1)) (dBin (opF 1) (dBin (opF 6) (dInt 1) (dFld wM 11 24 (dLoc 0))) (dInt 1))))))) (dCmp .eq (dFld wM 11 38 (dLoc 0)) (dInt 10))) (dRet (dInt (-1))))
  (dSeq (dPutA wM 0 (dFld wM 11 36 (dLoc 0)) (dFld wM 11 38 (dLoc 0)) (dLoc 1))
  (dSeq (dPutA wM 1 (dFld wM 11 37 (dLoc 0)) (dFld wM 11 38 (dLoc 0)) (dLoc 2))
  (dSeq (dUpdF wM 0 11 38 (dLoc 0) (dInt 1))
  (dRet (dFld wM 11 38 (dLoc 0))))))) [v0, v1, v2] M) := by
  have h : a_X11_out.1.1 = (dSeq (dIf (dOr (dOr (dCm0 .eq (dFld wM 11 24 (dLoc 0))) (dNot (dCm0 .ne (dCal wM ci_X11_in (dA1 (dA1 (dA1 dA0 (dLoc 1)) (dInt 1)) (dBin (opF 1) (dBin (opF 6) (dInt 1) (dFld wM 11 24 (dLoc 0))) (dInt 1))))))) (dCmp .eq (dFld wM 11 38 (dLoc 0)) (dInt 10))) (dRet (dInt (-1))))
  (dSeq (dPutA wM 0 (dFld wM 11 36 (dLoc 0)) (dFld wM 11 38 (dLoc 0)) (dLoc 1))
  (dSeq (dPutA wM 1 (dFld wM 11 37 (dLoc 0)) (dFld wM 11 38 (dLoc 0)) (dLoc 2))
  (dSeq (dUpdF wM 0 11 38 (dLoc 0) (dInt 1))
  (dRet (dFld wM 11 38 (dLoc 0))))))) := by simp only [a_X11_out, p_sSet, p_sInc, p_sPutF, p_sUpdF, p_sPutA, p_sUpdA, sDo, p_sCpy, p_sSeq, p_sIf, p_sIfE, p_sWh, p_sRet, p_sReV, p_sBlk, p_sSw, p_wDf, p_wCs, p_eInt, p_eLng, p_eNll, p_eStr, p_eSta, p_eLoc, p_eBin, p_eDiv, p_eI2L, p_eL2I, p_eFld, p_eAr, p_eRo, p_eLen, eCal, p_eMt, p_eAbs, p_eBo, p_eCon, p_aA0, p_aA1, p_oCmp, p_oCm0, p_oCmpL, p_oNul, p_oAnd, p_oOr, p_oNot]
  exact congrArg (fun z => fin false (z [v0, v1, v2] M)) h
noncomputable def wc1_X11_isSpies : CoD := (dCmp .lt (dLoc 3) (dFld wM 11 38 (dLoc 0)))
noncomputable def wb1_X11_isSpies : StD := (dSeq (dIf (dCmp .ne (dBo (dCm0 .ne (dBin (opF 3) (dLoc 2) (dAr wM 0 (dFld wM 11 36 (dLoc 0)) (dLoc 3))))) (dAr wM 1 (dFld wM 11 37 (dLoc 0)) (dLoc 3))) (dRet (dInt 0)))
  (dInc 3 1))
set_option maxRecDepth 100000 in
theorem u_X11_isSpies (v0 v1 v2 : Int) (M : Mem) : ci_X11_isSpies.2.2.2.2 [v0, v1, v2] M = fin true ((dSeq (dIf (dCmp .ne (dCal wM ci_J6_bitCount_0f7a4M (dA1 dA0 (dLoc 2))) (dLoc 1)) (dRet (dInt 0)))
  (dSeq (dSeq (dSet 3 (dInt 0))
  (dWh (wc1_X11_isSpies) (wb1_X11_isSpies)))
  (dRet (dInt 1)))) [v0, v1, v2, 0] M) := by
  have h : a_X11_isSpies.1.1 = (dSeq (dIf (dCmp .ne (dCal wM ci_J6_bitCount_0f7a4M (dA1 dA0 (dLoc 2))) (dLoc 1)) (dRet (dInt 0)))
  (dSeq (dSeq (dSet 3 (dInt 0))
  (dWh (wc1_X11_isSpies) (wb1_X11_isSpies)))
  (dRet (dInt 1)))) := by simp only [a_X11_isSpies, wc1_X11_isSpies, wb1_X11_isSpies, p_sSet, p_sInc, p_sPutF, p_sUpdF, p_sPutA, p_sUpdA, sDo, p_sCpy, p_sSeq, p_sIf, p_sIfE, p_sWh, p_sRet, p_sReV, p_sBlk, p_sSw, p_wDf, p_wCs, p_eInt, p_eLng, p_eNll, p_eStr, p_eSta, p_eLoc, p_eBin, p_eDiv, p_eI2L, p_eL2I, p_eFld, p_eAr, p_eRo, p_eLen, eCal, p_eMt, p_eAbs, p_eBo, p_eCon, p_aA0, p_aA1, p_oCmp, p_oCm0, p_oCmpL, p_oNul, p_oAnd, p_oOr, p_oNot]
  exact congrArg (fun z => fin true (z [v0, v1, v2, 0] M)) h
set_option maxRecDepth 100000 in
theorem u_X11_areSpies (v0 v1 : Int) (M : Mem) : ci_X11_areSpies.2.2.2.2 [v0, v1] M = fin true ((dRet (dBo (dAnd (dCm0 .gt (dFld wM 11 24 (dLoc 0))) (dCm0 .ne (dCal wM ci_X11_in (dA1 (dA1 (dA1 dA0 (dLoc 1)) (dInt 1)) (dInt 3))))))) [v0, v1] M) := by
  have h : a_X11_areSpies.1.1 = (dRet (dBo (dAnd (dCm0 .gt (dFld wM 11 24 (dLoc 0))) (dCm0 .ne (dCal wM ci_X11_in (dA1 (dA1 (dA1 dA0 (dLoc 1)) (dInt 1)) (dInt 3))))))) := by simp only [a_X11_areSpies, p_sSet, p_sInc, p_sPutF, p_sUpdF, p_sPutA, p_sUpdA, sDo, p_sCpy, p_sSeq, p_sIf, p_sIfE, p_sWh, p_sRet, p_sReV, p_sBlk, p_sSw, p_wDf, p_wCs, p_eInt, p_eLng, p_eNll, p_eStr, p_eSta, p_eLoc, p_eBin, p_eDiv, p_eI2L, p_eL2I, p_eFld, p_eAr, p_eRo, p_eLen, eCal, p_eMt, p_eAbs, p_eBo, p_eCon, p_aA0, p_aA1, p_oCmp, p_oCm0, p_oCmpL, p_oNul, p_oAnd, p_oOr, p_oNot]
  exact congrArg (fun z => fin true (z [v0, v1] M)) h
noncomputable def wc1_X11_spies : CoD := (dCmp .lt (dLoc 4) (dBin (opF 6) (dInt 1) (dFld wM 11 24 (dLoc 0))))
noncomputable def wb1_X11_spies : StD := (dSeq (dIf (dCm0 .ne (dCal wM ci_X11_isSpies (dA1 (dA1 (dA1 dA0 (dLoc 0)) (dLoc 1)) (dLoc 4)))) (dSeq (dIf (dCmp .eq (dLoc 3) (dLoc 2)) (dRet (dLoc 4)))
  (dInc 3 1)))
  (dInc 4 1))
set_option maxRecDepth 100000 in
theorem u_X11_spies (v0 v1 v2 : Int) (M : Mem) : ci_X11_spies.2.2.2.2 [v0, v1, v2] M = fin false ((dSeq (dIf (dOr (dNot (dCm0 .ne (dCal wM ci_X11_areSpies (dA1 (dA1 dA0 (dLoc 0)) (dLoc 1))))) (dCmp .lt (dLoc 2) (dInt (-1)))) (dRet (dInt (-1))))
  (dSeq (dSet 3 (dInt 0))
  (dSeq (dSeq (dSet 4 (dInt 0))
  (dWh (wc1_X11_spies) (wb1_X11_spies)))
  (dRet (dCon (dCmp .eq (dLoc 2) (dInt (-1))) (dLoc 3) (dInt (-1))))))) [v0, v1, v2, 0, 0] M) := by
  have h : a_X11_spies.1.1 = (dSeq (dIf (dOr (dNot (dCm0 .ne (dCal wM ci_X11_areSpies (dA1 (dA1 dA0 (dLoc 0)) (dLoc 1))))) (dCmp .lt (dLoc 2) (dInt (-1)))) (dRet (dInt (-1))))
  (dSeq (dSet 3 (dInt 0))
  (dSeq (dSeq (dSet 4 (dInt 0))
  (dWh (wc1_X11_spies) (wb1_X11_spies)))
  (dRet (dCon (dCmp .eq (dLoc 2) (dInt (-1))) (dLoc 3) (dInt (-1))))))) := by simp only [a_X11_spies, wc1_X11_spies, wb1_X11_spies, p_sSet, p_sInc, p_sPutF, p_sUpdF, p_sPutA, p_sUpdA, sDo, p_sCpy, p_sSeq, p_sIf, p_sIfE, p_sWh, p_sRet, p_sReV, p_sBlk, p_sSw, p_wDf, p_wCs, p_eInt, p_eLng, p_eNll, p_eStr, p_eSta, p_eLoc, p_eBin, p_eDiv, p_eI2L, p_eL2I, p_eFld, p_eAr, p_eRo, p_eLen, eCal, p_eMt, p_eAbs, p_eBo, p_eCon, p_aA0, p_aA1, p_oCmp, p_oCm0, p_oCmpL, p_oNul, p_oAnd, p_oOr, p_oNot]
  exact congrArg (fun z => fin false (z [v0, v1, v2, 0, 0] M)) h
noncomputable def wc1_X11_clear : CoD := (dCmp .lt (dLoc 3) (dBin (opF 6) (dInt 1) (dFld wM 11 24 (dLoc 0))))
noncomputable def wb1_X11_clear : StD := (dSeq (dSet 2 (dBin (opF 4) (dLoc 2) (dCon (dCm0 .ne (dCal wM ci_X11_isSpies (dA1 (dA1 (dA1 dA0 (dLoc 0)) (dLoc 1)) (dLoc 3)))) (dLoc 3) (dInt 0))))
  (dInc 3 1))
set_option maxRecDepth 100000 in
theorem u_X11_clear (v0 v1 : Int) (M : Mem) : ci_X11_clear.2.2.2.2 [v0, v1] M = fin false ((dSeq (dIf (dOr (dNot (dCm0 .ne (dCal wM ci_X11_areSpies (dA1 (dA1 dA0 (dLoc 0)) (dLoc 1))))) (dCmp .eq (dCal wM ci_X11_spies (dA1 (dA1 (dA1 dA0 (dLoc 0)) (dLoc 1)) (dInt 0))) (dInt (-1)))) (dRet (dInt (-1))))
  (dSeq (dSet 2 (dInt 0))
  (dSeq (dSeq (dSet 3 (dInt 0))
  (dWh (wc1_X11_clear) (wb1_X11_clear)))
  (dRet (dBin (opF 3) (dBin (opF 1) (dBin (opF 6) (dInt 1) (dFld wM 11 24 (dLoc 0))) (dInt 1)) (dBin (opF 5) (dLoc 2) (dInt (-1)))))))) [v0, v1, 0, 0] M) := by
  have h : a_X11_clear.1.1 = (dSeq (dIf (dOr (dNot (dCm0 .ne (dCal wM ci_X11_areSpies (dA1 (dA1 dA0 (dLoc 0)) (dLoc 1))))) (dCmp .eq (dCal wM ci_X11_spies (dA1 (dA1 (dA1 dA0 (dLoc 0)) (dLoc 1)) (dInt 0))) (dInt (-1)))) (dRet (dInt (-1))))
  (dSeq (dSet 2 (dInt 0))
  (dSeq (dSeq (dSet 3 (dInt 0))
  (dWh (wc1_X11_clear) (wb1_X11_clear)))
  (dRet (dBin (opF 3) (dBin (opF 1) (dBin (opF 6) (dInt 1) (dFld wM 11 24 (dLoc 0))) (dInt 1)) (dBin (opF 5) (dLoc 2) (dInt (-1)))))))) := by simp only [a_X11_clear, wc1_X11_clear, wb1_X11_clear, p_sSet, p_sInc, p_sPutF, p_sUpdF, p_sPutA, p_sUpdA, sDo, p_sCpy, p_sSeq, p_sIf, p_sIfE, p_sWh, p_sRet, p_sReV, p_sBlk, p_sSw, p_wDf, p_wCs, p_eInt, p_eLng, p_eNll, p_eStr, p_eSta, p_eLoc, p_eBin, p_eDiv, p_eI2L, p_eL2I, p_eFld, p_eAr, p_eRo, p_eLen, eCal, p_eMt, p_eAbs, p_eBo, p_eCon, p_aA0, p_aA1, p_oCmp, p_oCm0, p_oCmpL, p_oNul, p_oAnd, p_oOr, p_oNot]
  exact congrArg (fun z => fin false (z [v0, v1, 0, 0] M)) h
noncomputable def wc1_X11_best : CoD := (dCmp .lt (dLoc 6) (dBin (opF 6) (dInt 1) (dFld wM 11 24 (dLoc 0))))
noncomputable def wb1_X11_best : StD := (dSeq (dSet 5 (dBin (opF 0) (dLoc 5) (dCon (dNot (dCm0 .ne (dCal wM ci_X11_isSpies (dA1 (dA1 (dA1 dA0 (dLoc 0)) (dLoc 1)) (dLoc 6))))) (dInt 0) (dCon (dCm0 .ne (dCal wM ci_X11_has (dA1 (dA1 dA0 (dLoc 6)) (dLoc 4)))) (dInt 1) (dInt (-1))))))
  (dInc 6 1))
noncomputable def wc2_X11_best : CoD := (dCmp .lt (dLoc 4) (dFld wM 11 24 (dLoc 0)))
noncomputable def wb2_X11_best : StD := (dSeq (dSeq (dSet 5 (dInt 0))
  (dSeq (dSeq (dSet 6 (dInt 0))
  (dWh (wc1_X11_best) (wb1_X11_best)))
  (dIf (dOr (dCmp .eq (dLoc 2) (dInt (-1))) (dCmp .lt (dUn abI (dLoc 5)) (dLoc 3))) (dSeq (dSet 2 (dLoc 4))
  (dSet 3 (dUn abI (dLoc 5)))))))
  (dInc 4 1))
set_option maxRecDepth 100000 in
theorem u_X11_best (v0 v1 : Int) (M : Mem) : ci_X11_best.2.2.2.2 [v0, v1] M = fin false ((dSeq (dIf (dOr (dNot (dCm0 .ne (dCal wM ci_X11_areSpies (dA1 (dA1 dA0 (dLoc 0)) (dLoc 1))))) (dCmp .eq (dCal wM ci_X11_spies (dA1 (dA1 (dA1 dA0 (dLoc 0)) (dLoc 1)) (dInt 0))) (dInt (-1)))) (dRet (dInt (-1))))
  (dSeq (dSet 2 (dInt (-1)))
  (dSeq (dSet 3 (dInt 0))
  (dSeq (dSeq (dSet 4 (dInt 0))
  (dWh (wc2_X11_best) (wb2_X11_best)))
  (dRet (dLoc 2)))))) [v0, v1, 0, 0, 0, 0, 0] M) := by
  have h : a_X11_best.1.1 = (dSeq (dIf (dOr (dNot (dCm0 .ne (dCal wM ci_X11_areSpies (dA1 (dA1 dA0 (dLoc 0)) (dLoc 1))))) (dCmp .eq (dCal wM ci_X11_spies (dA1 (dA1 (dA1 dA0 (dLoc 0)) (dLoc 1)) (dInt 0))) (dInt (-1)))) (dRet (dInt (-1))))
  (dSeq (dSet 2 (dInt (-1)))
  (dSeq (dSet 3 (dInt 0))
  (dSeq (dSeq (dSet 4 (dInt 0))
  (dWh (wc2_X11_best) (wb2_X11_best)))
  (dRet (dLoc 2)))))) := by simp only [a_X11_best, wc1_X11_best, wb1_X11_best, wc2_X11_best, wb2_X11_best, p_sSet, p_sInc, p_sPutF, p_sUpdF, p_sPutA, p_sUpdA, sDo, p_sCpy, p_sSeq, p_sIf, p_sIfE, p_sWh, p_sRet, p_sReV, p_sBlk, p_sSw, p_wDf, p_wCs, p_eInt, p_eLng, p_eNll, p_eStr, p_eSta, p_eLoc, p_eBin, p_eDiv, p_eI2L, p_eL2I, p_eFld, p_eAr, p_eRo, p_eLen, eCal, p_eMt, p_eAbs, p_eBo, p_eCon, p_aA0, p_aA1, p_oCmp, p_oCm0, p_oCmpL, p_oNul, p_oAnd, p_oOr, p_oNot]
  exact congrArg (fun z => fin false (z [v0, v1, 0, 0, 0, 0, 0] M)) h
noncomputable def wc1_X11_layHours : CoD := (dCmp .lt (dLoc 1) (dInt 6))
noncomputable def wb1_X11_layHours : StD := (dSeq (dPutA wM 0 (dFld wM 11 39 (dLoc 0)) (dLoc 1) (dCon (dCm0 .eq (dLoc 1)) (dInt 0) (dInt 1000000)))
  (dInc 1 1))
noncomputable def wc2_X11_layHours : CoD := (dCmp .lt (dLoc 2) (dFld wM 11 25 (dLoc 0)))
noncomputable def wb2_X11_layHours : StD := (dSeq (dSeq (dSet 3 (dAr wM 0 (dFld wM 11 23 (dLoc 0)) (dBin (opF 2) (dInt 3) (dLoc 2))))
  (dSeq (dSet 4 (dAr wM 0 (dFld wM 11 23 (dLoc 0)) (dBin (opF 0) (dBin (opF 2) (dInt 3) (dLoc 2)) (dInt 1))))
  (dSeq (dPutA wM 0 (dFld wM 11 39 (dLoc 0)) (dLoc 3) (dBin (mtF 1) (dAr wM 0 (dFld wM 11 39 (dLoc 0)) (dLoc 3)) (dBin (opF 0) (dAr wM 0 (dFld wM 11 39 (dLoc 0)) (dLoc 4)) (dAr wM 0 (dFld wM 11 23 (dLoc 0)) (dBin (opF 0) (dBin (opF 2) (dInt 3) (dLoc 2)) (dInt 2))))))
  (dPutA wM 0 (dFld wM 11 39 (dLoc 0)) (dLoc 4) (dBin (mtF 1) (dAr wM 0 (dFld wM 11 39 (dLoc 0)) (dLoc 4)) (dBin (opF 0) (dAr wM 0 (dFld wM 11 39 (dLoc 0)) (dLoc 3)) (dAr wM 0 (dFld wM 11 23 (dLoc 0)) (dBin (opF 0) (dBin (opF 2) (dInt 3) (dLoc 2)) (dInt 2)))))))))
  (dInc 2 1))
noncomputable def wc3_X11_layHours : CoD := (dCmp .lt (dLoc 1) (dInt 6))
noncomputable def wb3_X11_layHours : StD := (dSeq (dSeq (dSet 2 (dInt 0))
  (dWh (wc2_X11_layHours) (wb2_X11_layHours)))
  (dInc 1 1))
set_option maxRecDepth 100000 in
theorem u_X11_layHours (v0 : Int) (M : Mem) : ci_X11_layHours.2.2.2.2 [v0] M = fin false ((dSeq (dSeq (dSeq (dSet 1 (dInt 0))
  (dWh (wc1_X11_layHours) (wb1_X11_layHours)))
  (dSeq (dSet 1 (dInt 0))
  (dWh (wc3_X11_layHours) (wb3_X11_layHours))))
  dReV) [v0, 0, 0, 0, 0] M) := by
  have h : a_X11_layHours.1.1 = (dSeq (dSeq (dSeq (dSet 1 (dInt 0))
  (dWh (wc1_X11_layHours) (wb1_X11_layHours)))
  (dSeq (dSet 1 (dInt 0))
  (dWh (wc3_X11_layHours) (wb3_X11_layHours))))
  dReV) := by simp only [a_X11_layHours, wc1_X11_layHours, wb1_X11_layHours, wc2_X11_layHours, wb2_X11_layHours, wc3_X11_layHours, wb3_X11_layHours, p_sSet, p_sInc, p_sPutF, p_sUpdF, p_sPutA, p_sUpdA, sDo, p_sCpy, p_sSeq, p_sIf, p_sIfE, p_sWh, p_sRet, p_sReV, p_sBlk, p_sSw, p_wDf, p_wCs, p_eInt, p_eLng, p_eNll, p_eStr, p_eSta, p_eLoc, p_eBin, p_eDiv, p_eI2L, p_eL2I, p_eFld, p_eAr, p_eRo, p_eLen, eCal, p_eMt, p_eAbs, p_eBo, p_eCon, p_aA0, p_aA1, p_oCmp, p_oCm0, p_oCmpL, p_oNul, p_oAnd, p_oOr, p_oNot]
  exact congrArg (fun z => fin false (z [v0, 0, 0, 0, 0] M)) h
set_option maxRecDepth 100000 in
theorem u_X11_flight (v0 v1 : Int) (M : Mem) : ci_X11_flight.2.2.2.2 [v0, v1] M = fin false ((dSeq (dIf (dOr (dCm0 .eq (dFld wM 11 24 (dLoc 0))) (dNot (dCm0 .ne (dCal wM ci_X11_in (dA1 (dA1 (dA1 dA0 (dLoc 1)) (dInt 0)) (dInt 5)))))) (dRet (dInt (-1))))
  (dSeq (dDo wM ci_X11_layHours (dA1 dA0 (dLoc 0)))
  (dRet (dCon (dCmp .ge (dAr wM 0 (dFld wM 11 39 (dLoc 0)) (dLoc 1)) (dInt 1000000)) (dInt (-1)) (dAr wM 0 (dFld wM 11 39 (dLoc 0)) (dLoc 1)))))) [v0, v1] M) := by
  have h : a_X11_flight.1.1 = (dSeq (dIf (dOr (dCm0 .eq (dFld wM 11 24 (dLoc 0))) (dNot (dCm0 .ne (dCal wM ci_X11_in (dA1 (dA1 (dA1 dA0 (dLoc 1)) (dInt 0)) (dInt 5)))))) (dRet (dInt (-1))))
  (dSeq (dDo wM ci_X11_layHours (dA1 dA0 (dLoc 0)))
  (dRet (dCon (dCmp .ge (dAr wM 0 (dFld wM 11 39 (dLoc 0)) (dLoc 1)) (dInt 1000000)) (dInt (-1)) (dAr wM 0 (dFld wM 11 39 (dLoc 0)) (dLoc 1)))))) := by simp only [a_X11_flight, p_sSet, p_sInc, p_sPutF, p_sUpdF, p_sPutA, p_sUpdA, sDo, p_sCpy, p_sSeq, p_sIf, p_sIfE, p_sWh, p_sRet, p_sReV, p_sBlk, p_sSw, p_wDf, p_wCs, p_eInt, p_eLng, p_eNll, p_eStr, p_eSta, p_eLoc, p_eBin, p_eDiv, p_eI2L, p_eL2I, p_eFld, p_eAr, p_eRo, p_eLen, eCal, p_eMt, p_eAbs, p_eBo, p_eCon, p_aA0, p_aA1, p_oCmp, p_oCm0, p_oCmpL, p_oNul, p_oAnd, p_oOr, p_oNot]
  exact congrArg (fun z => fin false (z [v0, v1] M)) h
noncomputable def wc1_X11_reach : CoD := (dCmp .lt (dLoc 2) (dInt 6))
noncomputable def wb1_X11_reach : StD := (dSeq (dSet 1 (dBin (opF 4) (dLoc 1) (dCon (dCmp .le (dBin (opF 2) (dInt 2) (dAr wM 0 (dFld wM 11 39 (dLoc 0)) (dLoc 2))) (dAr wM 0 (dFld wM 11 22 (dLoc 0)) (dInt 2))) (dBin (opF 6) (dInt 1) (dLoc 2)) (dInt 0))))
  (dInc 2 1))
set_option maxRecDepth 100000 in
theorem u_X11_reach (v0 : Int) (M : Mem) : ci_X11_reach.2.2.2.2 [v0] M = fin false ((dSeq (dIf (dCm0 .eq (dFld wM 11 24 (dLoc 0))) (dRet (dInt (-1))))
  (dSeq (dDo wM ci_X11_layHours (dA1 dA0 (dLoc 0)))
  (dSeq (dSet 1 (dInt 0))
  (dSeq (dSeq (dSet 2 (dInt 0))
  (dWh (wc1_X11_reach) (wb1_X11_reach)))
  (dRet (dLoc 1)))))) [v0, 0, 0] M) := by
  have h : a_X11_reach.1.1 = (dSeq (dIf (dCm0 .eq (dFld wM 11 24 (dLoc 0))) (dRet (dInt (-1))))
  (dSeq (dDo wM ci_X11_layHours (dA1 dA0 (dLoc 0)))
  (dSeq (dSet 1 (dInt 0))
  (dSeq (dSeq (dSet 2 (dInt 0))
  (dWh (wc1_X11_reach) (wb1_X11_reach)))
  (dRet (dLoc 1)))))) := by simp only [a_X11_reach, wc1_X11_reach, wb1_X11_reach, p_sSet, p_sInc, p_sPutF, p_sUpdF, p_sPutA, p_sUpdA, sDo, p_sCpy, p_sSeq, p_sIf, p_sIfE, p_sWh, p_sRet, p_sReV, p_sBlk, p_sSw, p_wDf, p_wCs, p_eInt, p_eLng, p_eNll, p_eStr, p_eSta, p_eLoc, p_eBin, p_eDiv, p_eI2L, p_eL2I, p_eFld, p_eAr, p_eRo, p_eLen, eCal, p_eMt, p_eAbs, p_eBo, p_eCon, p_aA0, p_aA1, p_oCmp, p_oCm0, p_oCmpL, p_oNul, p_oAnd, p_oOr, p_oNot]
  exact congrArg (fun z => fin false (z [v0, 0, 0] M)) h
noncomputable def wc1_X11_dare : CoD := (dCmp .lt (dLoc 3) (dBin (opF 6) (dInt 1) (dFld wM 11 24 (dLoc 0))))
noncomputable def wb1_X11_dare : StD := (dSeq (dSeq (dSet 4 (dBo (dAnd (dAnd (dCm0 .eq (dBin (opF 3) (dLoc 3) (dBin (opF 5) (dLoc 1) (dInt (-1))))) (dCmp .ge (dCal wM ci_X11_artOf (dA1 (dA1 dA0 (dLoc 0)) (dLoc 3))) (dAr wM 0 (dFld wM 11 22 (dLoc 0)) (dInt 0)))) (dOr (dCmp .eq (dLoc 2) (dInt (-1))) (dCmp .lt (dCal wM ci_J6_bitCount_0f7a4M (dA1 dA0 (dLoc 3))) (dCal wM ci_J6_bitCount_0f7a4M (dA1 dA0 (dLoc 2))))))))
  (dSet 2 (dCon (dCm0 .ne (dLoc 4)) (dLoc 3) (dLoc 2))))
  (dInc 3 1))
set_option maxRecDepth 100000 in
theorem u_X11_dare (v0 : Int) (M : Mem) : ci_X11_dare.2.2.2.2 [v0] M = fin false ((dSeq (dSet 1 (dCal wM ci_X11_living (dA1 dA0 (dLoc 0))))
  (dSeq (dSet 2 (dInt (-1)))
  (dSeq (dSeq (dSet 3 (dInt 1))
  (dWh (wc1_X11_dare) (wb1_X11_dare)))
  (dRet (dLoc 2))))) [v0, 0, 0, 0, 0] M) := by
  have h : a_X11_dare.1.1 = (dSeq (dSet 1 (dCal wM ci_X11_living (dA1 dA0 (dLoc 0))))
  (dSeq (dSet 2 (dInt (-1)))
  (dSeq (dSeq (dSet 3 (dInt 1))
  (dWh (wc1_X11_dare) (wb1_X11_dare)))
  (dRet (dLoc 2))))) := by simp only [a_X11_dare, wc1_X11_dare, wb1_X11_dare, p_sSet, p_sInc, p_sPutF, p_sUpdF, p_sPutA, p_sUpdA, sDo, p_sCpy, p_sSeq, p_sIf, p_sIfE, p_sWh, p_sRet, p_sReV, p_sBlk, p_sSw, p_wDf, p_wCs, p_eInt, p_eLng, p_eNll, p_eStr, p_eSta, p_eLoc, p_eBin, p_eDiv, p_eI2L, p_eL2I, p_eFld, p_eAr, p_eRo, p_eLen, eCal, p_eMt, p_eAbs, p_eBo, p_eCon, p_aA0, p_aA1, p_oCmp, p_oCm0, p_oCmpL, p_oNul, p_oAnd, p_oOr, p_oNot]
  exact congrArg (fun z => fin false (z [v0, 0, 0, 0, 0] M)) h
noncomputable def wc1_X11_ordersOf : CoD := (dCmp .le (dLoc 2) (dCal wM ci_J6_bitCount_0f7a4M (dA1 dA0 (dLoc 0))))
noncomputable def wb1_X11_ordersOf : StD := (dSeq (dSet 1 (dBin (opF 2) (dLoc 1) (dLoc 2)))
  (dInc 2 1))
set_option maxRecDepth 100000 in
theorem u_X11_ordersOf (v0 : Int) (M : Mem) : ci_X11_ordersOf.2.2.2.2 [v0] M = fin false ((dSeq (dSet 1 (dInt 1))
  (dSeq (dSeq (dSet 2 (dInt 2))
  (dWh (wc1_X11_ordersOf) (wb1_X11_ordersOf)))
  (dRet (dLoc 1)))) [v0, 0, 0] M) := by
  have h : a_X11_ordersOf.1.1 = (dSeq (dSet 1 (dInt 1))
  (dSeq (dSeq (dSet 2 (dInt 2))
  (dWh (wc1_X11_ordersOf) (wb1_X11_ordersOf)))
  (dRet (dLoc 1)))) := by simp only [a_X11_ordersOf, wc1_X11_ordersOf, wb1_X11_ordersOf, p_sSet, p_sInc, p_sPutF, p_sUpdF, p_sPutA, p_sUpdA, sDo, p_sCpy, p_sSeq, p_sIf, p_sIfE, p_sWh, p_sRet, p_sReV, p_sBlk, p_sSw, p_wDf, p_wCs, p_eInt, p_eLng, p_eNll, p_eStr, p_eSta, p_eLoc, p_eBin, p_eDiv, p_eI2L, p_eL2I, p_eFld, p_eAr, p_eRo, p_eLen, eCal, p_eMt, p_eAbs, p_eBo, p_eCon, p_aA0, p_aA1, p_oCmp, p_oCm0, p_oCmpL, p_oNul, p_oAnd, p_oOr, p_oNot]
  exact congrArg (fun z => fin false (z [v0, 0, 0] M)) h
noncomputable def wc1_X11_pivots (D : Nat → Den) : CoD := (dCmp .lt (dLoc 5) (dFld wM 11 24 (dLoc 0)))
noncomputable def wb1_X11_pivots (D : Nat → Den) : StD := (dSeq (dIf (dCm0 .ne (dCal wM ci_X11_has (dA1 (dA1 dA0 (dLoc 2)) (dLoc 5)))) (dSeq (dSet 6 (dBin (opF 0) (dLoc 3) (dCal wM ci_X11_of (dA1 (dA1 (dA1 dA0 (dLoc 0)) (dLoc 5)) (dInt 0)))))
  (dSeq (dSet 7 (dBo (dAnd (dCmp .lt (dLoc 3) (dAr wM 0 (dFld wM 11 22 (dLoc 0)) (dInt 0))) (dCmp .ge (dLoc 6) (dAr wM 0 (dFld wM 11 22 (dLoc 0)) (dInt 0))))))
  (dSeq (dSet 8 (dBin (opF 3) (dLoc 2) (dBin (opF 5) (dBin (opF 6) (dInt 1) (dLoc 5)) (dInt (-1)))))
  (dSet 4 (dBin (opF 0) (dLoc 4) (dCon (dCm0 .ne (dLoc 7)) (dCon (dCmp .eq (dLoc 5) (dLoc 1)) (dCal wM ci_X11_ordersOf (dA1 dA0 (dLoc 8))) (dInt 0)) (dCal wM (ci_X11_pivots D) (dA1 (dA1 (dA1 (dA1 dA0 (dLoc 0)) (dLoc 1)) (dLoc 8)) (dLoc 6))))))))))
  (dInc 5 1))
set_option maxRecDepth 100000 in
theorem u_X11_pivots (d : Nat) (v0 v1 v2 v3 : Int) (M : Mem) : grp_X11_pivots (d + 1) 0 [v0, v1, v2, v3] M = fin false ((dSeq (dSet 4 (dInt 0))
  (dSeq (dSeq (dSet 5 (dInt 0))
  (dWh (wc1_X11_pivots (grp_X11_pivots d)) (wb1_X11_pivots (grp_X11_pivots d))))
  (dRet (dLoc 4)))) [v0, v1, v2, v3, 0, 0, 0, 0, 0] M) := by
  have h : (a_X11_pivots (grp_X11_pivots d)).1.1 = (dSeq (dSet 4 (dInt 0))
  (dSeq (dSeq (dSet 5 (dInt 0))
  (dWh (wc1_X11_pivots (grp_X11_pivots d)) (wb1_X11_pivots (grp_X11_pivots d))))
  (dRet (dLoc 4)))) := by simp only [a_X11_pivots, wc1_X11_pivots, wb1_X11_pivots, p_sSet, p_sInc, p_sPutF, p_sUpdF, p_sPutA, p_sUpdA, sDo, p_sCpy, p_sSeq, p_sIf, p_sIfE, p_sWh, p_sRet, p_sReV, p_sBlk, p_sSw, p_wDf, p_wCs, p_eInt, p_eLng, p_eNll, p_eStr, p_eSta, p_eLoc, p_eBin, p_eDiv, p_eI2L, p_eL2I, p_eFld, p_eAr, p_eRo, p_eLen, eCal, p_eMt, p_eAbs, p_eBo, p_eCon, p_aA0, p_aA1, p_oCmp, p_oCm0, p_oCmpL, p_oNul, p_oAnd, p_oOr, p_oNot]
  exact congrArg (fun z => fin false (z [v0, v1, v2, v3, 0, 0, 0, 0, 0] M)) h
set_option maxRecDepth 100000 in
theorem g_X11_pivots (d : Nat) : (ci_X11_pivots (grp_X11_pivots d)).2.2.2.2 = grp_X11_pivots d 0 := rfl
set_option maxRecDepth 100000 in
theorem u_X11_shares (v0 v1 : Int) (M : Mem) : ci_X11_shares.2.2.2.2 [v0, v1] M = fin false ((dRet (dCon (dOr (dNot (dCm0 .ne (dCal wM ci_X11_lives (dA1 (dA1 dA0 (dLoc 0)) (dLoc 1))))) (dCmp .gt (dCal wM ci_X11_manyLive (dA1 dA0 (dLoc 0))) (dInt 5))) (dInt (-1000000)) (dCal wM (ci_X11_pivots (grp_X11_pivots 10)) (dA1 (dA1 (dA1 (dA1 dA0 (dLoc 0)) (dLoc 1)) (dCal wM ci_X11_living (dA1 dA0 (dLoc 0)))) (dInt 0))))) [v0, v1] M) := by
  have h : a_X11_shares.1.1 = (dRet (dCon (dOr (dNot (dCm0 .ne (dCal wM ci_X11_lives (dA1 (dA1 dA0 (dLoc 0)) (dLoc 1))))) (dCmp .gt (dCal wM ci_X11_manyLive (dA1 dA0 (dLoc 0))) (dInt 5))) (dInt (-1000000)) (dCal wM (ci_X11_pivots (grp_X11_pivots 10)) (dA1 (dA1 (dA1 (dA1 dA0 (dLoc 0)) (dLoc 1)) (dCal wM ci_X11_living (dA1 dA0 (dLoc 0)))) (dInt 0))))) := by simp only [a_X11_shares, p_sSet, p_sInc, p_sPutF, p_sUpdF, p_sPutA, p_sUpdA, sDo, p_sCpy, p_sSeq, p_sIf, p_sIfE, p_sWh, p_sRet, p_sReV, p_sBlk, p_sSw, p_wDf, p_wCs, p_eInt, p_eLng, p_eNll, p_eStr, p_eSta, p_eLoc, p_eBin, p_eDiv, p_eI2L, p_eL2I, p_eFld, p_eAr, p_eRo, p_eLen, eCal, p_eMt, p_eAbs, p_eBo, p_eCon, p_aA0, p_aA1, p_oCmp, p_oCm0, p_oCmpL, p_oNul, p_oAnd, p_oOr, p_oNot]
  exact congrArg (fun z => fin false (z [v0, v1] M)) h
set_option maxRecDepth 100000 in
theorem u_X11_gameOf (v0 v1 v2 v3 v4 : Int) (M : Mem) : ci_X11_gameOf.2.2.2.2 [v0, v1, v2, v3, v4] M = fin false ((dSeq (dDo wM ci_X11_putAside (dA1 (dA1 dA0 (dLoc 0)) (dInt 0)))
  (dSeq (dDo wM ci_X11_lay (dA1 (dA1 (dA1 (dA1 dA0 (dLoc 0)) (dLoc 1)) (dInt 1)) (dBin (opF 2) (dLoc 3) (dCal wM ci_X11_of (dA1 (dA1 (dA1 dA0 (dLoc 0)) (dLoc 1)) (dInt 0))))))
  (dSeq (dDo wM ci_X11_lay (dA1 (dA1 (dA1 (dA1 dA0 (dLoc 0)) (dLoc 2)) (dInt 1)) (dBin (opF 2) (dLoc 4) (dCal wM ci_X11_of (dA1 (dA1 (dA1 dA0 (dLoc 0)) (dLoc 2)) (dInt 0))))))
  (dSeq (dSet 5 (dBin (opF 1) (dCal wM ci_X11_learnsBy (dA1 (dA1 (dA1 (dA1 dA0 (dLoc 0)) (dLoc 1)) (dCal wM ci_X11_of (dA1 (dA1 (dA1 dA0 (dLoc 0)) (dLoc 1)) (dInt 1)))) (dCal wM ci_X11_manyLive (dA1 dA0 (dLoc 0))))) (dCon (dCmp .eq (dCal wM ci_X11_chosenNow (dA1 dA0 (dLoc 0))) (dLoc 1)) (dInt 50) (dInt 0))))
  (dSeq (dDo wM ci_X11_takeBack (dA1 (dA1 dA0 (dLoc 0)) (dInt 0)))
  (dRet (dLoc 5))))))) [v0, v1, v2, v3, v4, 0] M) := by
  have h : a_X11_gameOf.1.1 = (dSeq (dDo wM ci_X11_putAside (dA1 (dA1 dA0 (dLoc 0)) (dInt 0)))
  (dSeq (dDo wM ci_X11_lay (dA1 (dA1 (dA1 (dA1 dA0 (dLoc 0)) (dLoc 1)) (dInt 1)) (dBin (opF 2) (dLoc 3) (dCal wM ci_X11_of (dA1 (dA1 (dA1 dA0 (dLoc 0)) (dLoc 1)) (dInt 0))))))
  (dSeq (dDo wM ci_X11_lay (dA1 (dA1 (dA1 (dA1 dA0 (dLoc 0)) (dLoc 2)) (dInt 1)) (dBin (opF 2) (dLoc 4) (dCal wM ci_X11_of (dA1 (dA1 (dA1 dA0 (dLoc 0)) (dLoc 2)) (dInt 0))))))
  (dSeq (dSet 5 (dBin (opF 1) (dCal wM ci_X11_learnsBy (dA1 (dA1 (dA1 (dA1 dA0 (dLoc 0)) (dLoc 1)) (dCal wM ci_X11_of (dA1 (dA1 (dA1 dA0 (dLoc 0)) (dLoc 1)) (dInt 1)))) (dCal wM ci_X11_manyLive (dA1 dA0 (dLoc 0))))) (dCon (dCmp .eq (dCal wM ci_X11_chosenNow (dA1 dA0 (dLoc 0))) (dLoc 1)) (dInt 50) (dInt 0))))
  (dSeq (dDo wM ci_X11_takeBack (dA1 (dA1 dA0 (dLoc 0)) (dInt 0)))
  (dRet (dLoc 5))))))) := by simp only [a_X11_gameOf, p_sSet, p_sInc, p_sPutF, p_sUpdF, p_sPutA, p_sUpdA, sDo, p_sCpy, p_sSeq, p_sIf, p_sIfE, p_sWh, p_sRet, p_sReV, p_sBlk, p_sSw, p_wDf, p_wCs, p_eInt, p_eLng, p_eNll, p_eStr, p_eSta, p_eLoc, p_eBin, p_eDiv, p_eI2L, p_eL2I, p_eFld, p_eAr, p_eRo, p_eLen, eCal, p_eMt, p_eAbs, p_eBo, p_eCon, p_aA0, p_aA1, p_oCmp, p_oCm0, p_oCmpL, p_oNul, p_oAnd, p_oOr, p_oNot]
  exact congrArg (fun z => fin false (z [v0, v1, v2, v3, v4, 0] M)) h
set_option maxRecDepth 100000 in
theorem u_X11_areTwo (v0 v1 v2 : Int) (M : Mem) : ci_X11_areTwo.2.2.2.2 [v0, v1, v2] M = fin true ((dRet (dBo (dAnd (dAnd (dCm0 .ne (dCal wM ci_X11_lives (dA1 (dA1 dA0 (dLoc 0)) (dLoc 1)))) (dCm0 .ne (dCal wM ci_X11_lives (dA1 (dA1 dA0 (dLoc 0)) (dLoc 2))))) (dCmp .ne (dLoc 1) (dLoc 2))))) [v0, v1, v2] M) := by
  have h : a_X11_areTwo.1.1 = (dRet (dBo (dAnd (dAnd (dCm0 .ne (dCal wM ci_X11_lives (dA1 (dA1 dA0 (dLoc 0)) (dLoc 1)))) (dCm0 .ne (dCal wM ci_X11_lives (dA1 (dA1 dA0 (dLoc 0)) (dLoc 2))))) (dCmp .ne (dLoc 1) (dLoc 2))))) := by simp only [a_X11_areTwo, p_sSet, p_sInc, p_sPutF, p_sUpdF, p_sPutA, p_sUpdA, sDo, p_sCpy, p_sSeq, p_sIf, p_sIfE, p_sWh, p_sRet, p_sReV, p_sBlk, p_sSw, p_wDf, p_wCs, p_eInt, p_eLng, p_eNll, p_eStr, p_eSta, p_eLoc, p_eBin, p_eDiv, p_eI2L, p_eL2I, p_eFld, p_eAr, p_eRo, p_eLen, eCal, p_eMt, p_eAbs, p_eBo, p_eCon, p_aA0, p_aA1, p_oCmp, p_oCm0, p_oCmpL, p_oNul, p_oAnd, p_oOr, p_oNot]
  exact congrArg (fun z => fin true (z [v0, v1, v2] M)) h
set_option maxRecDepth 100000 in
theorem u_X11_game (v0 v1 v2 v3 v4 v5 : Int) (M : Mem) : ci_X11_game.2.2.2.2 [v0, v1, v2, v3, v4, v5] M = fin false ((dSeq (dIf (dOr (dOr (dOr (dNot (dCm0 .ne (dCal wM ci_X11_areTwo (dA1 (dA1 (dA1 dA0 (dLoc 0)) (dLoc 1)) (dLoc 2))))) (dNot (dCm0 .ne (dCal wM ci_X11_in (dA1 (dA1 (dA1 dA0 (dLoc 3)) (dInt 0)) (dInt 1)))))) (dNot (dCm0 .ne (dCal wM ci_X11_in (dA1 (dA1 (dA1 dA0 (dLoc 4)) (dInt 0)) (dInt 1)))))) (dNot (dCm0 .ne (dCal wM ci_X11_in (dA1 (dA1 (dA1 dA0 (dLoc 5)) (dInt 0)) (dInt 1)))))) (dRet (dInt (-1000000))))
  (dRet (dCon (dCm0 .eq (dLoc 5)) (dCal wM ci_X11_gameOf (dA1 (dA1 (dA1 (dA1 (dA1 dA0 (dLoc 0)) (dLoc 1)) (dLoc 2)) (dLoc 3)) (dLoc 4))) (dCal wM ci_X11_gameOf (dA1 (dA1 (dA1 (dA1 (dA1 dA0 (dLoc 0)) (dLoc 2)) (dLoc 1)) (dLoc 4)) (dLoc 3)))))) [v0, v1, v2, v3, v4, v5] M) := by
  have h : a_X11_game.1.1 = (dSeq (dIf (dOr (dOr (dOr (dNot (dCm0 .ne (dCal wM ci_X11_areTwo (dA1 (dA1 (dA1 dA0 (dLoc 0)) (dLoc 1)) (dLoc 2))))) (dNot (dCm0 .ne (dCal wM ci_X11_in (dA1 (dA1 (dA1 dA0 (dLoc 3)) (dInt 0)) (dInt 1)))))) (dNot (dCm0 .ne (dCal wM ci_X11_in (dA1 (dA1 (dA1 dA0 (dLoc 4)) (dInt 0)) (dInt 1)))))) (dNot (dCm0 .ne (dCal wM ci_X11_in (dA1 (dA1 (dA1 dA0 (dLoc 5)) (dInt 0)) (dInt 1)))))) (dRet (dInt (-1000000))))
  (dRet (dCon (dCm0 .eq (dLoc 5)) (dCal wM ci_X11_gameOf (dA1 (dA1 (dA1 (dA1 (dA1 dA0 (dLoc 0)) (dLoc 1)) (dLoc 2)) (dLoc 3)) (dLoc 4))) (dCal wM ci_X11_gameOf (dA1 (dA1 (dA1 (dA1 (dA1 dA0 (dLoc 0)) (dLoc 2)) (dLoc 1)) (dLoc 4)) (dLoc 3)))))) := by simp only [a_X11_game, p_sSet, p_sInc, p_sPutF, p_sUpdF, p_sPutA, p_sUpdA, sDo, p_sCpy, p_sSeq, p_sIf, p_sIfE, p_sWh, p_sRet, p_sReV, p_sBlk, p_sSw, p_wDf, p_wCs, p_eInt, p_eLng, p_eNll, p_eStr, p_eSta, p_eLoc, p_eBin, p_eDiv, p_eI2L, p_eL2I, p_eFld, p_eAr, p_eRo, p_eLen, eCal, p_eMt, p_eAbs, p_eBo, p_eCon, p_aA0, p_aA1, p_oCmp, p_oCm0, p_oCmpL, p_oNul, p_oAnd, p_oOr, p_oNot]
  exact congrArg (fun z => fin false (z [v0, v1, v2, v3, v4, v5] M)) h
noncomputable def wc1_X11_rests : CoD := (dCmp .lt (dLoc 6) (dInt 2))
noncomputable def wb1_X11_rests : StD := (dSeq (dIf (dAnd (dCmp .le (dCal wM ci_X11_gameOf (dA1 (dA1 (dA1 (dA1 (dA1 dA0 (dLoc 0)) (dLoc 1)) (dLoc 2)) (dBin (opF 1) (dInt 1) (dLoc 5))) (dLoc 6))) (dCal wM ci_X11_gameOf (dA1 (dA1 (dA1 (dA1 (dA1 dA0 (dLoc 0)) (dLoc 1)) (dLoc 2)) (dLoc 5)) (dLoc 6)))) (dCmp .le (dCal wM ci_X11_gameOf (dA1 (dA1 (dA1 (dA1 (dA1 dA0 (dLoc 0)) (dLoc 2)) (dLoc 1)) (dBin (opF 1) (dInt 1) (dLoc 6))) (dLoc 5))) (dCal wM ci_X11_gameOf (dA1 (dA1 (dA1 (dA1 (dA1 dA0 (dLoc 0)) (dLoc 2)) (dLoc 1)) (dLoc 6)) (dLoc 5))))) (dSeq (dIf (dCmp .eq (dLoc 4) (dLoc 3)) (dRet (dBin (opF 0) (dBin (opF 2) (dInt 10) (dLoc 5)) (dLoc 6))))
  (dInc 4 1)))
  (dInc 6 1))
noncomputable def wc2_X11_rests : CoD := (dCmp .lt (dLoc 5) (dInt 2))
noncomputable def wb2_X11_rests : StD := (dSeq (dSeq (dSet 6 (dInt 0))
  (dWh (wc1_X11_rests) (wb1_X11_rests)))
  (dInc 5 1))
set_option maxRecDepth 100000 in
theorem u_X11_rests (v0 v1 v2 v3 : Int) (M : Mem) : ci_X11_rests.2.2.2.2 [v0, v1, v2, v3] M = fin false ((dSeq (dIf (dOr (dNot (dCm0 .ne (dCal wM ci_X11_areTwo (dA1 (dA1 (dA1 dA0 (dLoc 0)) (dLoc 1)) (dLoc 2))))) (dCmp .lt (dLoc 3) (dInt (-1)))) (dRet (dInt (-1))))
  (dSeq (dSet 4 (dInt 0))
  (dSeq (dSeq (dSet 5 (dInt 0))
  (dWh (wc2_X11_rests) (wb2_X11_rests)))
  (dRet (dCon (dCmp .eq (dLoc 3) (dInt (-1))) (dLoc 4) (dInt (-1))))))) [v0, v1, v2, v3, 0, 0, 0] M) := by
  have h : a_X11_rests.1.1 = (dSeq (dIf (dOr (dNot (dCm0 .ne (dCal wM ci_X11_areTwo (dA1 (dA1 (dA1 dA0 (dLoc 0)) (dLoc 1)) (dLoc 2))))) (dCmp .lt (dLoc 3) (dInt (-1)))) (dRet (dInt (-1))))
  (dSeq (dSet 4 (dInt 0))
  (dSeq (dSeq (dSet 5 (dInt 0))
  (dWh (wc2_X11_rests) (wb2_X11_rests)))
  (dRet (dCon (dCmp .eq (dLoc 3) (dInt (-1))) (dLoc 4) (dInt (-1))))))) := by simp only [a_X11_rests, wc1_X11_rests, wb1_X11_rests, wc2_X11_rests, wb2_X11_rests, p_sSet, p_sInc, p_sPutF, p_sUpdF, p_sPutA, p_sUpdA, sDo, p_sCpy, p_sSeq, p_sIf, p_sIfE, p_sWh, p_sRet, p_sReV, p_sBlk, p_sSw, p_wDf, p_wCs, p_eInt, p_eLng, p_eNll, p_eStr, p_eSta, p_eLoc, p_eBin, p_eDiv, p_eI2L, p_eL2I, p_eFld, p_eAr, p_eRo, p_eLen, eCal, p_eMt, p_eAbs, p_eBo, p_eCon, p_aA0, p_aA1, p_oCmp, p_oCm0, p_oCmpL, p_oNul, p_oAnd, p_oOr, p_oNot]
  exact congrArg (fun z => fin false (z [v0, v1, v2, v3, 0, 0, 0] M)) h
set_option maxRecDepth 100000 in
theorem u_X11_grave (v0 v1 v2 v3 : Int) (M : Mem) : ci_X11_grave.2.2.2.2 [v0, v1, v2, v3] M = fin false ((dSeq (dIf (dOr (dOr (dOr (dCm0 .eq (dFld wM 11 24 (dLoc 0))) (dNot (dCm0 .ne (dCal wM ci_X11_in (dA1 (dA1 (dA1 dA0 (dLoc 1)) (dInt 0)) (dInt 1)))))) (dNot (dCm0 .ne (dCal wM ci_X11_in (dA1 (dA1 (dA1 dA0 (dLoc 2)) (dInt 0)) (dInt 99)))))) (dCmp .eq (dFld wM 11 43 (dLoc 0)) (dInt 10))) (dRet (dInt (-1))))
  (dSeq (dPutA wM 0 (dFld wM 11 40 (dLoc 0)) (dFld wM 11 43 (dLoc 0)) (dLoc 1))
  (dSeq (dPutA wM 0 (dFld wM 11 41 (dLoc 0)) (dFld wM 11 43 (dLoc 0)) (dLoc 2))
  (dSeq (dPutA wM 1 (dFld wM 11 42 (dLoc 0)) (dFld wM 11 43 (dLoc 0)) (dLoc 3))
  (dSeq (dUpdF wM 0 11 43 (dLoc 0) (dInt 1))
  (dRet (dFld wM 11 43 (dLoc 0)))))))) [v0, v1, v2, v3] M) := by
  have h : a_X11_grave.1.1 = (dSeq (dIf (dOr (dOr (dOr (dCm0 .eq (dFld wM 11 24 (dLoc 0))) (dNot (dCm0 .ne (dCal wM ci_X11_in (dA1 (dA1 (dA1 dA0 (dLoc 1)) (dInt 0)) (dInt 1)))))) (dNot (dCm0 .ne (dCal wM ci_X11_in (dA1 (dA1 (dA1 dA0 (dLoc 2)) (dInt 0)) (dInt 99)))))) (dCmp .eq (dFld wM 11 43 (dLoc 0)) (dInt 10))) (dRet (dInt (-1))))
  (dSeq (dPutA wM 0 (dFld wM 11 40 (dLoc 0)) (dFld wM 11 43 (dLoc 0)) (dLoc 1))
  (dSeq (dPutA wM 0 (dFld wM 11 41 (dLoc 0)) (dFld wM 11 43 (dLoc 0)) (dLoc 2))
  (dSeq (dPutA wM 1 (dFld wM 11 42 (dLoc 0)) (dFld wM 11 43 (dLoc 0)) (dLoc 3))
  (dSeq (dUpdF wM 0 11 43 (dLoc 0) (dInt 1))
  (dRet (dFld wM 11 43 (dLoc 0)))))))) := by simp only [a_X11_grave, p_sSet, p_sInc, p_sPutF, p_sUpdF, p_sPutA, p_sUpdA, sDo, p_sCpy, p_sSeq, p_sIf, p_sIfE, p_sWh, p_sRet, p_sReV, p_sBlk, p_sSw, p_wDf, p_wCs, p_eInt, p_eLng, p_eNll, p_eStr, p_eSta, p_eLoc, p_eBin, p_eDiv, p_eI2L, p_eL2I, p_eFld, p_eAr, p_eRo, p_eLen, eCal, p_eMt, p_eAbs, p_eBo, p_eCon, p_aA0, p_aA1, p_oCmp, p_oCm0, p_oCmpL, p_oNul, p_oAnd, p_oOr, p_oNot]
  exact congrArg (fun z => fin false (z [v0, v1, v2, v3] M)) h
noncomputable def wc1_X11_dug : CoD := (dCmp .lt (dLoc 4) (dFld wM 11 43 (dLoc 0)))
noncomputable def wb1_X11_dug : StD := (dSeq (dSet 3 (dBo (dAnd (dCm0 .ne (dLoc 3)) (dCmp .eq (dBo (dCmp .ge (dCal wM ci_X11_of (dA1 (dA1 (dA1 dA0 (dLoc 0)) (dLoc 2)) (dCon (dCm0 .eq (dAr wM 0 (dFld wM 11 40 (dLoc 0)) (dLoc 4))) (dInt 4) (dInt 0)))) (dAr wM 0 (dFld wM 11 41 (dLoc 0)) (dLoc 4)))) (dAr wM 1 (dFld wM 11 42 (dLoc 0)) (dLoc 4))))))
  (dInc 4 1))
noncomputable def wc2_X11_dug : CoD := (dCmp .lt (dLoc 2) (dFld wM 11 24 (dLoc 0)))
noncomputable def wb2_X11_dug : StD := (dSeq (dSeq (dSet 3 (dInt 1))
  (dSeq (dSeq (dSet 4 (dInt 0))
  (dWh (wc1_X11_dug) (wb1_X11_dug)))
  (dSet 1 (dBin (opF 4) (dLoc 1) (dCon (dCm0 .ne (dLoc 3)) (dBin (opF 6) (dInt 1) (dLoc 2)) (dInt 0))))))
  (dInc 2 1))
set_option maxRecDepth 100000 in
theorem u_X11_dug (v0 : Int) (M : Mem) : ci_X11_dug.2.2.2.2 [v0] M = fin false ((dSeq (dIf (dCm0 .eq (dFld wM 11 24 (dLoc 0))) (dRet (dInt (-1))))
  (dSeq (dSet 1 (dInt 0))
  (dSeq (dSeq (dSet 2 (dInt 0))
  (dWh (wc2_X11_dug) (wb2_X11_dug)))
  (dRet (dLoc 1))))) [v0, 0, 0, 0, 0] M) := by
  have h : a_X11_dug.1.1 = (dSeq (dIf (dCm0 .eq (dFld wM 11 24 (dLoc 0))) (dRet (dInt (-1))))
  (dSeq (dSet 1 (dInt 0))
  (dSeq (dSeq (dSet 2 (dInt 0))
  (dWh (wc2_X11_dug) (wb2_X11_dug)))
  (dRet (dLoc 1))))) := by simp only [a_X11_dug, wc1_X11_dug, wb1_X11_dug, wc2_X11_dug, wb2_X11_dug, p_sSet, p_sInc, p_sPutF, p_sUpdF, p_sPutA, p_sUpdA, sDo, p_sCpy, p_sSeq, p_sIf, p_sIfE, p_sWh, p_sRet, p_sReV, p_sBlk, p_sSw, p_wDf, p_wCs, p_eInt, p_eLng, p_eNll, p_eStr, p_eSta, p_eLoc, p_eBin, p_eDiv, p_eI2L, p_eL2I, p_eFld, p_eAr, p_eRo, p_eLen, eCal, p_eMt, p_eAbs, p_eBo, p_eCon, p_aA0, p_aA1, p_oCmp, p_oCm0, p_oCmpL, p_oNul, p_oAnd, p_oOr, p_oNot]
  exact congrArg (fun z => fin false (z [v0, 0, 0, 0, 0] M)) h
noncomputable def wc1_X11_odds : CoD := (dCmp .lt (dLoc 5) (dFld wM 11 24 (dLoc 0)))
noncomputable def wb1_X11_odds : StD := (dSeq (dSet 3 (dBin (opF 9) (dLoc 3) (dCon (dCm0 .ne (dCal wM ci_X11_lives (dA1 (dA1 dA0 (dLoc 0)) (dLoc 5)))) (dUn wr (dBin (opF 0) (dCal wM ci_X11_fear (dA1 (dA1 dA0 (dLoc 0)) (dLoc 5))) (dInt 1))) (dInt 0))))
  (dInc 5 1))
noncomputable def wc2_X11_odds : CoD := (dAnd (dCmp .lt (dLoc 7) (dLoc 2)) (dCmpL .gt (dLoc 3) (dInt 0)))
noncomputable def wb2_X11_odds : StD := (dSeq (dSet 5 (dBin (opF 10) (dLoc 5) (dDiv (dvF 2) (dvW 2) (dBin (opF 11) (dLoc 5) (dUn wr (dBin (opF 0) (dCal wM ci_X11_fear (dA1 (dA1 dA0 (dLoc 0)) (dLoc 1))) (dInt 1)))) (dLoc 3))))
  (dInc 7 1))
set_option maxRecDepth 100000 in
theorem u_X11_odds (v0 v1 v2 : Int) (M : Mem) : ci_X11_odds.2.2.2.2 [v0, v1, v2] M = fin false ((dSeq (dIf (dOr (dNot (dCm0 .ne (dCal wM ci_X11_lives (dA1 (dA1 dA0 (dLoc 0)) (dLoc 1))))) (dNot (dCm0 .ne (dCal wM ci_X11_in (dA1 (dA1 (dA1 dA0 (dLoc 2)) (dInt 0)) (dInt 30)))))) (dRet (dInt (-1))))
  (dSeq (dSet 3 (dInt 0))
  (dSeq (dSeq (dSet 5 (dInt 0))
  (dWh (wc1_X11_odds) (wb1_X11_odds)))
  (dSeq (dSet 5 (dInt 1000000000))
  (dSeq (dSeq (dSet 7 (dInt 0))
  (dWh (wc2_X11_odds) (wb2_X11_odds)))
  (dRet (dUn id (dLoc 5)))))))) [v0, v1, v2, 0, 0, 0, 0, 0] M) := by
  have h : a_X11_odds.1.1 = (dSeq (dIf (dOr (dNot (dCm0 .ne (dCal wM ci_X11_lives (dA1 (dA1 dA0 (dLoc 0)) (dLoc 1))))) (dNot (dCm0 .ne (dCal wM ci_X11_in (dA1 (dA1 (dA1 dA0 (dLoc 2)) (dInt 0)) (dInt 30)))))) (dRet (dInt (-1))))
  (dSeq (dSet 3 (dInt 0))
  (dSeq (dSeq (dSet 5 (dInt 0))
  (dWh (wc1_X11_odds) (wb1_X11_odds)))
  (dSeq (dSet 5 (dInt 1000000000))
  (dSeq (dSeq (dSet 7 (dInt 0))
  (dWh (wc2_X11_odds) (wb2_X11_odds)))
  (dRet (dUn id (dLoc 5)))))))) := by simp only [a_X11_odds, wc1_X11_odds, wb1_X11_odds, wc2_X11_odds, wb2_X11_odds, p_sSet, p_sInc, p_sPutF, p_sUpdF, p_sPutA, p_sUpdA, sDo, p_sCpy, p_sSeq, p_sIf, p_sIfE, p_sWh, p_sRet, p_sReV, p_sBlk, p_sSw, p_wDf, p_wCs, p_eInt, p_eLng, p_eNll, p_eStr, p_eSta, p_eLoc, p_eBin, p_eDiv, p_eI2L, p_eL2I, p_eFld, p_eAr, p_eRo, p_eLen, eCal, p_eMt, p_eAbs, p_eBo, p_eCon, p_aA0, p_aA1, p_oCmp, p_oCm0, p_oCmpL, p_oNul, p_oAnd, p_oOr, p_oNot]
  exact congrArg (fun z => fin false (z [v0, v1, v2, 0, 0, 0, 0, 0] M)) h
noncomputable def wc1_X11_mostOf : CoD := (dCmp .lt (dLoc 3) (dFld wM 11 24 (dLoc 0)))
noncomputable def wb1_X11_mostOf : StD := (dSeq (dSet 2 (dCon (dAnd (dCm0 .ne (dCal wM ci_X11_lives (dA1 (dA1 dA0 (dLoc 0)) (dLoc 3)))) (dOr (dCmp .eq (dLoc 2) (dInt (-1))) (dCmp .gt (dCal wM ci_X11_of (dA1 (dA1 (dA1 dA0 (dLoc 0)) (dLoc 3)) (dLoc 1))) (dCal wM ci_X11_of (dA1 (dA1 (dA1 dA0 (dLoc 0)) (dLoc 2)) (dLoc 1)))))) (dLoc 3) (dLoc 2)))
  (dInc 3 1))
set_option maxRecDepth 100000 in
theorem u_X11_mostOf (v0 v1 : Int) (M : Mem) : ci_X11_mostOf.2.2.2.2 [v0, v1] M = fin false ((dSeq (dSet 2 (dInt (-1)))
  (dSeq (dSeq (dSet 3 (dInt 0))
  (dWh (wc1_X11_mostOf) (wb1_X11_mostOf)))
  (dRet (dLoc 2)))) [v0, v1, 0, 0] M) := by
  have h : a_X11_mostOf.1.1 = (dSeq (dSet 2 (dInt (-1)))
  (dSeq (dSeq (dSet 3 (dInt 0))
  (dWh (wc1_X11_mostOf) (wb1_X11_mostOf)))
  (dRet (dLoc 2)))) := by simp only [a_X11_mostOf, wc1_X11_mostOf, wb1_X11_mostOf, p_sSet, p_sInc, p_sPutF, p_sUpdF, p_sPutA, p_sUpdA, sDo, p_sCpy, p_sSeq, p_sIf, p_sIfE, p_sWh, p_sRet, p_sReV, p_sBlk, p_sSw, p_wDf, p_wCs, p_eInt, p_eLng, p_eNll, p_eStr, p_eSta, p_eLoc, p_eBin, p_eDiv, p_eI2L, p_eL2I, p_eFld, p_eAr, p_eRo, p_eLen, eCal, p_eMt, p_eAbs, p_eBo, p_eCon, p_aA0, p_aA1, p_oCmp, p_oCm0, p_oCmpL, p_oNul, p_oAnd, p_oOr, p_oNot]
  exact congrArg (fun z => fin false (z [v0, v1, 0, 0] M)) h
set_option maxRecDepth 100000 in
theorem u_X11_ablest (v0 : Int) (M : Mem) : ci_X11_ablest.2.2.2.2 [v0] M = fin false ((dRet (dCal wM ci_X11_mostOf (dA1 (dA1 dA0 (dLoc 0)) (dInt 0)))) [v0] M) := by
  have h : a_X11_ablest.1.1 = (dRet (dCal wM ci_X11_mostOf (dA1 (dA1 dA0 (dLoc 0)) (dInt 0)))) := by simp only [a_X11_ablest, p_sSet, p_sInc, p_sPutF, p_sUpdF, p_sPutA, p_sUpdA, sDo, p_sCpy, p_sSeq, p_sIf, p_sIfE, p_sWh, p_sRet, p_sReV, p_sBlk, p_sSw, p_wDf, p_wCs, p_eInt, p_eLng, p_eNll, p_eStr, p_eSta, p_eLoc, p_eBin, p_eDiv, p_eI2L, p_eL2I, p_eFld, p_eAr, p_eRo, p_eLen, eCal, p_eMt, p_eAbs, p_eBo, p_eCon, p_aA0, p_aA1, p_oCmp, p_oCm0, p_oCmpL, p_oNul, p_oAnd, p_oOr, p_oNot]
  exact congrArg (fun z => fin false (z [v0] M)) h
set_option maxRecDepth 100000 in
theorem u_X11_hides (v0 v1 : Int) (M : Mem) : ci_X11_hides.2.2.2.2 [v0, v1] M = fin false ((dRet (dCon (dCm0 .ne (dCal wM ci_X11_lives (dA1 (dA1 dA0 (dLoc 0)) (dLoc 1)))) (dBin (opF 1) (dCal wM ci_X11_of (dA1 (dA1 (dA1 dA0 (dLoc 0)) (dLoc 1)) (dInt 0))) (dCal wM ci_X11_of (dA1 (dA1 (dA1 dA0 (dLoc 0)) (dLoc 1)) (dInt 1)))) (dInt (-1)))) [v0, v1] M) := by
  have h : a_X11_hides.1.1 = (dRet (dCon (dCm0 .ne (dCal wM ci_X11_lives (dA1 (dA1 dA0 (dLoc 0)) (dLoc 1)))) (dBin (opF 1) (dCal wM ci_X11_of (dA1 (dA1 (dA1 dA0 (dLoc 0)) (dLoc 1)) (dInt 0))) (dCal wM ci_X11_of (dA1 (dA1 (dA1 dA0 (dLoc 0)) (dLoc 1)) (dInt 1)))) (dInt (-1)))) := by simp only [a_X11_hides, p_sSet, p_sInc, p_sPutF, p_sUpdF, p_sPutA, p_sUpdA, sDo, p_sCpy, p_sSeq, p_sIf, p_sIfE, p_sWh, p_sRet, p_sReV, p_sBlk, p_sSw, p_wDf, p_wCs, p_eInt, p_eLng, p_eNll, p_eStr, p_eSta, p_eLoc, p_eBin, p_eDiv, p_eI2L, p_eL2I, p_eFld, p_eAr, p_eRo, p_eLen, eCal, p_eMt, p_eAbs, p_eBo, p_eCon, p_aA0, p_aA1, p_oCmp, p_oCm0, p_oCmpL, p_oNul, p_oAnd, p_oOr, p_oNot]
  exact congrArg (fun z => fin false (z [v0, v1] M)) h
noncomputable def wc1_X11_order : CoD := (dCmp .lt (dLoc 4) (dFld wM 11 24 (dLoc 0)))
noncomputable def wb1_X11_order : StD := (dSeq (dSet 3 (dCon (dAnd (dCm0 .ne (dCal wM ci_X11_has (dA1 (dA1 dA0 (dLoc 2)) (dLoc 4)))) (dOr (dCmp .eq (dLoc 3) (dInt (-1))) (dCmp .gt (dCal wM ci_X11_fear (dA1 (dA1 dA0 (dLoc 0)) (dLoc 4))) (dCal wM ci_X11_fear (dA1 (dA1 dA0 (dLoc 0)) (dLoc 3)))))) (dLoc 4) (dLoc 3)))
  (dInc 4 1))
noncomputable def wc2_X11_order : CoD := (dCm0 .ne (dLoc 2))
noncomputable def wb2_X11_order : StD := (dSeq (dSet 3 (dInt (-1)))
  (dSeq (dSeq (dSet 4 (dInt 0))
  (dWh (wc1_X11_order) (wb1_X11_order)))
  (dSeq (dSet 2 (dBin (opF 3) (dLoc 2) (dBin (opF 5) (dBin (opF 6) (dInt 1) (dLoc 3)) (dInt (-1)))))
  (dSet 1 (dBin (opF 0) (dBin (opF 2) (dInt 10) (dLoc 1)) (dLoc 3))))))
set_option maxRecDepth 100000 in
theorem u_X11_order (v0 : Int) (M : Mem) : ci_X11_order.2.2.2.2 [v0] M = fin false ((dSeq (dIf (dCm0 .eq (dFld wM 11 24 (dLoc 0))) (dRet (dInt (-1))))
  (dSeq (dSet 1 (dInt 0))
  (dSeq (dSet 2 (dCal wM ci_X11_living (dA1 dA0 (dLoc 0))))
  (dSeq (dWh (wc2_X11_order) (wb2_X11_order))
  (dRet (dLoc 1)))))) [v0, 0, 0, 0, 0] M) := by
  have h : a_X11_order.1.1 = (dSeq (dIf (dCm0 .eq (dFld wM 11 24 (dLoc 0))) (dRet (dInt (-1))))
  (dSeq (dSet 1 (dInt 0))
  (dSeq (dSet 2 (dCal wM ci_X11_living (dA1 dA0 (dLoc 0))))
  (dSeq (dWh (wc2_X11_order) (wb2_X11_order))
  (dRet (dLoc 1)))))) := by simp only [a_X11_order, wc1_X11_order, wb1_X11_order, wc2_X11_order, wb2_X11_order, p_sSet, p_sInc, p_sPutF, p_sUpdF, p_sPutA, p_sUpdA, sDo, p_sCpy, p_sSeq, p_sIf, p_sIfE, p_sWh, p_sRet, p_sReV, p_sBlk, p_sSw, p_wDf, p_wCs, p_eInt, p_eLng, p_eNll, p_eStr, p_eSta, p_eLoc, p_eBin, p_eDiv, p_eI2L, p_eL2I, p_eFld, p_eAr, p_eRo, p_eLen, eCal, p_eMt, p_eAbs, p_eBo, p_eCon, p_aA0, p_aA1, p_oCmp, p_oCm0, p_oCmpL, p_oNul, p_oAnd, p_oOr, p_oNot]
  exact congrArg (fun z => fin false (z [v0, 0, 0, 0, 0] M)) h
noncomputable def wc1_X11_safe : CoD := (dAnd (dCm0 .ge (dLoc 3)) (dCmp .eq (dCal wM ci_X11_chosenNow (dA1 dA0 (dLoc 0))) (dLoc 1)))
noncomputable def wb1_X11_safe : StD := (dSeq (dInc 3 (-1))
  (dDo wM ci_X11_lay (dA1 (dA1 (dA1 (dA1 dA0 (dLoc 0)) (dLoc 1)) (dInt 1)) (dLoc 3))))
set_option maxRecDepth 100000 in
theorem u_X11_safe (v0 v1 : Int) (M : Mem) : ci_X11_safe.2.2.2.2 [v0, v1] M = fin false ((dSeq (dIf (dNot (dCm0 .ne (dCal wM ci_X11_lives (dA1 (dA1 dA0 (dLoc 0)) (dLoc 1))))) (dRet (dInt (-1))))
  (dSeq (dSet 2 (dCal wM ci_X11_of (dA1 (dA1 (dA1 dA0 (dLoc 0)) (dLoc 1)) (dInt 1))))
  (dSeq (dSet 3 (dCal wM ci_X11_of (dA1 (dA1 (dA1 dA0 (dLoc 0)) (dLoc 1)) (dInt 0))))
  (dSeq (dDo wM ci_X11_lay (dA1 (dA1 (dA1 (dA1 dA0 (dLoc 0)) (dLoc 1)) (dInt 1)) (dLoc 3)))
  (dSeq (dWh (wc1_X11_safe) (wb1_X11_safe))
  (dSeq (dDo wM ci_X11_lay (dA1 (dA1 (dA1 (dA1 dA0 (dLoc 0)) (dLoc 1)) (dInt 1)) (dLoc 2)))
  (dRet (dCon (dCm0 .lt (dLoc 3)) (dInt (-1)) (dLoc 3))))))))) [v0, v1, 0, 0] M) := by
  have h : a_X11_safe.1.1 = (dSeq (dIf (dNot (dCm0 .ne (dCal wM ci_X11_lives (dA1 (dA1 dA0 (dLoc 0)) (dLoc 1))))) (dRet (dInt (-1))))
  (dSeq (dSet 2 (dCal wM ci_X11_of (dA1 (dA1 (dA1 dA0 (dLoc 0)) (dLoc 1)) (dInt 1))))
  (dSeq (dSet 3 (dCal wM ci_X11_of (dA1 (dA1 (dA1 dA0 (dLoc 0)) (dLoc 1)) (dInt 0))))
  (dSeq (dDo wM ci_X11_lay (dA1 (dA1 (dA1 (dA1 dA0 (dLoc 0)) (dLoc 1)) (dInt 1)) (dLoc 3)))
  (dSeq (dWh (wc1_X11_safe) (wb1_X11_safe))
  (dSeq (dDo wM ci_X11_lay (dA1 (dA1 (dA1 (dA1 dA0 (dLoc 0)) (dLoc 1)) (dInt 1)) (dLoc 2)))
  (dRet (dCon (dCm0 .lt (dLoc 3)) (dInt (-1)) (dLoc 3))))))))) := by simp only [a_X11_safe, wc1_X11_safe, wb1_X11_safe, p_sSet, p_sInc, p_sPutF, p_sUpdF, p_sPutA, p_sUpdA, sDo, p_sCpy, p_sSeq, p_sIf, p_sIfE, p_sWh, p_sRet, p_sReV, p_sBlk, p_sSw, p_wDf, p_wCs, p_eInt, p_eLng, p_eNll, p_eStr, p_eSta, p_eLoc, p_eBin, p_eDiv, p_eI2L, p_eL2I, p_eFld, p_eAr, p_eRo, p_eLen, eCal, p_eMt, p_eAbs, p_eBo, p_eCon, p_aA0, p_aA1, p_oCmp, p_oCm0, p_oCmpL, p_oNul, p_oAnd, p_oOr, p_oNot]
  exact congrArg (fun z => fin false (z [v0, v1, 0, 0] M)) h
set_option maxRecDepth 100000 in
theorem u_X11_friends (v0 v1 : Int) (M : Mem) : ci_X11_friends.2.2.2.2 [v0, v1] M = fin false ((dRet (dCon (dCm0 .ne (dCal wM ci_X11_isLad (dA1 (dA1 dA0 (dLoc 0)) (dLoc 1)))) (dCal wM ci_X11_friendsOf (dA1 (dA1 dA0 (dLoc 0)) (dLoc 1))) (dInt (-1)))) [v0, v1] M) := by
  have h : a_X11_friends.1.1 = (dRet (dCon (dCm0 .ne (dCal wM ci_X11_isLad (dA1 (dA1 dA0 (dLoc 0)) (dLoc 1)))) (dCal wM ci_X11_friendsOf (dA1 (dA1 dA0 (dLoc 0)) (dLoc 1))) (dInt (-1)))) := by simp only [a_X11_friends, p_sSet, p_sInc, p_sPutF, p_sUpdF, p_sPutA, p_sUpdA, sDo, p_sCpy, p_sSeq, p_sIf, p_sIfE, p_sWh, p_sRet, p_sReV, p_sBlk, p_sSw, p_wDf, p_wCs, p_eInt, p_eLng, p_eNll, p_eStr, p_eSta, p_eLoc, p_eBin, p_eDiv, p_eI2L, p_eL2I, p_eFld, p_eAr, p_eRo, p_eLen, eCal, p_eMt, p_eAbs, p_eBo, p_eCon, p_aA0, p_aA1, p_oCmp, p_oCm0, p_oCmpL, p_oNul, p_oAnd, p_oOr, p_oNot]
  exact congrArg (fun z => fin false (z [v0, v1] M)) h
set_option maxRecDepth 100000 in
theorem u_X11_oldest (v0 : Int) (M : Mem) : ci_X11_oldest.2.2.2.2 [v0] M = fin false ((dRet (dCal wM ci_X11_mostOf (dA1 (dA1 dA0 (dLoc 0)) (dInt 4)))) [v0] M) := by
  have h : a_X11_oldest.1.1 = (dRet (dCal wM ci_X11_mostOf (dA1 (dA1 dA0 (dLoc 0)) (dInt 4)))) := by simp only [a_X11_oldest, p_sSet, p_sInc, p_sPutF, p_sUpdF, p_sPutA, p_sUpdA, sDo, p_sCpy, p_sSeq, p_sIf, p_sIfE, p_sWh, p_sRet, p_sReV, p_sBlk, p_sSw, p_wDf, p_wCs, p_eInt, p_eLng, p_eNll, p_eStr, p_eSta, p_eLoc, p_eBin, p_eDiv, p_eI2L, p_eL2I, p_eFld, p_eAr, p_eRo, p_eLen, eCal, p_eMt, p_eAbs, p_eBo, p_eCon, p_aA0, p_aA1, p_oCmp, p_oCm0, p_oCmpL, p_oNul, p_oAnd, p_oOr, p_oNot]
  exact congrArg (fun z => fin false (z [v0] M)) h
set_option maxRecDepth 100000 in
theorem u_X11_learns (v0 v1 : Int) (M : Mem) : ci_X11_learns.2.2.2.2 [v0, v1] M = fin false ((dRet (dCon (dCm0 .ne (dCal wM ci_X11_lives (dA1 (dA1 dA0 (dLoc 0)) (dLoc 1)))) (dCal wM ci_X11_learnsBy (dA1 (dA1 (dA1 (dA1 dA0 (dLoc 0)) (dLoc 1)) (dCal wM ci_X11_of (dA1 (dA1 (dA1 dA0 (dLoc 0)) (dLoc 1)) (dInt 1)))) (dCal wM ci_X11_manyLive (dA1 dA0 (dLoc 0))))) (dInt (-1)))) [v0, v1] M) := by
  have h : a_X11_learns.1.1 = (dRet (dCon (dCm0 .ne (dCal wM ci_X11_lives (dA1 (dA1 dA0 (dLoc 0)) (dLoc 1)))) (dCal wM ci_X11_learnsBy (dA1 (dA1 (dA1 (dA1 dA0 (dLoc 0)) (dLoc 1)) (dCal wM ci_X11_of (dA1 (dA1 (dA1 dA0 (dLoc 0)) (dLoc 1)) (dInt 1)))) (dCal wM ci_X11_manyLive (dA1 dA0 (dLoc 0))))) (dInt (-1)))) := by simp only [a_X11_learns, p_sSet, p_sInc, p_sPutF, p_sUpdF, p_sPutA, p_sUpdA, sDo, p_sCpy, p_sSeq, p_sIf, p_sIfE, p_sWh, p_sRet, p_sReV, p_sBlk, p_sSw, p_wDf, p_wCs, p_eInt, p_eLng, p_eNll, p_eStr, p_eSta, p_eLoc, p_eBin, p_eDiv, p_eI2L, p_eL2I, p_eFld, p_eAr, p_eRo, p_eLen, eCal, p_eMt, p_eAbs, p_eBo, p_eCon, p_aA0, p_aA1, p_oCmp, p_oCm0, p_oCmpL, p_oNul, p_oAnd, p_oOr, p_oNot]
  exact congrArg (fun z => fin false (z [v0, v1] M)) h
noncomputable def wc1_X11_image : CoD := (dCmp .lt (dLoc 1) (dInt 231))
noncomputable def wb1_X11_image : StD := (dSeq (dPutA wM 0 (dFld wM 11 44 (dLoc 0)) (dLoc 1) (dAr wM 0 (dFld wM 11 26 (dLoc 0)) (dLoc 1)))
  (dInc 1 1))
set_option maxRecDepth 100000 in
theorem u_X11_image (v0 : Int) (M : Mem) : ci_X11_image.2.2.2.2 [v0] M = fin false ((dSeq (dIf (dCm0 .eq (dFld wM 11 24 (dLoc 0))) (dRet (dInt (-1))))
  (dSeq (dSeq (dSet 1 (dInt 0))
  (dWh (wc1_X11_image) (wb1_X11_image)))
  (dSeq (dPutF wM 11 45 (dLoc 0) (dInt 1))
  (dRet (dAr wM 0 (dFld wM 11 26 (dLoc 0)) (dInt 49)))))) [v0, 0] M) := by
  have h : a_X11_image.1.1 = (dSeq (dIf (dCm0 .eq (dFld wM 11 24 (dLoc 0))) (dRet (dInt (-1))))
  (dSeq (dSeq (dSet 1 (dInt 0))
  (dWh (wc1_X11_image) (wb1_X11_image)))
  (dSeq (dPutF wM 11 45 (dLoc 0) (dInt 1))
  (dRet (dAr wM 0 (dFld wM 11 26 (dLoc 0)) (dInt 49)))))) := by simp only [a_X11_image, wc1_X11_image, wb1_X11_image, p_sSet, p_sInc, p_sPutF, p_sUpdF, p_sPutA, p_sUpdA, sDo, p_sCpy, p_sSeq, p_sIf, p_sIfE, p_sWh, p_sRet, p_sReV, p_sBlk, p_sSw, p_wDf, p_wCs, p_eInt, p_eLng, p_eNll, p_eStr, p_eSta, p_eLoc, p_eBin, p_eDiv, p_eI2L, p_eL2I, p_eFld, p_eAr, p_eRo, p_eLen, eCal, p_eMt, p_eAbs, p_eBo, p_eCon, p_aA0, p_aA1, p_oCmp, p_oCm0, p_oCmpL, p_oNul, p_oAnd, p_oOr, p_oNot]
  exact congrArg (fun z => fin false (z [v0, 0] M)) h
noncomputable def wc1_X11_back : CoD := (dCmp .lt (dLoc 1) (dInt 231))
noncomputable def wb1_X11_back : StD := (dSeq (dPutA wM 0 (dFld wM 11 26 (dLoc 0)) (dLoc 1) (dAr wM 0 (dFld wM 11 44 (dLoc 0)) (dLoc 1)))
  (dInc 1 1))
set_option maxRecDepth 100000 in
theorem u_X11_back (v0 : Int) (M : Mem) : ci_X11_back.2.2.2.2 [v0] M = fin false ((dSeq (dIf (dNot (dCm0 .ne (dFld wM 11 45 (dLoc 0)))) (dRet (dInt (-1))))
  (dSeq (dSeq (dSet 1 (dInt 0))
  (dWh (wc1_X11_back) (wb1_X11_back)))
  (dSeq (dPutF wM 11 31 (dLoc 0) (dInt 0))
  (dRet (dAr wM 0 (dFld wM 11 26 (dLoc 0)) (dInt 49)))))) [v0, 0] M) := by
  have h : a_X11_back.1.1 = (dSeq (dIf (dNot (dCm0 .ne (dFld wM 11 45 (dLoc 0)))) (dRet (dInt (-1))))
  (dSeq (dSeq (dSet 1 (dInt 0))
  (dWh (wc1_X11_back) (wb1_X11_back)))
  (dSeq (dPutF wM 11 31 (dLoc 0) (dInt 0))
  (dRet (dAr wM 0 (dFld wM 11 26 (dLoc 0)) (dInt 49)))))) := by simp only [a_X11_back, wc1_X11_back, wb1_X11_back, p_sSet, p_sInc, p_sPutF, p_sUpdF, p_sPutA, p_sUpdA, sDo, p_sCpy, p_sSeq, p_sIf, p_sIfE, p_sWh, p_sRet, p_sReV, p_sBlk, p_sSw, p_wDf, p_wCs, p_eInt, p_eLng, p_eNll, p_eStr, p_eSta, p_eLoc, p_eBin, p_eDiv, p_eI2L, p_eL2I, p_eFld, p_eAr, p_eRo, p_eLen, eCal, p_eMt, p_eAbs, p_eBo, p_eCon, p_aA0, p_aA1, p_oCmp, p_oCm0, p_oCmpL, p_oNul, p_oAnd, p_oOr, p_oNot]
  exact congrArg (fun z => fin false (z [v0, 0] M)) h
set_option maxRecDepth 100000 in
theorem u_X11_count (v0 v1 : Int) (M : Mem) : ci_X11_count.2.2.2.2 [v0, v1] M = fin false ((dSw (dLoc 1) (dCs 0 (dRet (dFld wM 11 24 (dLoc 0)))
  (dCs 1 (dRet (dFld wM 11 25 (dLoc 0)))
  (dCs 2 (dRet (dFld wM 11 13 (dLoc 0)))
  (dCs 3 (dRet (dFld wM 11 2 (dLoc 0)))
  (dCs 4 (dRet (dFld wM 11 28 (dLoc 0)))
  (dCs 5 (dRet (dAr wM 0 (dFld wM 11 26 (dLoc 0)) (dInt 49)))
  (dCs 6 (dRet (dCal wM ci_X11_living (dA1 dA0 (dLoc 0))))
  (dCs 7 (dRet (dCal wM ci_X11_artOf (dA1 (dA1 dA0 (dLoc 0)) (dCal wM ci_X11_living (dA1 dA0 (dLoc 0))))))
  (dCs 8 (dRet (dAr wM 0 (dFld wM 11 26 (dLoc 0)) (dInt 48)))
  (dCs 9 (dRet (dFld wM 11 29 (dLoc 0)))
  (dCs 10 (dRet (dFld wM 11 38 (dLoc 0)))
  (dCs 11 (dRet (dFld wM 11 43 (dLoc 0)))
  (dCs 12 (dRet (dAr wM 0 (dFld wM 11 26 (dLoc 0)) (dInt 50)))
  (dCs 13 (dRet (dFld wM 11 31 (dLoc 0)))
  (fun _ => (dRet (dInt (-1000000))))))))))))))))))) [v0, v1] M) := by
  have h : a_X11_count.1.1 = (dSw (dLoc 1) (dCs 0 (dRet (dFld wM 11 24 (dLoc 0)))
  (dCs 1 (dRet (dFld wM 11 25 (dLoc 0)))
  (dCs 2 (dRet (dFld wM 11 13 (dLoc 0)))
  (dCs 3 (dRet (dFld wM 11 2 (dLoc 0)))
  (dCs 4 (dRet (dFld wM 11 28 (dLoc 0)))
  (dCs 5 (dRet (dAr wM 0 (dFld wM 11 26 (dLoc 0)) (dInt 49)))
  (dCs 6 (dRet (dCal wM ci_X11_living (dA1 dA0 (dLoc 0))))
  (dCs 7 (dRet (dCal wM ci_X11_artOf (dA1 (dA1 dA0 (dLoc 0)) (dCal wM ci_X11_living (dA1 dA0 (dLoc 0))))))
  (dCs 8 (dRet (dAr wM 0 (dFld wM 11 26 (dLoc 0)) (dInt 48)))
  (dCs 9 (dRet (dFld wM 11 29 (dLoc 0)))
  (dCs 10 (dRet (dFld wM 11 38 (dLoc 0)))
  (dCs 11 (dRet (dFld wM 11 43 (dLoc 0)))
  (dCs 12 (dRet (dAr wM 0 (dFld wM 11 26 (dLoc 0)) (dInt 50)))
  (dCs 13 (dRet (dFld wM 11 31 (dLoc 0)))
  (fun _ => (dRet (dInt (-1000000))))))))))))))))))) := by simp only [a_X11_count, p_sSet, p_sInc, p_sPutF, p_sUpdF, p_sPutA, p_sUpdA, sDo, p_sCpy, p_sSeq, p_sIf, p_sIfE, p_sWh, p_sRet, p_sReV, p_sBlk, p_sSw, p_wDf, p_wCs, p_eInt, p_eLng, p_eNll, p_eStr, p_eSta, p_eLoc, p_eBin, p_eDiv, p_eI2L, p_eL2I, p_eFld, p_eAr, p_eRo, p_eLen, eCal, p_eMt, p_eAbs, p_eBo, p_eCon, p_aA0, p_aA1, p_oCmp, p_oCm0, p_oCmpL, p_oNul, p_oAnd, p_oOr, p_oNot]
  exact congrArg (fun z => fin false (z [v0, v1] M)) h
